/-! The constructors, by program (geninit). -/
section INI
variable {Γ : mG} {d : Nat} {w w' : mW} {Q : Value → mW → Prop}
theorem c_iHen {L : List (Nat × Nat × Nat)} {K : List (Nat × Nat × Int32)} {a : Nat} (ho : (zL a).1 = 10) (ha : a + 1 ≤ 82) (hD : ∀ b, a + 1 ≤ b → zDef (zW0 L K) b) (hq : Q .null (zW0 (L) (K))) : Call Γ (d + 1) 0 0 kX0_init [.ref a] (a + 1) (zW0 L K) Q := by
  refine Call.of mkX0_init ⟨by decide +kernel, rfl⟩ (Nat.le_of_ble_eq_true rfl) ?_
  refine zs_aload_n (pc := 0) (k := 0) (i := 0) (by decide +kernel) rfl rfl ?_
  refine zs_obj (pc := 1) (i := 1) (pl := 1143) (by decide +kernel) (by decide +kernel) ?_
  exact zs_vret (pc := 4) (by decide +kernel) ⟨rfl, by decide⟩ rfl hq
theorem c_iText {L : List (Nat × Nat × Nat)} {K : List (Nat × Nat × Int32)} {a : Nat} (ho : (zL a).1 = 18) (ha : a + 3 ≤ 82) (h1 : zL (a + 1) = (0, 160)) (h2 : zL (a + 2) = (0, 3)) (hD : ∀ b, a + 1 ≤ b → zDef (zW0 L K) b) (hq : Q .null (zW0 ((a, 1, a + 2) :: (a, 0, a + 1) :: L) (K))) : Call Γ (d + 1) 2 163 kX8_init [.ref a] (a + 1) (zW0 L K) Q := by
  refine Call.of mkX8_init ⟨by decide +kernel, rfl⟩ (Nat.le_of_ble_eq_true rfl) ?_
  refine zs_aload_n (pc := 0) (k := 0) (i := 0) (by decide +kernel) rfl rfl ?_
  refine zs_obj (pc := 1) (i := 3) (pl := 1107) (by decide +kernel) (by decide +kernel) ?_
  refine zs_aload_n (pc := 4) (k := 0) (i := 0) (by decide +kernel) rfl rfl ?_
  refine zs_sipush (pc := 5) (n := 160) (v := 160) (by decide +kernel) (by decide) ?_
  refine zs_newa (pc := 8) (N := 160) (t := 0) (pl := 1042) (at0 := .int) (ty := .int) (by decide +kernel) rfl (by decide +kernel) (Or.inl ⟨rfl, rfl⟩) h1 (by omega) (by decide) (by decide) (by decide) ((hD (a + 1) (by omega))) ⟨by decide, by decide⟩ ?_
  refine zz_putR (pc := 10) (i := 9) (c := 8) (k := 0) (pl := 1108) (a := a) (b := a + 1) (by decide +kernel) (by decide) (by decide +kernel) rfl rfl rfl ⟨by omega, ho⟩ (by omega) rfl rfl (fun _ => rfl) ?_
  refine zs_aload_n (pc := 13) (k := 0) (i := 0) (by decide +kernel) rfl rfl ?_
  refine zs_iconst (pc := 14) (n := 3) (v := 3) (by decide +kernel) (by decide) ?_
  refine zs_newa (pc := 15) (N := 3) (t := 0) (pl := 1042) (at0 := .int) (ty := .int) (by decide +kernel) rfl (by decide +kernel) (Or.inl ⟨rfl, rfl⟩) h2 (by omega) (by decide) (by decide) (by decide) (((hD (a + 2) (by omega))).z (by omega)) ⟨by decide, by decide⟩ ?_
  refine zz_putR (pc := 17) (i := 15) (c := 8) (k := 1) (pl := 1109) (a := a) (b := a + 2) (by decide +kernel) (by decide) (by decide +kernel) rfl rfl rfl ⟨by omega, ho⟩ (by omega) rfl rfl (fun _ => rfl) ?_
  exact zs_vret (pc := 20) (by decide +kernel) ⟨rfl, by decide⟩ rfl hq
theorem c_iSheet {L : List (Nat × Nat × Nat)} {K : List (Nat × Nat × Int32)} {a : Nat} (ho : (zL a).1 = 15) (ha : a + 2 ≤ 82) (h1 : zL (a + 1) = (0, 40)) (hD : ∀ b, a + 1 ≤ b → zDef (zW0 L K) b) (hq : Q .null (zW0 ((a, 0, a + 1) :: L) ((a, 1, (-1)) :: K))) : Call Γ (d + 1) 1 40 kX5_init [.ref a] (a + 1) (zW0 L K) Q := by
  refine Call.of mkX5_init ⟨by decide +kernel, rfl⟩ (Nat.le_of_ble_eq_true rfl) ?_
  refine zs_aload_n (pc := 0) (k := 0) (i := 0) (by decide +kernel) rfl rfl ?_
  refine zs_obj (pc := 1) (i := 3) (pl := 1220) (by decide +kernel) (by decide +kernel) ?_
  refine zs_aload_n (pc := 4) (k := 0) (i := 0) (by decide +kernel) rfl rfl ?_
  refine zs_bipush (pc := 5) (n := 40) (v := 40) (by decide +kernel) (by decide) ?_
  refine zs_newa (pc := 7) (N := 40) (t := 0) (pl := 1042) (at0 := .int) (ty := .int) (by decide +kernel) rfl (by decide +kernel) (Or.inl ⟨rfl, rfl⟩) h1 (by omega) (by decide) (by decide) (by decide) ((hD (a + 1) (by omega))) ⟨by decide, by decide⟩ ?_
  refine zz_putR (pc := 9) (i := 9) (c := 5) (k := 0) (pl := 1221) (a := a) (b := a + 1) (by decide +kernel) (by decide) (by decide +kernel) rfl rfl rfl ⟨by omega, ho⟩ (by omega) rfl rfl (fun _ => rfl) ?_
  refine zs_aload_n (pc := 12) (k := 0) (i := 0) (by decide +kernel) rfl rfl ?_
  refine zs_iconst (pc := 13) (n := (-1)) (v := (-1)) (by decide +kernel) (by decide) ?_
  refine zz_putI (pc := 14) (i := 15) (c := 5) (k := 1) (pl := 1222) (a := a) (x := (-1)) (by decide +kernel) (by decide) (by decide +kernel) rfl rfl ⟨by omega, ho⟩ ?_
  exact zs_vret (pc := 17) (by decide +kernel) ⟨rfl, by decide⟩ rfl hq
theorem c_iStrife {L : List (Nat × Nat × Nat)} {K : List (Nat × Nat × Int32)} {a : Nat} (ho : (zL a).1 = 16) (ha : a + 3 ≤ 82) (h1 : zL (a + 1) = (0, 10)) (h2 : zL (a + 2) = (0, 10)) (hD : ∀ b, a + 1 ≤ b → zDef (zW0 L K) b) (hq : Q .null (zW0 ((a, 1, a + 2) :: (a, 0, a + 1) :: L) (K))) : Call Γ (d + 1) 2 20 kX6_init [.ref a] (a + 1) (zW0 L K) Q := by
  refine Call.of mkX6_init ⟨by decide +kernel, rfl⟩ (Nat.le_of_ble_eq_true rfl) ?_
  refine zs_aload_n (pc := 0) (k := 0) (i := 0) (by decide +kernel) rfl rfl ?_
  refine zs_obj (pc := 1) (i := 3) (pl := 1034) (by decide +kernel) (by decide +kernel) ?_
  refine zs_aload_n (pc := 4) (k := 0) (i := 0) (by decide +kernel) rfl rfl ?_
  refine zs_bipush (pc := 5) (n := 10) (v := 10) (by decide +kernel) (by decide) ?_
  refine zs_newa (pc := 7) (N := 10) (t := 0) (pl := 1042) (at0 := .int) (ty := .int) (by decide +kernel) rfl (by decide +kernel) (Or.inl ⟨rfl, rfl⟩) h1 (by omega) (by decide) (by decide) (by decide) ((hD (a + 1) (by omega))) ⟨by decide, by decide⟩ ?_
  refine zz_putR (pc := 9) (i := 9) (c := 6) (k := 0) (pl := 1035) (a := a) (b := a + 1) (by decide +kernel) (by decide) (by decide +kernel) rfl rfl rfl ⟨by omega, ho⟩ (by omega) rfl rfl (fun _ => rfl) ?_
  refine zs_aload_n (pc := 12) (k := 0) (i := 0) (by decide +kernel) rfl rfl ?_
  refine zs_bipush (pc := 13) (n := 10) (v := 10) (by decide +kernel) (by decide) ?_
  refine zs_newa (pc := 15) (N := 10) (t := 0) (pl := 1042) (at0 := .int) (ty := .int) (by decide +kernel) rfl (by decide +kernel) (Or.inl ⟨rfl, rfl⟩) h2 (by omega) (by decide) (by decide) (by decide) (((hD (a + 2) (by omega))).z (by omega)) ⟨by decide, by decide⟩ ?_
  refine zz_putR (pc := 17) (i := 15) (c := 6) (k := 1) (pl := 1036) (a := a) (b := a + 2) (by decide +kernel) (by decide) (by decide +kernel) rfl rfl rfl ⟨by omega, ho⟩ (by omega) rfl rfl (fun _ => rfl) ?_
  exact zs_vret (pc := 20) (by decide +kernel) ⟨rfl, by decide⟩ rfl hq
theorem c_iTape {L : List (Nat × Nat × Nat)} {K : List (Nat × Nat × Int32)} (hD : ∀ b, 9 ≤ b → zDef (zW0 L K) b) (hq : Q .null (zW0 ((8, 0, 9) :: L) (K))) : Call Γ (d + 1) 1 160 kX7_init [.ref 8] (9) (zW0 L K) Q := by
  refine Call.of mkX7_init ⟨by decide +kernel, rfl⟩ (Nat.le_of_ble_eq_true rfl) ?_
  refine zs_aload_n (pc := 0) (k := 0) (i := 0) (by decide +kernel) rfl rfl ?_
  refine zs_obj (pc := 1) (i := 3) (pl := 1066) (by decide +kernel) (by decide +kernel) ?_
  refine zs_aload_n (pc := 4) (k := 0) (i := 0) (by decide +kernel) rfl rfl ?_
  refine zs_sipush (pc := 5) (n := 160) (v := 160) (by decide +kernel) (by decide) ?_
  refine zs_newa (pc := 8) (N := 160) (t := 0) (pl := 1042) (at0 := .int) (ty := .int) (by decide +kernel) rfl (by decide +kernel) (Or.inl ⟨rfl, rfl⟩) (by decide +kernel) (by decide) (by decide) (by decide) (by decide) ((hD (9) (by omega))) ⟨by decide, by decide⟩ ?_
  refine zz_putR (pc := 10) (i := 9) (c := 7) (k := 0) (pl := 1067) (a := 8) (b := 9) (by decide +kernel) (by decide) (by decide +kernel) rfl rfl rfl (zob_d rfl) (by decide) rfl rfl (fun _ => rfl) ?_
  exact zs_vret (pc := 13) (by decide +kernel) ⟨rfl, by decide⟩ rfl hq
theorem c_iTokens {L : List (Nat × Nat × Nat)} {K : List (Nat × Nat × Int32)} (hD : ∀ b, 12 ≤ b → zDef (zW0 L K) b) (hq : Q .null (zW0 ((11, 2, 14) :: (11, 1, 13) :: (11, 0, 12) :: L) (K))) : Call Γ (d + 1) 3 483 kX9_init [.ref 11] (12) (zW0 L K) Q := by
  refine Call.of mkX9_init ⟨by decide +kernel, rfl⟩ (Nat.le_of_ble_eq_true rfl) ?_
  refine zs_aload_n (pc := 0) (k := 0) (i := 0) (by decide +kernel) rfl rfl ?_
  refine zs_obj (pc := 1) (i := 3) (pl := 1085) (by decide +kernel) (by decide +kernel) ?_
  refine zs_aload_n (pc := 4) (k := 0) (i := 0) (by decide +kernel) rfl rfl ?_
  refine zs_sipush (pc := 5) (n := 161) (v := 161) (by decide +kernel) (by decide) ?_
  refine zs_newa (pc := 8) (N := 161) (t := 0) (pl := 1042) (at0 := .int) (ty := .int) (by decide +kernel) rfl (by decide +kernel) (Or.inl ⟨rfl, rfl⟩) (by decide +kernel) (by decide) (by decide) (by decide) (by decide) ((hD (12) (by omega))) ⟨by decide, by decide⟩ ?_
  refine zz_putR (pc := 10) (i := 11) (c := 9) (k := 0) (pl := 1086) (a := 11) (b := 12) (by decide +kernel) (by decide) (by decide +kernel) rfl rfl rfl (zob_d rfl) (by decide) rfl rfl (fun _ => rfl) ?_
  refine zs_aload_n (pc := 13) (k := 0) (i := 0) (by decide +kernel) rfl rfl ?_
  refine zs_sipush (pc := 14) (n := 161) (v := 161) (by decide +kernel) (by decide) ?_
  refine zs_newa (pc := 17) (N := 161) (t := 0) (pl := 1042) (at0 := .int) (ty := .int) (by decide +kernel) rfl (by decide +kernel) (Or.inl ⟨rfl, rfl⟩) (by decide +kernel) (by decide) (by decide) (by decide) (by decide) (((hD (13) (by omega))).z (by omega)) ⟨by decide, by decide⟩ ?_
  refine zz_putR (pc := 19) (i := 15) (c := 9) (k := 1) (pl := 1087) (a := 11) (b := 13) (by decide +kernel) (by decide) (by decide +kernel) rfl rfl rfl (zob_d rfl) (by decide) rfl rfl (fun _ => rfl) ?_
  refine zs_aload_n (pc := 22) (k := 0) (i := 0) (by decide +kernel) rfl rfl ?_
  refine zs_sipush (pc := 23) (n := 161) (v := 161) (by decide +kernel) (by decide) ?_
  refine zs_newa (pc := 26) (N := 161) (t := 0) (pl := 1042) (at0 := .int) (ty := .int) (by decide +kernel) rfl (by decide +kernel) (Or.inl ⟨rfl, rfl⟩) (by decide +kernel) (by decide) (by decide) (by decide) (by decide) ((((hD (14) (by omega))).z (by omega)).z (by omega)) ⟨by decide, by decide⟩ ?_
  refine zz_putR (pc := 28) (i := 18) (c := 9) (k := 2) (pl := 1088) (a := 11) (b := 14) (by decide +kernel) (by decide) (by decide +kernel) rfl rfl rfl (zob_d rfl) (by decide) rfl rfl (fun _ => rfl) ?_
  exact zs_vret (pc := 31) (by decide +kernel) ⟨rfl, by decide⟩ rfl hq
theorem c_iReader {L : List (Nat × Nat × Nat)} {K : List (Nat × Nat × Int32)} (hI : zGI Γ) (hD : ∀ b, 11 ≤ b → zDef (zW0 L K) b) (hq : Q .null (zW0 ((10, 1, 15) :: (15, 1, 17) :: (15, 0, 16) :: (10, 0, 11) :: (11, 2, 14) :: (11, 1, 13) :: (11, 0, 12) :: L) ((10, 2, (-1)) :: K))) : Call Γ (d + 2) 7 654 kX4_init [.ref 10] (11) (zW0 L K) Q := by
  refine Call.of mkX4_init ⟨by decide +kernel, rfl⟩ (Nat.le_of_ble_eq_true rfl) ?_
  refine zs_aload_n (pc := 0) (k := 0) (i := 0) (by decide +kernel) rfl rfl ?_
  refine zs_obj (pc := 1) (i := 3) (pl := 1079) (by decide +kernel) (by decide +kernel) ?_
  refine zs_aload_n (pc := 4) (k := 0) (i := 0) (by decide +kernel) rfl rfl ?_
  refine zs_new (pc := 5) (i := 9) (c := 9) (pl := 1080) (pi := 1081) (pn := 1006) (by decide +kernel) (by decide) (by decide +kernel) (by decide +kernel) (by decide +kernel) (by decide +kernel) ((hD (11) (by omega))) ⟨by decide, by decide⟩ ?_
  refine zs_dupr (pc := 8) (by decide +kernel) ?_
  refine zs_initN hI (pc := 9) (i := 11) (pv := 1083) (a := 11) (mc' := 3) (ms' := 483) (N := kX9_init) (as := []) (st' := [.ref (11), .ref (10)]) (by decide +kernel) (by decide) (by decide +kernel) rfl rfl (by decide) (by decide) rfl ⟨by decide, by decide⟩ (c_iTokens (Q := fun v w' => v = .null ∧ w' = zW0 ((11, 2, 14) :: (11, 1, 13) :: (11, 0, 12) :: L) (K)) (fun b hb => (hD b (by omega))) ⟨rfl, rfl⟩) (fun x w' q => ?_)
  obtain ⟨rfl, rfl⟩ := q
  refine zz_putR (pc := 12) (i := 12) (c := 4) (k := 0) (pl := 1118) (a := 10) (b := 11) (by decide +kernel) (by decide) (by decide +kernel) rfl rfl rfl (zob_d rfl) (by decide) rfl rfl (fun _ => rfl) ?_
  refine zs_aload_n (pc := 15) (k := 0) (i := 0) (by decide +kernel) rfl rfl ?_
  refine zs_new (pc := 16) (i := 18) (c := 8) (pl := 1102) (pi := 1103) (pn := 1007) (by decide +kernel) (by decide) (by decide +kernel) (by decide +kernel) (by decide +kernel) (by decide +kernel) ((((((hD (15) (by omega))).z (by omega)).z (by omega)).z (by omega)).z (by omega)) ⟨by decide, by decide⟩ ?_
  refine zs_dupr (pc := 19) (by decide +kernel) ?_
  refine zs_initN hI (pc := 20) (i := 20) (pv := 1105) (a := 15) (mc' := 2) (ms' := 163) (N := kX8_init) (as := []) (st' := [.ref (15), .ref (10)]) (by decide +kernel) (by decide) (by decide +kernel) rfl rfl (by decide) (by decide) rfl ⟨by decide, by decide⟩ (c_iText (Q := fun v w' => v = .null ∧ w' = zW0 ((15, 1, 17) :: (15, 0, 16) :: (10, 0, 11) :: (11, 2, 14) :: (11, 1, 13) :: (11, 0, 12) :: L) (K)) (a := 15) (by decide +kernel) (by decide) (by decide +kernel) (by decide +kernel) (fun b hb => (((((hD b (by omega))).z (by omega)).z (by omega)).z (by omega)).z (by omega)) ⟨rfl, rfl⟩) (fun x w' q => ?_)
  obtain ⟨rfl, rfl⟩ := q
  refine zz_putR (pc := 23) (i := 21) (c := 4) (k := 1) (pl := 1119) (a := 10) (b := 15) (by decide +kernel) (by decide) (by decide +kernel) rfl rfl rfl (zob_d rfl) (by decide) rfl rfl (fun _ => rfl) ?_
  refine zs_aload_n (pc := 26) (k := 0) (i := 0) (by decide +kernel) rfl rfl ?_
  refine zs_iconst (pc := 27) (n := (-1)) (v := (-1)) (by decide +kernel) (by decide) ?_
  refine zz_putI (pc := 28) (i := 25) (c := 4) (k := 2) (pl := 1120) (a := 10) (x := (-1)) (by decide +kernel) (by decide) (by decide +kernel) rfl rfl (zob_d rfl) ?_
  exact zs_vret (pc := 31) (by decide +kernel) ⟨rfl, by decide⟩ rfl hq
theorem c_iManner {L : List (Nat × Nat × Nat)} {K : List (Nat × Nat × Int32)} (hD : ∀ b, 5 ≤ b → zDef (zW0 L K) b) (hq : Q .null (zW0 ((4, 0, 1) :: (4, 2, 6) :: (4, 1, 5) :: L) (K))) : Call Γ (d + 1) 2 166 kX2_init [.ref 4, .ref 1] (5) (zW0 L K) Q := by
  refine Call.of mkX2_init ⟨by decide +kernel, rfl⟩ (Nat.le_of_ble_eq_true rfl) ?_
  refine zs_aload_n (pc := 0) (k := 0) (i := 0) (by decide +kernel) rfl rfl ?_
  refine zs_obj (pc := 1) (i := 3) (pl := 1048) (by decide +kernel) (by decide +kernel) ?_
  refine zs_aload_n (pc := 4) (k := 0) (i := 0) (by decide +kernel) rfl rfl ?_
  refine zs_bipush (pc := 5) (n := 6) (v := 6) (by decide +kernel) (by decide) ?_
  refine zs_newa (pc := 7) (N := 6) (t := 0) (pl := 1042) (at0 := .int) (ty := .int) (by decide +kernel) rfl (by decide +kernel) (Or.inl ⟨rfl, rfl⟩) (by decide +kernel) (by decide) (by decide) (by decide) (by decide) ((hD (5) (by omega))) ⟨by decide, by decide⟩ ?_
  refine zz_putR (pc := 9) (i := 9) (c := 2) (k := 1) (pl := 1050) (a := 4) (b := 5) (by decide +kernel) (by decide) (by decide +kernel) rfl rfl rfl (zob_d rfl) (by decide) rfl rfl (fun _ => rfl) ?_
  refine zs_aload_n (pc := 12) (k := 0) (i := 0) (by decide +kernel) rfl rfl ?_
  refine zs_sipush (pc := 13) (n := 160) (v := 160) (by decide +kernel) (by decide) ?_
  refine zs_newa (pc := 16) (N := 160) (t := 0) (pl := 1042) (at0 := .int) (ty := .int) (by decide +kernel) rfl (by decide +kernel) (Or.inl ⟨rfl, rfl⟩) (by decide +kernel) (by decide) (by decide) (by decide) (by decide) (((hD (6) (by omega))).z (by omega)) ⟨by decide, by decide⟩ ?_
  refine zz_putR (pc := 18) (i := 15) (c := 2) (k := 2) (pl := 1051) (a := 4) (b := 6) (by decide +kernel) (by decide) (by decide +kernel) rfl rfl rfl (zob_d rfl) (by decide) rfl rfl (fun _ => rfl) ?_
  refine zs_aload_n (pc := 21) (k := 0) (i := 0) (by decide +kernel) rfl rfl ?_
  refine zs_aload_n (pc := 22) (k := 1) (i := 1) (by decide +kernel) rfl rfl ?_
  refine zz_putR (pc := 23) (i := 18) (c := 2) (k := 0) (pl := 1049) (a := 4) (b := 1) (by decide +kernel) (by decide) (by decide +kernel) rfl rfl rfl (zob_d rfl) (by decide) rfl rfl (fun _ => rfl) ?_
  exact zs_vret (pc := 26) (by decide +kernel) ⟨rfl, by decide⟩ rfl hq
theorem c_iMornings {L : List (Nat × Nat × Nat)} {K : List (Nat × Nat × Int32)} (hI : zGI Γ) (hD : ∀ b, 21 ≤ b → zDef (zW0 L K) b) (hq : Q .null (zW0 ((20, 0, 4) :: (20, 4, 24) :: (20, 3, 23) :: (20, 2, 22) :: (20, 1, 21) :: L) (K))) : Call Γ (d + 2) 4 3337 kX3_init [.ref 20, .ref 4] (21) (zW0 L K) Q := by
  refine Call.of mkX3_init ⟨by decide +kernel, rfl⟩ (Nat.le_of_ble_eq_true rfl) ?_
  refine zs_aload_n (pc := 0) (k := 0) (i := 0) (by decide +kernel) rfl rfl ?_
  refine zs_obj (pc := 1) (i := 3) (pl := 1137) (by decide +kernel) (by decide +kernel) ?_
  refine zs_aload_n (pc := 4) (k := 0) (i := 0) (by decide +kernel) rfl rfl ?_
  refine zs_new (pc := 5) (i := 9) (c := 0) (pl := 1138) (pi := 1139) (pn := 1009) (by decide +kernel) (by decide) (by decide +kernel) (by decide +kernel) (by decide +kernel) (by decide +kernel) ((hD (21) (by omega))) ⟨by decide, by decide⟩ ?_
  refine zs_dupr (pc := 8) (by decide +kernel) ?_
  refine zs_initN hI (pc := 9) (i := 11) (pv := 1141) (a := 21) (mc' := 0) (ms' := 0) (N := kX0_init) (as := []) (st' := [.ref (21), .ref (20)]) (by decide +kernel) (by decide) (by decide +kernel) rfl rfl (by decide) (by decide) rfl ⟨by decide, by decide⟩ (c_iHen (Q := fun v w' => v = .null ∧ w' = zW0 (L) (K)) (a := 21) (by decide +kernel) (by decide) (fun b hb => (hD b (by omega))) ⟨rfl, rfl⟩) (fun x w' q => ?_)
  obtain ⟨rfl, rfl⟩ := q
  refine zz_putR (pc := 12) (i := 12) (c := 3) (k := 1) (pl := 1168) (a := 20) (b := 21) (by decide +kernel) (by decide) (by decide +kernel) rfl rfl rfl (zob_d rfl) (by decide) rfl rfl (fun _ => rfl) ?_
  refine zs_aload_n (pc := 15) (k := 0) (i := 0) (by decide +kernel) rfl rfl ?_
  refine zs_sipush (pc := 16) (n := 1111) (v := 1111) (by decide +kernel) (by decide) ?_
  refine zs_newa (pc := 19) (N := 1111) (t := 0) (pl := 1042) (at0 := .int) (ty := .int) (by decide +kernel) rfl (by decide +kernel) (Or.inl ⟨rfl, rfl⟩) (by decide +kernel) (by decide) (by decide) (by decide) (by decide) (((hD (22) (by omega))).z (by omega)) ⟨by decide, by decide⟩ ?_
  refine zz_putR (pc := 21) (i := 18) (c := 3) (k := 2) (pl := 1169) (a := 20) (b := 22) (by decide +kernel) (by decide) (by decide +kernel) rfl rfl rfl (zob_d rfl) (by decide) rfl rfl (fun _ => rfl) ?_
  refine zs_aload_n (pc := 24) (k := 0) (i := 0) (by decide +kernel) rfl rfl ?_
  refine zs_sipush (pc := 25) (n := 1111) (v := 1111) (by decide +kernel) (by decide) ?_
  refine zs_newa (pc := 28) (N := 1111) (t := 0) (pl := 1042) (at0 := .int) (ty := .int) (by decide +kernel) rfl (by decide +kernel) (Or.inl ⟨rfl, rfl⟩) (by decide +kernel) (by decide) (by decide) (by decide) (by decide) ((((hD (23) (by omega))).z (by omega)).z (by omega)) ⟨by decide, by decide⟩ ?_
  refine zz_putR (pc := 30) (i := 22) (c := 3) (k := 3) (pl := 1170) (a := 20) (b := 23) (by decide +kernel) (by decide) (by decide +kernel) rfl rfl rfl (zob_d rfl) (by decide) rfl rfl (fun _ => rfl) ?_
  refine zs_aload_n (pc := 33) (k := 0) (i := 0) (by decide +kernel) rfl rfl ?_
  refine zs_sipush (pc := 34) (n := 1111) (v := 1111) (by decide +kernel) (by decide) ?_
  refine zs_newa (pc := 37) (N := 1111) (t := 0) (pl := 1042) (at0 := .int) (ty := .int) (by decide +kernel) rfl (by decide +kernel) (Or.inl ⟨rfl, rfl⟩) (by decide +kernel) (by decide) (by decide) (by decide) (by decide) (((((hD (24) (by omega))).z (by omega)).z (by omega)).z (by omega)) ⟨by decide, by decide⟩ ?_
  refine zz_putR (pc := 39) (i := 25) (c := 3) (k := 4) (pl := 1171) (a := 20) (b := 24) (by decide +kernel) (by decide) (by decide +kernel) rfl rfl rfl (zob_d rfl) (by decide) rfl rfl (fun _ => rfl) ?_
  refine zs_aload_n (pc := 42) (k := 0) (i := 0) (by decide +kernel) rfl rfl ?_
  refine zs_aload_n (pc := 43) (k := 1) (i := 1) (by decide +kernel) rfl rfl ?_
  refine zz_putR (pc := 44) (i := 28) (c := 3) (k := 0) (pl := 1167) (a := 20) (b := 4) (by decide +kernel) (by decide) (by decide +kernel) rfl rfl rfl (zob_d rfl) (by decide) rfl rfl (fun _ => rfl) ?_
  exact zs_vret (pc := 47) (by decide +kernel) ⟨rfl, by decide⟩ rfl hq
theorem c_iImage {L : List (Nat × Nat × Nat)} {K : List (Nat × Nat × Int32)} (hI : zGI Γ) (hD : ∀ b, 26 ≤ b → zDef (zW0 L K) b) (hq : Q .null (zW0 ((29, 4, 34) :: (29, 3, 33) :: (29, 2, 32) :: (29, 1, 31) :: (29, 0, 30) :: (25, 1, 29) :: (25, 0, 26) :: (26, 1, 28) :: (26, 0, 27) :: L) (K))) : Call Γ (d + 2) 9 47 kX1_init [.ref 25] (26) (zW0 L K) Q := by
  refine Call.of mkX1_init ⟨by decide +kernel, rfl⟩ (Nat.le_of_ble_eq_true rfl) ?_
  refine zs_aload_n (pc := 0) (k := 0) (i := 0) (by decide +kernel) rfl rfl ?_
  refine zs_obj (pc := 1) (i := 3) (pl := 1188) (by decide +kernel) (by decide +kernel) ?_
  refine zs_aload_n (pc := 4) (k := 0) (i := 0) (by decide +kernel) rfl rfl ?_
  refine zs_new (pc := 5) (i := 9) (c := 6) (pl := 1189) (pi := 1030) (pn := 1002) (by decide +kernel) (by decide) (by decide +kernel) (by decide +kernel) (by decide +kernel) (by decide +kernel) ((hD (26) (by omega))) ⟨by decide, by decide⟩ ?_
  refine zs_dupr (pc := 8) (by decide +kernel) ?_
  refine zs_initN hI (pc := 9) (i := 11) (pv := 1032) (a := 26) (mc' := 2) (ms' := 20) (N := kX6_init) (as := []) (st' := [.ref (26), .ref (25)]) (by decide +kernel) (by decide) (by decide +kernel) rfl rfl (by decide) (by decide) rfl ⟨by decide, by decide⟩ (c_iStrife (Q := fun v w' => v = .null ∧ w' = zW0 ((26, 1, 28) :: (26, 0, 27) :: L) (K)) (a := 26) (by decide +kernel) (by decide) (by decide +kernel) (by decide +kernel) (fun b hb => (hD b (by omega))) ⟨rfl, rfl⟩) (fun x w' q => ?_)
  obtain ⟨rfl, rfl⟩ := q
  refine zz_putR (pc := 12) (i := 12) (c := 1) (k := 0) (pl := 1193) (a := 25) (b := 26) (by decide +kernel) (by decide) (by decide +kernel) rfl rfl rfl (zob_d rfl) (by decide) rfl rfl (fun _ => rfl) ?_
  refine zs_aload_n (pc := 15) (k := 0) (i := 0) (by decide +kernel) rfl rfl ?_
  refine zs_iconst (pc := 16) (n := 5) (v := 5) (by decide +kernel) (by decide) ?_
  refine zs_newq (pc := 17) (N := 5) (t := 2) (i := 18) (pl := 1191) (C := RX0) hI (by decide +kernel) (by decide +kernel) (by decide) (by decide +kernel) (by decide) (by decide) (by decide) (by decide) (((((hD (29) (by omega))).z (by omega)).z (by omega)).z (by omega)) ⟨by decide, by decide⟩ ?_
  refine zz_putR (pc := 20) (i := 20) (c := 1) (k := 1) (pl := 1195) (a := 25) (b := 29) (by decide +kernel) (by decide) (by decide +kernel) rfl rfl rfl (zob_d rfl) (by decide) rfl rfl (fun _ => rfl) ?_
  refine zs_iconst (pc := 23) (n := 0) (v := 0) (by decide +kernel) (by decide) ?_
  refine zz_istore (pc := 24) (k := 1) (i := 1) (ls' := [.ref (25), .int 0]) (by decide +kernel) rfl (by decide) rfl ?_
  refine zs_iload_n (pc := 25) (k := 1) (i := 1) (by decide +kernel) rfl rfl ?_
  refine zs_aload_n (pc := 26) (k := 0) (i := 0) (by decide +kernel) rfl rfl ?_
  refine zs_get (pc := 27) (i := 20) (c := 1) (k := 1) (pl := 1195) (a := 25) (v := .ref (29)) (by decide +kernel) (by decide) (by decide +kernel) (zob_d rfl) rfl ?_
  refine zz_alen (pc := 30) (a := 29) (t := 2) (n := 5) (by decide) (by decide +kernel) (zar_d rfl) (by decide) (by decide +kernel) ?_
  refine zs_icmp_ge (pc := 31) (o := 22) (t := 53) (by decide +kernel) (by decide) ⟨fun c => absurd c (by decide), fun _ => ?_⟩
  refine zs_aload_n (pc := 34) (k := 0) (i := 0) (by decide +kernel) rfl rfl ?_
  refine zs_get (pc := 35) (i := 20) (c := 1) (k := 1) (pl := 1195) (a := 25) (v := .ref (29)) (by decide +kernel) (by decide) (by decide +kernel) (zob_d rfl) rfl ?_
  refine zs_iload_n (pc := 38) (k := 1) (i := 1) (by decide +kernel) rfl rfl ?_
  refine zs_new (pc := 39) (i := 18) (c := 0) (pl := 1191) (pi := 1139) (pn := 1009) (by decide +kernel) (by decide) (by decide +kernel) (by decide +kernel) (by decide +kernel) (by decide +kernel) ((((((hD (30) (by omega))).z (by omega)).z (by omega)).z (by omega)).z (by omega)) ⟨by decide, by decide⟩ ?_
  refine zs_dupr (pc := 42) (by decide +kernel) ?_
  refine zs_initN hI (pc := 43) (i := 24) (pv := 1141) (a := 30) (mc' := 0) (ms' := 0) (N := kX0_init) (as := []) (st' := [.ref (30), .int 0, .ref (29)]) (by decide +kernel) (by decide) (by decide +kernel) rfl rfl (by decide) (by decide) rfl ⟨by decide, by decide⟩ (c_iHen (Q := fun v w' => v = .null ∧ w' = zW0 ((25, 1, 29) :: (25, 0, 26) :: (26, 1, 28) :: (26, 0, 27) :: L) (K)) (a := 30) (by decide +kernel) (by decide) (fun b hb => (((((hD b (by omega))).z (by omega)).z (by omega)).z (by omega)).z (by omega)) ⟨rfl, rfl⟩) (fun x w' q => ?_)
  obtain ⟨rfl, rfl⟩ := q
  refine zz_astq (pc := 46) (a := 29) (b := 30) (c := 0) (t := 2) (i := 0) (j := 0) (by decide) (by decide +kernel) (zar_d rfl) (by decide) (zob_d rfl) (vp_in_nI (n := 0) (by decide +kernel) (by decide +kernel)) (by decide) ?_
  refine zz_iinc (pc := 47) (i := 1) (n := 1) (v := 1) (x := 0) (ls' := [.ref (25), .int 1]) (by decide +kernel) (by decide) rfl (by decide) rfl ?_
  refine zs_goto (pc := 50) (o := (-25)) (t := 25) (by decide +kernel) (by decide) ?_
  refine zs_iload_n (pc := 25) (k := 1) (i := 1) (by decide +kernel) rfl rfl ?_
  refine zs_aload_n (pc := 26) (k := 0) (i := 0) (by decide +kernel) rfl rfl ?_
  refine zs_get (pc := 27) (i := 20) (c := 1) (k := 1) (pl := 1195) (a := 25) (v := .ref (29)) (by decide +kernel) (by decide) (by decide +kernel) (zob_d rfl) rfl ?_
  refine zz_alen (pc := 30) (a := 29) (t := 2) (n := 5) (by decide) (by decide +kernel) (zar_d rfl) (by decide) (by decide +kernel) ?_
  refine zs_icmp_ge (pc := 31) (o := 22) (t := 53) (by decide +kernel) (by decide) ⟨fun c => absurd c (by decide), fun _ => ?_⟩
  refine zs_aload_n (pc := 34) (k := 0) (i := 0) (by decide +kernel) rfl rfl ?_
  refine zs_get (pc := 35) (i := 20) (c := 1) (k := 1) (pl := 1195) (a := 25) (v := .ref (29)) (by decide +kernel) (by decide) (by decide +kernel) (zob_d rfl) rfl ?_
  refine zs_iload_n (pc := 38) (k := 1) (i := 1) (by decide +kernel) rfl rfl ?_
  refine zs_new (pc := 39) (i := 18) (c := 0) (pl := 1191) (pi := 1139) (pn := 1009) (by decide +kernel) (by decide) (by decide +kernel) (by decide +kernel) (by decide +kernel) (by decide +kernel) (((((((hD (31) (by omega))).z (by omega)).z (by omega)).z (by omega)).z (by omega)).z (by omega)) ⟨by decide, by decide⟩ ?_
  refine zs_dupr (pc := 42) (by decide +kernel) ?_
  refine zs_initN hI (pc := 43) (i := 24) (pv := 1141) (a := 31) (mc' := 0) (ms' := 0) (N := kX0_init) (as := []) (st' := [.ref (31), .int 1, .ref (29)]) (by decide +kernel) (by decide) (by decide +kernel) rfl rfl (by decide) (by decide) rfl ⟨by decide, by decide⟩ (c_iHen (Q := fun v w' => v = .null ∧ w' = zW0 ((29, 0, 30) :: (25, 1, 29) :: (25, 0, 26) :: (26, 1, 28) :: (26, 0, 27) :: L) (K)) (a := 31) (by decide +kernel) (by decide) (fun b hb => ((((((hD b (by omega))).z (by omega)).z (by omega)).z (by omega)).z (by omega)).z (by omega)) ⟨rfl, rfl⟩) (fun x w' q => ?_)
  obtain ⟨rfl, rfl⟩ := q
  refine zz_astq (pc := 46) (a := 29) (b := 31) (c := 0) (t := 2) (i := 1) (j := 1) (by decide) (by decide +kernel) (zar_d rfl) (by decide) (zob_d rfl) (vp_in_nI (n := 1) (by decide +kernel) (by decide +kernel)) (by decide) ?_
  refine zz_iinc (pc := 47) (i := 1) (n := 1) (v := 1) (x := 1) (ls' := [.ref (25), .int 2]) (by decide +kernel) (by decide) rfl (by decide) rfl ?_
  refine zs_goto (pc := 50) (o := (-25)) (t := 25) (by decide +kernel) (by decide) ?_
  refine zs_iload_n (pc := 25) (k := 1) (i := 1) (by decide +kernel) rfl rfl ?_
  refine zs_aload_n (pc := 26) (k := 0) (i := 0) (by decide +kernel) rfl rfl ?_
  refine zs_get (pc := 27) (i := 20) (c := 1) (k := 1) (pl := 1195) (a := 25) (v := .ref (29)) (by decide +kernel) (by decide) (by decide +kernel) (zob_d rfl) rfl ?_
  refine zz_alen (pc := 30) (a := 29) (t := 2) (n := 5) (by decide) (by decide +kernel) (zar_d rfl) (by decide) (by decide +kernel) ?_
  refine zs_icmp_ge (pc := 31) (o := 22) (t := 53) (by decide +kernel) (by decide) ⟨fun c => absurd c (by decide), fun _ => ?_⟩
  refine zs_aload_n (pc := 34) (k := 0) (i := 0) (by decide +kernel) rfl rfl ?_
  refine zs_get (pc := 35) (i := 20) (c := 1) (k := 1) (pl := 1195) (a := 25) (v := .ref (29)) (by decide +kernel) (by decide) (by decide +kernel) (zob_d rfl) rfl ?_
  refine zs_iload_n (pc := 38) (k := 1) (i := 1) (by decide +kernel) rfl rfl ?_
  refine zs_new (pc := 39) (i := 18) (c := 0) (pl := 1191) (pi := 1139) (pn := 1009) (by decide +kernel) (by decide) (by decide +kernel) (by decide +kernel) (by decide +kernel) (by decide +kernel) ((((((((hD (32) (by omega))).z (by omega)).z (by omega)).z (by omega)).z (by omega)).z (by omega)).z (by omega)) ⟨by decide, by decide⟩ ?_
  refine zs_dupr (pc := 42) (by decide +kernel) ?_
  refine zs_initN hI (pc := 43) (i := 24) (pv := 1141) (a := 32) (mc' := 0) (ms' := 0) (N := kX0_init) (as := []) (st' := [.ref (32), .int 2, .ref (29)]) (by decide +kernel) (by decide) (by decide +kernel) rfl rfl (by decide) (by decide) rfl ⟨by decide, by decide⟩ (c_iHen (Q := fun v w' => v = .null ∧ w' = zW0 ((29, 1, 31) :: (29, 0, 30) :: (25, 1, 29) :: (25, 0, 26) :: (26, 1, 28) :: (26, 0, 27) :: L) (K)) (a := 32) (by decide +kernel) (by decide) (fun b hb => (((((((hD b (by omega))).z (by omega)).z (by omega)).z (by omega)).z (by omega)).z (by omega)).z (by omega)) ⟨rfl, rfl⟩) (fun x w' q => ?_)
  obtain ⟨rfl, rfl⟩ := q
  refine zz_astq (pc := 46) (a := 29) (b := 32) (c := 0) (t := 2) (i := 2) (j := 2) (by decide) (by decide +kernel) (zar_d rfl) (by decide) (zob_d rfl) (vp_in_nI (n := 2) (by decide +kernel) (by decide +kernel)) (by decide) ?_
  refine zz_iinc (pc := 47) (i := 1) (n := 1) (v := 1) (x := 2) (ls' := [.ref (25), .int 3]) (by decide +kernel) (by decide) rfl (by decide) rfl ?_
  refine zs_goto (pc := 50) (o := (-25)) (t := 25) (by decide +kernel) (by decide) ?_
  refine zs_iload_n (pc := 25) (k := 1) (i := 1) (by decide +kernel) rfl rfl ?_
  refine zs_aload_n (pc := 26) (k := 0) (i := 0) (by decide +kernel) rfl rfl ?_
  refine zs_get (pc := 27) (i := 20) (c := 1) (k := 1) (pl := 1195) (a := 25) (v := .ref (29)) (by decide +kernel) (by decide) (by decide +kernel) (zob_d rfl) rfl ?_
  refine zz_alen (pc := 30) (a := 29) (t := 2) (n := 5) (by decide) (by decide +kernel) (zar_d rfl) (by decide) (by decide +kernel) ?_
  refine zs_icmp_ge (pc := 31) (o := 22) (t := 53) (by decide +kernel) (by decide) ⟨fun c => absurd c (by decide), fun _ => ?_⟩
  refine zs_aload_n (pc := 34) (k := 0) (i := 0) (by decide +kernel) rfl rfl ?_
  refine zs_get (pc := 35) (i := 20) (c := 1) (k := 1) (pl := 1195) (a := 25) (v := .ref (29)) (by decide +kernel) (by decide) (by decide +kernel) (zob_d rfl) rfl ?_
  refine zs_iload_n (pc := 38) (k := 1) (i := 1) (by decide +kernel) rfl rfl ?_
  refine zs_new (pc := 39) (i := 18) (c := 0) (pl := 1191) (pi := 1139) (pn := 1009) (by decide +kernel) (by decide) (by decide +kernel) (by decide +kernel) (by decide +kernel) (by decide +kernel) (((((((((hD (33) (by omega))).z (by omega)).z (by omega)).z (by omega)).z (by omega)).z (by omega)).z (by omega)).z (by omega)) ⟨by decide, by decide⟩ ?_
  refine zs_dupr (pc := 42) (by decide +kernel) ?_
  refine zs_initN hI (pc := 43) (i := 24) (pv := 1141) (a := 33) (mc' := 0) (ms' := 0) (N := kX0_init) (as := []) (st' := [.ref (33), .int 3, .ref (29)]) (by decide +kernel) (by decide) (by decide +kernel) rfl rfl (by decide) (by decide) rfl ⟨by decide, by decide⟩ (c_iHen (Q := fun v w' => v = .null ∧ w' = zW0 ((29, 2, 32) :: (29, 1, 31) :: (29, 0, 30) :: (25, 1, 29) :: (25, 0, 26) :: (26, 1, 28) :: (26, 0, 27) :: L) (K)) (a := 33) (by decide +kernel) (by decide) (fun b hb => ((((((((hD b (by omega))).z (by omega)).z (by omega)).z (by omega)).z (by omega)).z (by omega)).z (by omega)).z (by omega)) ⟨rfl, rfl⟩) (fun x w' q => ?_)
  obtain ⟨rfl, rfl⟩ := q
  refine zz_astq (pc := 46) (a := 29) (b := 33) (c := 0) (t := 2) (i := 3) (j := 3) (by decide) (by decide +kernel) (zar_d rfl) (by decide) (zob_d rfl) (vp_in_nI (n := 3) (by decide +kernel) (by decide +kernel)) (by decide) ?_
  refine zz_iinc (pc := 47) (i := 1) (n := 1) (v := 1) (x := 3) (ls' := [.ref (25), .int 4]) (by decide +kernel) (by decide) rfl (by decide) rfl ?_
  refine zs_goto (pc := 50) (o := (-25)) (t := 25) (by decide +kernel) (by decide) ?_
  refine zs_iload_n (pc := 25) (k := 1) (i := 1) (by decide +kernel) rfl rfl ?_
  refine zs_aload_n (pc := 26) (k := 0) (i := 0) (by decide +kernel) rfl rfl ?_
  refine zs_get (pc := 27) (i := 20) (c := 1) (k := 1) (pl := 1195) (a := 25) (v := .ref (29)) (by decide +kernel) (by decide) (by decide +kernel) (zob_d rfl) rfl ?_
  refine zz_alen (pc := 30) (a := 29) (t := 2) (n := 5) (by decide) (by decide +kernel) (zar_d rfl) (by decide) (by decide +kernel) ?_
  refine zs_icmp_ge (pc := 31) (o := 22) (t := 53) (by decide +kernel) (by decide) ⟨fun c => absurd c (by decide), fun _ => ?_⟩
  refine zs_aload_n (pc := 34) (k := 0) (i := 0) (by decide +kernel) rfl rfl ?_
  refine zs_get (pc := 35) (i := 20) (c := 1) (k := 1) (pl := 1195) (a := 25) (v := .ref (29)) (by decide +kernel) (by decide) (by decide +kernel) (zob_d rfl) rfl ?_
  refine zs_iload_n (pc := 38) (k := 1) (i := 1) (by decide +kernel) rfl rfl ?_
  refine zs_new (pc := 39) (i := 18) (c := 0) (pl := 1191) (pi := 1139) (pn := 1009) (by decide +kernel) (by decide) (by decide +kernel) (by decide +kernel) (by decide +kernel) (by decide +kernel) ((((((((((hD (34) (by omega))).z (by omega)).z (by omega)).z (by omega)).z (by omega)).z (by omega)).z (by omega)).z (by omega)).z (by omega)) ⟨by decide, by decide⟩ ?_
  refine zs_dupr (pc := 42) (by decide +kernel) ?_
  refine zs_initN hI (pc := 43) (i := 24) (pv := 1141) (a := 34) (mc' := 0) (ms' := 0) (N := kX0_init) (as := []) (st' := [.ref (34), .int 4, .ref (29)]) (by decide +kernel) (by decide) (by decide +kernel) rfl rfl (by decide) (by decide) rfl ⟨by decide, by decide⟩ (c_iHen (Q := fun v w' => v = .null ∧ w' = zW0 ((29, 3, 33) :: (29, 2, 32) :: (29, 1, 31) :: (29, 0, 30) :: (25, 1, 29) :: (25, 0, 26) :: (26, 1, 28) :: (26, 0, 27) :: L) (K)) (a := 34) (by decide +kernel) (by decide) (fun b hb => (((((((((hD b (by omega))).z (by omega)).z (by omega)).z (by omega)).z (by omega)).z (by omega)).z (by omega)).z (by omega)).z (by omega)) ⟨rfl, rfl⟩) (fun x w' q => ?_)
  obtain ⟨rfl, rfl⟩ := q
  refine zz_astq (pc := 46) (a := 29) (b := 34) (c := 0) (t := 2) (i := 4) (j := 4) (by decide) (by decide +kernel) (zar_d rfl) (by decide) (zob_d rfl) (vp_in_nI (n := 4) (by decide +kernel) (by decide +kernel)) (by decide) ?_
  refine zz_iinc (pc := 47) (i := 1) (n := 1) (v := 1) (x := 4) (ls' := [.ref (25), .int 5]) (by decide +kernel) (by decide) rfl (by decide) rfl ?_
  refine zs_goto (pc := 50) (o := (-25)) (t := 25) (by decide +kernel) (by decide) ?_
  refine zs_iload_n (pc := 25) (k := 1) (i := 1) (by decide +kernel) rfl rfl ?_
  refine zs_aload_n (pc := 26) (k := 0) (i := 0) (by decide +kernel) rfl rfl ?_
  refine zs_get (pc := 27) (i := 20) (c := 1) (k := 1) (pl := 1195) (a := 25) (v := .ref (29)) (by decide +kernel) (by decide) (by decide +kernel) (zob_d rfl) rfl ?_
  refine zz_alen (pc := 30) (a := 29) (t := 2) (n := 5) (by decide) (by decide +kernel) (zar_d rfl) (by decide) (by decide +kernel) ?_
  refine zs_icmp_ge (pc := 31) (o := 22) (t := 53) (by decide +kernel) (by decide) ⟨fun _ => ?_, fun c => absurd (by decide) c⟩
  exact zs_vret (pc := 53) (by decide +kernel) ⟨rfl, by decide⟩ rfl hq
end INI
