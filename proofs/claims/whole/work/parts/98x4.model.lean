/-! The model's constructor, till its letters (genmodel). -/
section MIN
variable {Γ : mG} {M : mM} {F : mF} {d n0 mc ms pc ce sl : Nat} {ls st : List Value} {w : mW}
theorem zDef.r {a k b : Nat} {x : Option Nat} (h : zDef w b) (hne : b ≠ a) : zDef (sr w a k x) b := ⟨fun j => (if_neg (fun q => hne q.1)).trans (h.1 j), h.2⟩
theorem zDef.s {a k b : Nat} {x : Int32} (h : zDef w b) (hne : b ≠ a) : zDef (si w a k x) b := ⟨h.1, fun j => (if_neg (fun q => hne q.1)).trans (h.2.1 j), h.2.2⟩
theorem zz_putI2 {i c k pl a : Nat} {x : Int32} (hd : decode M.2.2.1 pc = .ok (.putfield i, 3)) (hk : k < zN c) (hl0 : zpl pl = some (.fieldLink M.2.1 i (zT c k).1 (zT c k).2.1 (zT c k).2.2.1)) (hfin : (zT c k).2.2.2 = false) (hy : zY c k = .int) (ho : zOb (n0 + ce) a c)
    (h : V Γ M F d n0 mc ms (pc + 3) ls st (si w a k x) ce sl) : V Γ M F d n0 mc ms pc ls (.int x :: .ref a :: st) w ce sl := zs_putg hd hk hl0 hfin ho (by rw [hy]; rfl) (by rw [hy]; rfl) rfl (zw_puti ho.2 (Or.inl hy)) h
theorem v_iModel (hz : ∀ b, 68 ≤ b → zDef w b) (hq : V Γ kX11_init F (d + 1) 68 14 1373 119 [.ref 67] [] (sr (sr (sr (sr (si (sr (sr (sr (sr (sr (sr (sr (sr (sr (sr (w) 67 1 (some 68)) 67 2 (some 69)) 67 5 (some 70)) 67 8 (some 71)) 67 9 (some 72)) 67 10 (some 73)) 67 28 (some 74)) 67 29 (some 75)) 67 37 (some 76)) 67 38 (some 77)) 67 39 (-1)) 67 42 (some 78)) 67 43 (some 79)) 67 44 (some 80)) 67 45 (some 81)) 14 1373) : V Γ kX11_init F (d + 1) 68 14 1373 0 [.ref 67] [] w 0 0 := by
  refine zs_aload_n (pc := 0) (k := 0) (i := 0) (by decide +kernel) rfl rfl ?_
  refine zs_obj (pc := 1) (i := 7) (pl := 5032) (by decide +kernel) (by decide +kernel) ?_
  refine zs_aload_n (pc := 4) (k := 0) (i := 0) (by decide +kernel) rfl rfl ?_
  refine zs_sipush (pc := 5) (n := 960) (v := 960) (by decide +kernel) (by decide) ?_
  refine zs_newa (pc := 8) (N := 960) (t := 0) (pl := 1042) (at0 := .int) (ty := .int) (by decide +kernel) rfl (by decide +kernel) (Or.inl ⟨rfl, rfl⟩) (by decide +kernel) (by decide) (by decide) (by decide) (by decide) ((hz 68 (by decide))) ⟨by decide, by decide⟩ ?_
  refine zs_putR (pc := 10) (i := 13) (c := 11) (k := 1) (pl := 5037) (a := 67) (b := 68) (by decide +kernel) (by decide) (by decide +kernel) rfl rfl rfl (zob_d rfl) (by decide) rfl rfl (fun _ => rfl) ?_
  refine zs_aload_n (pc := 13) (k := 0) (i := 0) (by decide +kernel) rfl rfl ?_
  refine zs_bipush (pc := 14) (n := 6) (v := 6) (by decide +kernel) (by decide) ?_
  refine zs_newa (pc := 16) (N := 6) (t := 0) (pl := 1042) (at0 := .int) (ty := .int) (by decide +kernel) rfl (by decide +kernel) (Or.inl ⟨rfl, rfl⟩) (by decide +kernel) (by decide) (by decide) (by decide) (by decide) (((hz 69 (by decide))).r (by decide)) ⟨by decide, by decide⟩ ?_
  refine zs_putR (pc := 18) (i := 17) (c := 11) (k := 2) (pl := 5038) (a := 67) (b := 69) (by decide +kernel) (by decide) (by decide +kernel) rfl rfl rfl (zob_d rfl) (by decide) rfl rfl (fun _ => rfl) ?_
  refine zs_aload_n (pc := 21) (k := 0) (i := 0) (by decide +kernel) rfl rfl ?_
  refine zs_sipush (pc := 22) (n := 160) (v := 160) (by decide +kernel) (by decide) ?_
  refine zs_newa (pc := 25) (N := 160) (t := 0) (pl := 1042) (at0 := .int) (ty := .int) (by decide +kernel) rfl (by decide +kernel) (Or.inl ⟨rfl, rfl⟩) (by decide +kernel) (by decide) (by decide) (by decide) (by decide) ((((hz 70 (by decide))).r (by decide)).r (by decide)) ⟨by decide, by decide⟩ ?_
  refine zs_putR (pc := 27) (i := 20) (c := 11) (k := 5) (pl := 5041) (a := 67) (b := 70) (by decide +kernel) (by decide) (by decide +kernel) rfl rfl rfl (zob_d rfl) (by decide) rfl rfl (fun _ => rfl) ?_
  refine zs_aload_n (pc := 30) (k := 0) (i := 0) (by decide +kernel) rfl rfl ?_
  refine zs_bipush (pc := 31) (n := 10) (v := 10) (by decide +kernel) (by decide) ?_
  refine zs_newa (pc := 33) (N := 10) (t := 0) (pl := 1042) (at0 := .int) (ty := .int) (by decide +kernel) rfl (by decide +kernel) (Or.inl ⟨rfl, rfl⟩) (by decide +kernel) (by decide) (by decide) (by decide) (by decide) (((((hz 71 (by decide))).r (by decide)).r (by decide)).r (by decide)) ⟨by decide, by decide⟩ ?_
  refine zs_putR (pc := 35) (i := 23) (c := 11) (k := 8) (pl := 5044) (a := 67) (b := 71) (by decide +kernel) (by decide) (by decide +kernel) rfl rfl rfl (zob_d rfl) (by decide) rfl rfl (fun _ => rfl) ?_
  refine zs_aload_n (pc := 38) (k := 0) (i := 0) (by decide +kernel) rfl rfl ?_
  refine zs_iconst (pc := 39) (n := 5) (v := 5) (by decide +kernel) (by decide) ?_
  refine zs_newa (pc := 40) (N := 5) (t := 0) (pl := 1042) (at0 := .int) (ty := .int) (by decide +kernel) rfl (by decide +kernel) (Or.inl ⟨rfl, rfl⟩) (by decide +kernel) (by decide) (by decide) (by decide) (by decide) ((((((hz 72 (by decide))).r (by decide)).r (by decide)).r (by decide)).r (by decide)) ⟨by decide, by decide⟩ ?_
  refine zs_putR (pc := 42) (i := 26) (c := 11) (k := 9) (pl := 5045) (a := 67) (b := 72) (by decide +kernel) (by decide) (by decide +kernel) rfl rfl rfl (zob_d rfl) (by decide) rfl rfl (fun _ => rfl) ?_
  refine zs_aload_n (pc := 45) (k := 0) (i := 0) (by decide +kernel) rfl rfl ?_
  refine zs_bipush (pc := 46) (n := 15) (v := 15) (by decide +kernel) (by decide) ?_
  refine zs_newa (pc := 48) (N := 15) (t := 0) (pl := 1042) (at0 := .int) (ty := .int) (by decide +kernel) rfl (by decide +kernel) (Or.inl ⟨rfl, rfl⟩) (by decide +kernel) (by decide) (by decide) (by decide) (by decide) (((((((hz 73 (by decide))).r (by decide)).r (by decide)).r (by decide)).r (by decide)).r (by decide)) ⟨by decide, by decide⟩ ?_
  refine zs_putR (pc := 50) (i := 29) (c := 11) (k := 10) (pl := 5046) (a := 67) (b := 73) (by decide +kernel) (by decide) (by decide +kernel) rfl rfl rfl (zob_d rfl) (by decide) rfl rfl (fun _ => rfl) ?_
  refine zs_aload_n (pc := 53) (k := 0) (i := 0) (by decide +kernel) rfl rfl ?_
  refine zs_iconst (pc := 54) (n := 5) (v := 5) (by decide +kernel) (by decide) ?_
  refine zs_newa (pc := 55) (N := 5) (t := 0) (pl := 1042) (at0 := .int) (ty := .int) (by decide +kernel) rfl (by decide +kernel) (Or.inl ⟨rfl, rfl⟩) (by decide +kernel) (by decide) (by decide) (by decide) (by decide) ((((((((hz 74 (by decide))).r (by decide)).r (by decide)).r (by decide)).r (by decide)).r (by decide)).r (by decide)) ⟨by decide, by decide⟩ ?_
  refine zs_putR (pc := 57) (i := 32) (c := 11) (k := 28) (pl := 5064) (a := 67) (b := 74) (by decide +kernel) (by decide) (by decide +kernel) rfl rfl rfl (zob_d rfl) (by decide) rfl rfl (fun _ => rfl) ?_
  refine zs_aload_n (pc := 60) (k := 0) (i := 0) (by decide +kernel) rfl rfl ?_
  refine zs_bipush (pc := 61) (n := 15) (v := 15) (by decide +kernel) (by decide) ?_
  refine zs_newa (pc := 63) (N := 15) (t := 0) (pl := 1042) (at0 := .int) (ty := .int) (by decide +kernel) rfl (by decide +kernel) (Or.inl ⟨rfl, rfl⟩) (by decide +kernel) (by decide) (by decide) (by decide) (by decide) (((((((((hz 75 (by decide))).r (by decide)).r (by decide)).r (by decide)).r (by decide)).r (by decide)).r (by decide)).r (by decide)) ⟨by decide, by decide⟩ ?_
  refine zs_putR (pc := 65) (i := 35) (c := 11) (k := 29) (pl := 5065) (a := 67) (b := 75) (by decide +kernel) (by decide) (by decide +kernel) rfl rfl rfl (zob_d rfl) (by decide) rfl rfl (fun _ => rfl) ?_
  refine zs_aload_n (pc := 68) (k := 0) (i := 0) (by decide +kernel) rfl rfl ?_
  refine zs_bipush (pc := 69) (n := 10) (v := 10) (by decide +kernel) (by decide) ?_
  refine zs_newa (pc := 71) (N := 10) (t := 0) (pl := 1042) (at0 := .int) (ty := .int) (by decide +kernel) rfl (by decide +kernel) (Or.inl ⟨rfl, rfl⟩) (by decide +kernel) (by decide) (by decide) (by decide) (by decide) ((((((((((hz 76 (by decide))).r (by decide)).r (by decide)).r (by decide)).r (by decide)).r (by decide)).r (by decide)).r (by decide)).r (by decide)) ⟨by decide, by decide⟩ ?_
  refine zs_putR (pc := 73) (i := 38) (c := 11) (k := 37) (pl := 5073) (a := 67) (b := 76) (by decide +kernel) (by decide) (by decide +kernel) rfl rfl rfl (zob_d rfl) (by decide) rfl rfl (fun _ => rfl) ?_
  refine zs_aload_n (pc := 76) (k := 0) (i := 0) (by decide +kernel) rfl rfl ?_
  refine zs_bipush (pc := 77) (n := 15) (v := 15) (by decide +kernel) (by decide) ?_
  refine zs_newa (pc := 79) (N := 15) (t := 0) (pl := 1042) (at0 := .int) (ty := .int) (by decide +kernel) rfl (by decide +kernel) (Or.inl ⟨rfl, rfl⟩) (by decide +kernel) (by decide) (by decide) (by decide) (by decide) (((((((((((hz 77 (by decide))).r (by decide)).r (by decide)).r (by decide)).r (by decide)).r (by decide)).r (by decide)).r (by decide)).r (by decide)).r (by decide)) ⟨by decide, by decide⟩ ?_
  refine zs_putR (pc := 81) (i := 41) (c := 11) (k := 38) (pl := 5074) (a := 67) (b := 77) (by decide +kernel) (by decide) (by decide +kernel) rfl rfl rfl (zob_d rfl) (by decide) rfl rfl (fun _ => rfl) ?_
  refine zs_aload_n (pc := 84) (k := 0) (i := 0) (by decide +kernel) rfl rfl ?_
  refine zs_iconst (pc := 85) (n := (-1)) (v := (-1)) (by decide +kernel) (by decide) ?_
  refine zz_putI2 (pc := 86) (i := 44) (c := 11) (k := 39) (pl := 5075) (a := 67) (x := (-1)) (by decide +kernel) (by decide) (by decide +kernel) rfl rfl (zob_d rfl) ?_
  refine zs_aload_n (pc := 89) (k := 0) (i := 0) (by decide +kernel) rfl rfl ?_
  refine zs_iconst (pc := 90) (n := 4) (v := 4) (by decide +kernel) (by decide) ?_
  refine zs_newa (pc := 91) (N := 4) (t := 1) (pl := 5175) (at0 := .boolean) (ty := .boolean) (by decide +kernel) rfl (by decide +kernel) (Or.inr ⟨rfl, rfl⟩) (by decide +kernel) (by decide) (by decide) (by decide) (by decide) (((((((((((((hz 78 (by decide))).r (by decide)).r (by decide)).r (by decide)).r (by decide)).r (by decide)).r (by decide)).r (by decide)).r (by decide)).r (by decide)).r (by decide)).s (by decide)) ⟨by decide, by decide⟩ ?_
  refine zs_putR (pc := 93) (i := 47) (c := 11) (k := 42) (pl := 5078) (a := 67) (b := 78) (by decide +kernel) (by decide) (by decide +kernel) rfl rfl rfl (zob_d rfl) (by decide) rfl rfl (fun _ => rfl) ?_
  refine zs_aload_n (pc := 96) (k := 0) (i := 0) (by decide +kernel) rfl rfl ?_
  refine zs_iconst (pc := 97) (n := 4) (v := 4) (by decide +kernel) (by decide) ?_
  refine zs_newa (pc := 98) (N := 4) (t := 0) (pl := 1042) (at0 := .int) (ty := .int) (by decide +kernel) rfl (by decide +kernel) (Or.inl ⟨rfl, rfl⟩) (by decide +kernel) (by decide) (by decide) (by decide) (by decide) ((((((((((((((hz 79 (by decide))).r (by decide)).r (by decide)).r (by decide)).r (by decide)).r (by decide)).r (by decide)).r (by decide)).r (by decide)).r (by decide)).r (by decide)).s (by decide)).r (by decide)) ⟨by decide, by decide⟩ ?_
  refine zs_putR (pc := 100) (i := 51) (c := 11) (k := 43) (pl := 5079) (a := 67) (b := 79) (by decide +kernel) (by decide) (by decide +kernel) rfl rfl rfl (zob_d rfl) (by decide) rfl rfl (fun _ => rfl) ?_
  refine zs_aload_n (pc := 103) (k := 0) (i := 0) (by decide +kernel) rfl rfl ?_
  refine zs_iconst (pc := 104) (n := 4) (v := 4) (by decide +kernel) (by decide) ?_
  refine zs_newa (pc := 105) (N := 4) (t := 0) (pl := 1042) (at0 := .int) (ty := .int) (by decide +kernel) rfl (by decide +kernel) (Or.inl ⟨rfl, rfl⟩) (by decide +kernel) (by decide) (by decide) (by decide) (by decide) (((((((((((((((hz 80 (by decide))).r (by decide)).r (by decide)).r (by decide)).r (by decide)).r (by decide)).r (by decide)).r (by decide)).r (by decide)).r (by decide)).r (by decide)).s (by decide)).r (by decide)).r (by decide)) ⟨by decide, by decide⟩ ?_
  refine zs_putR (pc := 107) (i := 54) (c := 11) (k := 44) (pl := 5080) (a := 67) (b := 80) (by decide +kernel) (by decide) (by decide +kernel) rfl rfl rfl (zob_d rfl) (by decide) rfl rfl (fun _ => rfl) ?_
  refine zs_aload_n (pc := 110) (k := 0) (i := 0) (by decide +kernel) rfl rfl ?_
  refine zs_sipush (pc := 111) (n := 160) (v := 160) (by decide +kernel) (by decide) ?_
  refine zs_newa (pc := 114) (N := 160) (t := 0) (pl := 1042) (at0 := .int) (ty := .int) (by decide +kernel) rfl (by decide +kernel) (Or.inl ⟨rfl, rfl⟩) (by decide +kernel) (by decide) (by decide) (by decide) (by decide) ((((((((((((((((hz 81 (by decide))).r (by decide)).r (by decide)).r (by decide)).r (by decide)).r (by decide)).r (by decide)).r (by decide)).r (by decide)).r (by decide)).r (by decide)).s (by decide)).r (by decide)).r (by decide)).r (by decide)) ⟨by decide, by decide⟩ ?_
  refine zs_putR (pc := 116) (i := 57) (c := 11) (k := 45) (pl := 5081) (a := 67) (b := 81) (by decide +kernel) (by decide) (by decide +kernel) rfl rfl rfl (zob_d rfl) (by decide) rfl rfl (fun _ => rfl) ?_
  exact hq
end MIN
