/-! The code of the methods of strings, in pieces. -/
def zend : List mE → Nat → Bool
  | [], _ => true
  | q :: cs, h => match cs with
    | [] => decide (q.1 + q.2.2.1 = h)
    | _ :: _ => zend cs h
section ZE
variable {Γ : mG} {M : mM} {F : mF} {d n0 mc ms pc ce sl : Nat} {Rt : Value → mW → Prop} {ls st : List Value} {w : mW}
theorem zend_sound {h : Nat} (hnx : n0 + ce ≤ 4096) (hmc : ce ≤ mc ∧ sl ≤ ms) (hR : zRt Γ M F (d + 1) n0 mc ms ce sl Rt) : ∀ (cs : List mE), zok M.2.1 M.2.2.1 M.2.2.2.1 cs = true → zend cs h = true → ∀ (q : mE) (cs' : List mE), cs = q :: cs' → ∀ ls st w, zbl Γ M F d n0 mc ms ce sl (n0 + ce) M.2.2.2.2.1 Rt (cs ++ [((h, .nop, 1, h, [], 0, 0, zM0) : mE)]) ls st w → V Γ M F (d + 1) n0 mc ms q.1 ls st w ce sl := by
  intro cs
  induction cs with
  | nil => intro _ _ q cs' h; cases h
  | cons r cs ih =>
    intro hok hen q cs' he ls st w hz
    cases he
    unfold zok at hok
    obtain ⟨h1, h2⟩ := z_and hok
    obtain ⟨h1, h3⟩ := z_and h1
    obtain ⟨g1, g2, g3⟩ := zOK_dec h1
    refine zst_sound (K := zbl Γ M F d n0 mc ms ce sl (n0 + ce) M.2.2.2.2.1 Rt (cs ++ [((h, .nop, 1, h, [], 0, 0, zM0) : mE)])) g1 g2 g3 hnx hmc hR (fun ls st w hk => ?_) (fun t ls st w ht => ht) hz
    cases cs with
    | nil =>
      have e : r.1 + r.2.2.1 = h := z_d hen
      rw [e]
      exact hk
    | cons r2 cs2 =>
      have e : r.1 + r.2.2.1 = r2.1 := z_d h3
      rw [e]
      exact ih h2 hen r2 cs2 rfl ls st w hk
theorem zend_at {h pc : Nat} : ∀ (cs : List mE), zend cs h = true → zend (zat pc cs) h = true := by
  intro cs
  induction cs with
  | nil => intro h; exact h
  | cons q cs ih =>
    intro hh
    unfold zat
    by_cases hq : q.1 = pc
    · rw [if_pos hq]; exact hh
    · rw [if_neg hq]
      cases cs with
      | nil => rfl
      | cons r cs2 => exact ih hh
theorem V.runE {cs : List mE} {Q : Value → mW → Prop} {pc : Nat} (h : Nat) (rt : Option FieldType) (hok : zok M.2.1 M.2.2.1 M.2.2.2.1 cs = true ∧ zend cs h = true) (hrt : M.2.2.2.2.1 = rt) (hne : (zat pc cs).isEmpty = false) (hz : zbl Γ M (zF Γ M 82 0 0 Q) d 82 0 0 0 0 82 rt Q (zat pc cs ++ [((h, .nop, 1, h, [], 0, 0, zM0) : mE)]) ls st w) : V Γ M (zF Γ M 82 0 0 Q) (d + 1) 82 0 0 pc ls st w 0 0 := by
  cases hc : zat pc cs with
  | nil => rw [hc] at hne; cases hne
  | cons q cs' =>
    have e := zat_pc _ _ _ hc
    rw [← e]
    rw [hc] at hz
    exact zend_sound (by decide) ⟨Nat.le_refl _, Nat.le_refl _⟩ (zRt_m ⟨rfl, Nat.le_refl _⟩) _ (by rw [← hc]; exact zat_ok cs hok.1) (by rw [← hc]; exact zend_at cs hok.2) q cs' rfl ls st w (by rw [hrt]; exact hz)
end ZE
def tkJ0_length_8abf5_p0 : List mE := [(0, .aload_n 0, 1, 0, [], 0, 0, zM0)]
theorem otkJ0_length_8abf5_p0 : zok kJ0_length_8abf5.2.1 kJ0_length_8abf5.2.2.1 kJ0_length_8abf5.2.2.2.1 tkJ0_length_8abf5_p0 = true ∧ zend tkJ0_length_8abf5_p0 1 = true := ⟨by decide +kernel, by decide +kernel⟩
def tkJ0_length_8abf5_p5 : List mE := [(5, .aload_n 0, 1, 0, [], 0, 0, zM0)]
theorem otkJ0_length_8abf5_p5 : zok kJ0_length_8abf5.2.1 kJ0_length_8abf5.2.2.1 kJ0_length_8abf5.2.2.2.1 tkJ0_length_8abf5_p5 = true ∧ zend tkJ0_length_8abf5_p5 6 = true := ⟨by decide +kernel, by decide +kernel⟩
def tkJ0_length_8abf5_p9 : List mE := [(9, .ishr, 1, 9, [], 0, 0, zM0),
  (10, .ireturn, 1, 10, [], 0, 0, zM0)]
theorem otkJ0_length_8abf5_p9 : zok kJ0_length_8abf5.2.1 kJ0_length_8abf5.2.2.1 kJ0_length_8abf5.2.2.2.1 tkJ0_length_8abf5_p9 = true ∧ zend tkJ0_length_8abf5_p9 11 = true := ⟨by decide +kernel, by decide +kernel⟩
def tkJ0_coder_7d493_p3 : List mE := [(3, .ifCond .eq 10, 3, 13, [], 0, 0, zM0),
  (6, .aload_n 0, 1, 0, [], 0, 0, zM0)]
theorem otkJ0_coder_7d493_p3 : zok kJ0_coder_7d493.2.1 kJ0_coder_7d493.2.2.1 kJ0_coder_7d493.2.2.2.1 tkJ0_coder_7d493_p3 = true ∧ zend tkJ0_coder_7d493_p3 7 = true := ⟨by decide +kernel, by decide +kernel⟩
def tkJ0_coder_7d493_p10 : List mE := [(10, .goto 4, 3, 14, [], 0, 0, zM0),
  (13, .iconst 1, 1, 13, [], 1, 0, zM0)]
theorem otkJ0_coder_7d493_p10 : zok kJ0_coder_7d493.2.1 kJ0_coder_7d493.2.2.1 kJ0_coder_7d493.2.2.2.1 tkJ0_coder_7d493_p10 = true ∧ zend tkJ0_coder_7d493_p10 14 = true := ⟨by decide +kernel, by decide +kernel⟩
def tkJ0_charAt_5068e_p0 : List mE := [(0, .aload_n 0, 1, 0, [], 0, 0, zM0)]
theorem otkJ0_charAt_5068e_p0 : zok kJ0_charAt_5068e.2.1 kJ0_charAt_5068e.2.2.1 kJ0_charAt_5068e.2.2.2.1 tkJ0_charAt_5068e_p0 = true ∧ zend tkJ0_charAt_5068e_p0 1 = true := ⟨by decide +kernel, by decide +kernel⟩
def tkJ0_charAt_5068e_p4 : List mE := [(4, .ifCond .eq 12, 3, 16, [], 0, 0, zM0),
  (7, .aload_n 0, 1, 0, [], 0, 0, zM0)]
theorem otkJ0_charAt_5068e_p4 : zok kJ0_charAt_5068e.2.1 kJ0_charAt_5068e.2.2.1 kJ0_charAt_5068e.2.2.2.1 tkJ0_charAt_5068e_p4 = true ∧ zend tkJ0_charAt_5068e_p4 8 = true := ⟨by decide +kernel, by decide +kernel⟩
def tkJ0_charAt_5068e_p11 : List mE := [(11, .iload_n 1, 1, 1, [], 0, 0, zM0),
  (12, .invokestatic 495, 3, 0, [2010, 2, 1], 0, 0, kJ1_charAt_3b067)]
theorem otkJ0_charAt_5068e_p11 : zok kJ0_charAt_5068e.2.1 kJ0_charAt_5068e.2.2.1 kJ0_charAt_5068e.2.2.2.1 tkJ0_charAt_5068e_p11 = true ∧ zend tkJ0_charAt_5068e_p11 15 = true := ⟨by decide +kernel, by decide +kernel⟩
def tkJ0_charAt_5068e_p16 : List mE := [(16, .aload_n 0, 1, 0, [], 0, 0, zM0)]
theorem otkJ0_charAt_5068e_p16 : zok kJ0_charAt_5068e.2.1 kJ0_charAt_5068e.2.2.1 kJ0_charAt_5068e.2.2.2.1 tkJ0_charAt_5068e_p16 = true ∧ zend tkJ0_charAt_5068e_p16 17 = true := ⟨by decide +kernel, by decide +kernel⟩
def tkJ0_charAt_5068e_p20 : List mE := [(20, .iload_n 1, 1, 1, [], 0, 0, zM0),
  (21, .invokestatic 498, 3, 0, [2021, 2, 1], 0, 0, kJ2_charAt_3b067)]
theorem otkJ0_charAt_5068e_p20 : zok kJ0_charAt_5068e.2.1 kJ0_charAt_5068e.2.2.1 kJ0_charAt_5068e.2.2.2.1 tkJ0_charAt_5068e_p20 = true ∧ zend tkJ0_charAt_5068e_p20 24 = true := ⟨by decide +kernel, by decide +kernel⟩
def tkJ0_isLatin1_aae02_p3 : List mE := [(3, .ifCond .eq 14, 3, 17, [], 0, 0, zM0),
  (6, .aload_n 0, 1, 0, [], 0, 0, zM0)]
theorem otkJ0_isLatin1_aae02_p3 : zok kJ0_isLatin1_aae02.2.1 kJ0_isLatin1_aae02.2.2.1 kJ0_isLatin1_aae02.2.2.2.1 tkJ0_isLatin1_aae02_p3 = true ∧ zend tkJ0_isLatin1_aae02_p3 7 = true := ⟨by decide +kernel, by decide +kernel⟩
def tkJ0_isLatin1_aae02_p10 : List mE := [(10, .ifCond .ne 7, 3, 17, [], 0, 0, zM0),
  (13, .iconst 1, 1, 13, [], 1, 0, zM0),
  (14, .goto 4, 3, 18, [], 0, 0, zM0),
  (17, .iconst 0, 1, 17, [], 0, 0, zM0),
  (18, .ireturn, 1, 18, [], 0, 0, zM0)]
theorem otkJ0_isLatin1_aae02_p10 : zok kJ0_isLatin1_aae02.2.1 kJ0_isLatin1_aae02.2.2.1 kJ0_isLatin1_aae02.2.2.2.1 tkJ0_isLatin1_aae02_p10 = true ∧ zend tkJ0_isLatin1_aae02_p10 19 = true := ⟨by decide +kernel, by decide +kernel⟩
def tkJ1_charAt_3b067_p0 : List mE := [(0, .iload_n 1, 1, 1, [], 0, 0, zM0),
  (1, .aload_n 0, 1, 0, [], 0, 0, zM0)]
theorem otkJ1_charAt_3b067_p0 : zok kJ1_charAt_3b067.2.1 kJ1_charAt_3b067.2.2.1 kJ1_charAt_3b067.2.2.2.1 tkJ1_charAt_3b067_p0 = true ∧ zend tkJ1_charAt_3b067_p0 2 = true := ⟨by decide +kernel, by decide +kernel⟩
def tkJ1_charAt_3b067_p3 : List mE := [(3, .invokestatic 9, 3, 0, [2013, 2, 0], 0, 0, kJ0_checkIndex_df160),
  (6, .aload_n 0, 1, 0, [], 0, 0, zM0),
  (7, .iload_n 1, 1, 1, [], 0, 0, zM0)]
theorem otkJ1_charAt_3b067_p3 : zok kJ1_charAt_3b067.2.1 kJ1_charAt_3b067.2.2.1 kJ1_charAt_3b067.2.2.2.1 tkJ1_charAt_3b067_p3 = true ∧ zend tkJ1_charAt_3b067_p3 8 = true := ⟨by decide +kernel, by decide +kernel⟩
def tkJ1_charAt_3b067_p9 : List mE := [(9, .sipush 255, 3, 9, [], 255, 0, zM0),
  (12, .iand, 1, 12, [], 0, 0, zM0),
  (13, .i2c, 1, 13, [], 0, 0, zM0)]
theorem otkJ1_charAt_3b067_p9 : zok kJ1_charAt_3b067.2.1 kJ1_charAt_3b067.2.2.1 kJ1_charAt_3b067.2.2.2.1 tkJ1_charAt_3b067_p9 = true ∧ zend tkJ1_charAt_3b067_p9 14 = true := ⟨by decide +kernel, by decide +kernel⟩
def tkJ0_checkIndex_df160_p0 : List mE := [(0, .iload_n 0, 1, 0, [], 0, 0, zM0),
  (1, .iload_n 1, 1, 1, [], 0, 0, zM0)]
theorem otkJ0_checkIndex_df160_p0 : zok kJ0_checkIndex_df160.2.1 kJ0_checkIndex_df160.2.2.1 kJ0_checkIndex_df160.2.2.2.1 tkJ0_checkIndex_df160_p0 = true ∧ zend tkJ0_checkIndex_df160_p0 2 = true := ⟨by decide +kernel, by decide +kernel⟩
def tkJ0_checkIndex_df160_p5 : List mE := [(5, .invokestatic 1059, 3, 0, [2018, 3, 1], 0, 0, kJ3_checkIndex_8e157),
  (8, .pop, 1, 8, [], 0, 0, zM0),
  (9, .return_, 1, 9, [], 0, 0, zM0)]
theorem otkJ0_checkIndex_df160_p5 : zok kJ0_checkIndex_df160.2.1 kJ0_checkIndex_df160.2.2.1 kJ0_checkIndex_df160.2.2.2.1 tkJ0_checkIndex_df160_p5 = true ∧ zend tkJ0_checkIndex_df160_p5 10 = true := ⟨by decide +kernel, by decide +kernel⟩
def tkJ3_checkIndex_8e157_p0 : List mE := [(0, .iload_n 0, 1, 0, [], 0, 0, zM0),
  (1, .ifCond .lt 8, 3, 9, [], 0, 0, zM0),
  (4, .iload_n 0, 1, 0, [], 0, 0, zM0),
  (5, .iload_n 1, 1, 1, [], 0, 0, zM0),
  (6, .if_icmp .lt 10, 3, 16, [], 0, 0, zM0),
  (9, .aload_n 2, 1, 2, [], 0, 0, zM0),
  (10, .iload_n 0, 1, 0, [], 0, 0, zM0),
  (11, .iload_n 1, 1, 1, [], 0, 0, zM0)]
theorem otkJ3_checkIndex_8e157_p0 : zok kJ3_checkIndex_8e157.2.1 kJ3_checkIndex_8e157.2.2.1 kJ3_checkIndex_8e157.2.2.2.1 tkJ3_checkIndex_8e157_p0 = true ∧ zend tkJ3_checkIndex_8e157_p0 12 = true := ⟨by decide +kernel, by decide +kernel⟩
def tkJ3_checkIndex_8e157_p16 : List mE := [(16, .iload_n 0, 1, 0, [], 0, 0, zM0),
  (17, .ireturn, 1, 17, [], 0, 0, zM0)]
theorem otkJ3_checkIndex_8e157_p16 : zok kJ3_checkIndex_8e157.2.1 kJ3_checkIndex_8e157.2.2.1 kJ3_checkIndex_8e157.2.2.2.1 tkJ3_checkIndex_8e157_p16 = true ∧ zend tkJ3_checkIndex_8e157_p16 18 = true := ⟨by decide +kernel, by decide +kernel⟩
def tkJ0_indexOf_0f7a4_p0 : List mE := [(0, .aload_n 0, 1, 0, [], 0, 0, zM0),
  (1, .iload_n 1, 1, 1, [], 0, 0, zM0),
  (2, .iconst 0, 1, 2, [], 0, 0, zM0)]
theorem otkJ0_indexOf_0f7a4_p0 : zok kJ0_indexOf_0f7a4.2.1 kJ0_indexOf_0f7a4.2.2.1 kJ0_indexOf_0f7a4.2.2.2.1 tkJ0_indexOf_0f7a4_p0 = true ∧ zend tkJ0_indexOf_0f7a4_p0 3 = true := ⟨by decide +kernel, by decide +kernel⟩
def tkJ0_indexOf_0f7a4_p6 : List mE := [(6, .ireturn, 1, 6, [], 0, 0, zM0)]
theorem otkJ0_indexOf_0f7a4_p6 : zok kJ0_indexOf_0f7a4.2.1 kJ0_indexOf_0f7a4.2.2.1 kJ0_indexOf_0f7a4.2.2.2.1 tkJ0_indexOf_0f7a4_p6 = true ∧ zend tkJ0_indexOf_0f7a4_p6 7 = true := ⟨by decide +kernel, by decide +kernel⟩
def tkJ0_indexOf_7cf53_p0 : List mE := [(0, .aload_n 0, 1, 0, [], 0, 0, zM0)]
theorem otkJ0_indexOf_7cf53_p0 : zok kJ0_indexOf_7cf53.2.1 kJ0_indexOf_7cf53.2.2.1 kJ0_indexOf_7cf53.2.2.2.1 tkJ0_indexOf_7cf53_p0 = true ∧ zend tkJ0_indexOf_7cf53_p0 1 = true := ⟨by decide +kernel, by decide +kernel⟩
def tkJ0_indexOf_7cf53_p4 : List mE := [(4, .ifCond .eq 19, 3, 23, [], 0, 0, zM0),
  (7, .aload_n 0, 1, 0, [], 0, 0, zM0)]
theorem otkJ0_indexOf_7cf53_p4 : zok kJ0_indexOf_7cf53.2.1 kJ0_indexOf_7cf53.2.2.1 kJ0_indexOf_7cf53.2.2.2.1 tkJ0_indexOf_7cf53_p4 = true ∧ zend tkJ0_indexOf_7cf53_p4 8 = true := ⟨by decide +kernel, by decide +kernel⟩
def tkJ0_indexOf_7cf53_p11 : List mE := [(11, .iload_n 1, 1, 1, [], 0, 0, zM0),
  (12, .iload_n 2, 1, 2, [], 0, 0, zM0),
  (13, .aload_n 0, 1, 0, [], 0, 0, zM0)]
theorem otkJ0_indexOf_7cf53_p11 : zok kJ0_indexOf_7cf53.2.1 kJ0_indexOf_7cf53.2.2.1 kJ0_indexOf_7cf53.2.2.2.1 tkJ0_indexOf_7cf53_p11 = true ∧ zend tkJ0_indexOf_7cf53_p11 14 = true := ⟨by decide +kernel, by decide +kernel⟩
def tkJ0_indexOf_7cf53_p17 : List mE := [(17, .invokestatic 637, 3, 0, [2117, 4, 1], 0, 0, kJ1_indexOf_4cfef),
  (20, .goto 16, 3, 36, [], 0, 0, zM0),
  (23, .aload_n 0, 1, 0, [], 0, 0, zM0)]
theorem otkJ0_indexOf_7cf53_p17 : zok kJ0_indexOf_7cf53.2.1 kJ0_indexOf_7cf53.2.2.1 kJ0_indexOf_7cf53.2.2.2.1 tkJ0_indexOf_7cf53_p17 = true ∧ zend tkJ0_indexOf_7cf53_p17 24 = true := ⟨by decide +kernel, by decide +kernel⟩
def tkJ0_indexOf_7cf53_p27 : List mE := [(27, .iload_n 1, 1, 1, [], 0, 0, zM0),
  (28, .iload_n 2, 1, 2, [], 0, 0, zM0),
  (29, .aload_n 0, 1, 0, [], 0, 0, zM0)]
theorem otkJ0_indexOf_7cf53_p27 : zok kJ0_indexOf_7cf53.2.1 kJ0_indexOf_7cf53.2.2.1 kJ0_indexOf_7cf53.2.2.2.1 tkJ0_indexOf_7cf53_p27 = true ∧ zend tkJ0_indexOf_7cf53_p27 30 = true := ⟨by decide +kernel, by decide +kernel⟩
def tkJ0_indexOf_7cf53_p33 : List mE := [(33, .invokestatic 640, 3, 0, [2132, 4, 1], 0, 0, kJ2_indexOf_4cfef),
  (36, .ireturn, 1, 36, [], 0, 0, zM0)]
theorem otkJ0_indexOf_7cf53_p33 : zok kJ0_indexOf_7cf53.2.1 kJ0_indexOf_7cf53.2.2.1 kJ0_indexOf_7cf53.2.2.2.1 tkJ0_indexOf_7cf53_p33 = true ∧ zend tkJ0_indexOf_7cf53_p33 37 = true := ⟨by decide +kernel, by decide +kernel⟩
def tkJ1_indexOf_4cfef_p0 : List mE := [(0, .iload_n 1, 1, 1, [], 0, 0, zM0),
  (1, .invokestatic 88, 3, 0, [2120, 1, 1], 0, 0, kJ1_canEncode_9a6ad),
  (4, .ifCond .ne 5, 3, 9, [], 0, 0, zM0),
  (7, .iconst (-1), 1, 7, [], (-1), 0, zM0),
  (8, .ireturn, 1, 8, [], 0, 0, zM0),
  (9, .iload_n 2, 1, 2, [], 0, 0, zM0),
  (10, .iconst 0, 1, 10, [], 0, 0, zM0),
  (11, .invokestatic 92, 3, 7, [2123], 0, 0, zM0),
  (14, .istore_n 2, 1, 2, [], 0, 0, zM0),
  (15, .iload_n 3, 1, 3, [], 0, 0, zM0),
  (16, .aload_n 0, 1, 0, [], 0, 0, zM0)]
theorem otkJ1_indexOf_4cfef_p0 : zok kJ1_indexOf_4cfef.2.1 kJ1_indexOf_4cfef.2.2.1 kJ1_indexOf_4cfef.2.2.2.1 tkJ1_indexOf_4cfef_p0 = true ∧ zend tkJ1_indexOf_4cfef_p0 17 = true := ⟨by decide +kernel, by decide +kernel⟩
def tkJ1_indexOf_4cfef_p18 : List mE := [(18, .invokestatic 38, 3, 6, [2126], 0, 0, zM0),
  (21, .istore_n 3, 1, 3, [], 0, 0, zM0),
  (22, .iload_n 2, 1, 2, [], 0, 0, zM0),
  (23, .iload_n 3, 1, 3, [], 0, 0, zM0),
  (24, .if_icmp .lt 5, 3, 29, [], 0, 0, zM0),
  (27, .iconst (-1), 1, 27, [], (-1), 0, zM0),
  (28, .ireturn, 1, 28, [], 0, 0, zM0),
  (29, .aload_n 0, 1, 0, [], 0, 0, zM0),
  (30, .iload_n 1, 1, 1, [], 0, 0, zM0),
  (31, .iload_n 2, 1, 2, [], 0, 0, zM0),
  (32, .iload_n 3, 1, 3, [], 0, 0, zM0),
  (33, .invokestatic 95, 3, 0, [2129, 4, 1], 0, 0, kJ1_indexOfChar_4cfef),
  (36, .ireturn, 1, 36, [], 0, 0, zM0)]
theorem otkJ1_indexOf_4cfef_p18 : zok kJ1_indexOf_4cfef.2.1 kJ1_indexOf_4cfef.2.2.1 kJ1_indexOf_4cfef.2.2.2.1 tkJ1_indexOf_4cfef_p18 = true ∧ zend tkJ1_indexOf_4cfef_p18 37 = true := ⟨by decide +kernel, by decide +kernel⟩
def tkJ1_canEncode_9a6ad_p0 : List mE := [(0, .iload_n 0, 1, 0, [], 0, 0, zM0),
  (1, .ifCond .lt 14, 3, 15, [], 0, 0, zM0),
  (4, .iload_n 0, 1, 0, [], 0, 0, zM0),
  (5, .sipush 255, 3, 5, [], 255, 0, zM0),
  (8, .if_icmp .gt 7, 3, 15, [], 0, 0, zM0),
  (11, .iconst 1, 1, 11, [], 1, 0, zM0),
  (12, .goto 4, 3, 16, [], 0, 0, zM0),
  (15, .iconst 0, 1, 15, [], 0, 0, zM0),
  (16, .ireturn, 1, 16, [], 0, 0, zM0)]
theorem otkJ1_canEncode_9a6ad_p0 : zok kJ1_canEncode_9a6ad.2.1 kJ1_canEncode_9a6ad.2.2.1 kJ1_canEncode_9a6ad.2.2.2.1 tkJ1_canEncode_9a6ad_p0 = true ∧ zend tkJ1_canEncode_9a6ad_p0 17 = true := ⟨by decide +kernel, by decide +kernel⟩
def tkJ1_indexOfChar_4cfef_p0 : List mE := [(0, .iload_n 1, 1, 1, [], 0, 0, zM0),
  (1, .i2b, 1, 1, [], 0, 0, zM0),
  (2, .istore 4, 2, 4, [], 0, 0, zM0),
  (4, .iload_n 2, 1, 2, [], 0, 0, zM0),
  (5, .istore 5, 2, 5, [], 0, 0, zM0),
  (7, .iload 5, 2, 5, [], 0, 0, zM0),
  (9, .iload_n 3, 1, 3, [], 0, 0, zM0),
  (10, .if_icmp .ge 21, 3, 31, [], 0, 0, zM0),
  (13, .aload_n 0, 1, 0, [], 0, 0, zM0),
  (14, .iload 5, 2, 5, [], 0, 0, zM0)]
theorem otkJ1_indexOfChar_4cfef_p0 : zok kJ1_indexOfChar_4cfef.2.1 kJ1_indexOfChar_4cfef.2.2.1 kJ1_indexOfChar_4cfef.2.2.2.1 tkJ1_indexOfChar_4cfef_p0 = true ∧ zend tkJ1_indexOfChar_4cfef_p0 16 = true := ⟨by decide +kernel, by decide +kernel⟩
def tkJ1_indexOfChar_4cfef_p17 : List mE := [(17, .iload 4, 2, 4, [], 0, 0, zM0),
  (19, .if_icmp .ne 6, 3, 25, [], 0, 0, zM0),
  (22, .iload 5, 2, 5, [], 0, 0, zM0),
  (24, .ireturn, 1, 24, [], 0, 0, zM0),
  (25, .iinc 5 1, 3, 5, [], 1, 0, zM0),
  (28, .goto (-21), 3, 7, [], 0, 0, zM0),
  (31, .iconst (-1), 1, 31, [], (-1), 0, zM0),
  (32, .ireturn, 1, 32, [], 0, 0, zM0)]
theorem otkJ1_indexOfChar_4cfef_p17 : zok kJ1_indexOfChar_4cfef.2.1 kJ1_indexOfChar_4cfef.2.2.1 kJ1_indexOfChar_4cfef.2.2.2.1 tkJ1_indexOfChar_4cfef_p17 = true ∧ zend tkJ1_indexOfChar_4cfef_p17 33 = true := ⟨by decide +kernel, by decide +kernel⟩
