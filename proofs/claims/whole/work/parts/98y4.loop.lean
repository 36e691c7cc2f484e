/-! The law: its loop. -/
theorem zsub6 (n : Nat) (h : n < 3073) : (nI n - 6).toInt = (n : Int) - 6 := by
  by_cases c : 6 ≤ n
  · rw [show (6 : Int32) = nI 6 from rfl, nI_subN c, nI_toInt (by omega)]
    omega
  · rcases (show n = 0 ∨ n = 1 ∨ n = 2 ∨ n = 3 ∨ n = 4 ∨ n = 5 by omega) with rfl | rfl | rfl | rfl | rfl | rfl <;> rfl
theorem CI.ints {σ : mS} {w w' : mW} (h : CI σ w) (g : ∀ a, a < 67 → ∀ k, w'.2.1 a k = w.2.1 a k) : CI σ w' := ⟨h.1.fr (fun a k ha => g a (by omega) k), h.2.1.fr (fun a k ha => g a (by omega) k), h.2.2.1.fr (fun k ha => g 0 (by decide) k), h.2.2.2.1.fr (fun a k ha => g a (by omega) k), h.2.2.2.2.1.fr (fun a k ha => g a (by omega) k), h.2.2.2.2.2.1.fr (fun a k ha => g a (by omega) k), h.2.2.2.2.2.2.fr (fun a k ha => g a (by omega) k)⟩
section LLP
variable {Γ : mG} {F : mF} {d : Nat} {w : mW} {σ : mS}
theorem v_law (hN : gN Γ ≤ 3072) (hR : zRt Γ kL_law F (d + 200 + 1) 0 82 7045 82 7045 (fun v _ => v = .int 1)) (hG : zGS Γ) : ∀ (m i : Nat) (σ : mS) (w : mW), gN Γ < 6 * m + i → i ≤ 4000 → w.1 = zr0 → CI σ w → MI Γ σ w → zWF σ → V Γ kL_law F (d + 200 + 1) 0 82 7045 18 [.ref 4111, .ref 0, .ref 67, .int (nI i)] [] w 82 7045 := by
  intro m
  have out : ∀ (i : Nat) (w : mW), V Γ kL_law F (d + 200 + 1) 0 82 7045 1337 [.ref 4111, .ref 0, .ref 67, .int (nI i)] [] w 82 7045 := by
    intro i w
    refine zs_iconst (pc := 1337) (n := 1) (v := 1) (by decide +kernel) (by decide) ?_
    exact hR.1 1338 _ w 1 (by decide +kernel) (Or.inr rfl) rfl
  have cmp : ∀ i, i ≤ 4000 → ((Int32.ofNat (gN Γ) - 6 < nI i) ↔ gN Γ < i + 6) := by
    intro i hi
    rw [Int32.lt_iff_toInt_lt, nI_toInt (by omega)]
    have := zsub6 (gN Γ) (by omega)
    rw [show (Int32.ofNat (gN Γ) - 6).toInt = (gN Γ : Int) - 6 from this]
    omega
  induction m with
  | zero =>
    intro i σ w hm hi hw hC hM hF
    have c := cmp i hi
    (refine V.runW (cs := tkL_law_p18) 180 hR okL_law_p18 enL_law_p18 rfl ?_; simp only [↓reduceIte, Nat.reduceEqDiff, reduceCtorEq, z1, z2, zpad, zent, Value.category, List.length_cons, List.length_nil, List.cons_append, List.nil_append, List.getElem?_cons_zero, List.getElem?_cons_succ, List.replicate, Nat.reduceAdd, Nat.reduceSub, List.set_cons_zero, List.set_cons_succ, ↓zbl_c, ↓zq_iconst, ↓zq_bipush, ↓zq_sipush, ↓zq_lconst, ↓zq_ldc, ↓zq_ldcS, ↓zq_ldcw, ↓zq_ldc2, ↓zq_null, ↓zq_iload, ↓zq_iload_n, ↓zq_lload, ↓zq_lload_n, ↓zq_aload, ↓zq_aload_n, ↓zq_iinc, ↓zq_istore, ↓zq_istore_n, ↓zq_astorer, ↓zq_astore_nr, ↓zq_astore0, ↓zq_astore_n0, ↓zq_lstore, ↓zq_lstore_n, ↓zq_iadd, ↓zq_isub, ↓zq_imul, ↓zq_iand, ↓zq_ior, ↓zq_ixor, ↓zq_ishl, ↓zq_ishr, ↓zq_iushr, ↓zq_idiv, ↓zq_irem, ↓zq_ineg, ↓zq_i2b, ↓zq_i2s, ↓zq_i2c, ↓zq_i2l, ↓zq_l2i, ↓zq_ladd, ↓zq_lsub, ↓zq_lmul, ↓zq_ldiv, ↓zq_lrem, ↓zq_lcmp, ↓zq_dupi, ↓zq_dupr, ↓zq_dup2, ↓zq_popi, ↓zq_popr, ↓zq_goto, ↓zq_if_eq, ↓zq_if_ne, ↓zq_if_lt, ↓zq_if_ge, ↓zq_if_gt, ↓zq_if_le, ↓zq_icmp_eq, ↓zq_icmp_ne, ↓zq_icmp_lt, ↓zq_icmp_ge, ↓zq_icmp_gt, ↓zq_icmp_le, ↓zq_ifnullr, ↓zq_ifnull0, ↓zq_ifnonnullr, ↓zq_ifnonnull0, ↓zq_table, ↓zq_get0, ↓zq_get3, ↓zq_get1, ↓zq_get2, ↓zq_put0, ↓zq_put3, ↓zq_put1, ↓zq_putS, ↓zq_iald0, ↓zq_iald1, ↓zq_iald2, ↓zq_iast, ↓zq_bald, ↓zq_bast, ↓zq_aald, ↓zq_alen5, ↓zq_alen0, ↓zq_alen1, ↓zq_alen2, ↓zq_alen3, ↓zq_alen4, ↓zq_ivS, ↓zq_iv0_0, ↓zq_iv0_1, ↓zq_iv1_0, ↓zq_iv1_1, ↓zq_iv2_0, ↓zq_iv2_1, ↓zq_iv3_0, ↓zq_iv3_1, ↓zq_iv4_0, ↓zq_iv4_1, ↓zq_iv5_0, ↓zq_iv5_1, ↓zq_iv6_0, ↓zq_iv6_1, ↓zq_is0_0_0, ↓zq_is0_1_0, ↓zq_is0_0_8, ↓zq_is0_1_8, ↓zq_is1_0_0, ↓zq_is1_1_0, ↓zq_is1_0_8, ↓zq_is1_1_8, ↓zq_is2_0_0, ↓zq_is2_1_0, ↓zq_is2_0_8, ↓zq_is2_1_8, ↓zq_is3_0_0, ↓zq_is3_1_0, ↓zq_is3_0_8, ↓zq_is3_1_8, ↓zq_is4_0_0, ↓zq_is4_1_0, ↓zq_is4_0_8, ↓zq_is4_1_8, ↓zq_copy, ↓zq_mmin, ↓zq_mmax, ↓zq_iret, ↓zq_lret, ↓zq_aretr, ↓zq_aret0, ↓zq_vret, ↓zI_0, ↓zJ_0, ↓zQr_0, ↓zQ0_0, ↓zI_1, ↓zJ_1, ↓zQr_1, ↓zQ0_1, ↓zI_2, ↓zJ_2, ↓zQr_2, ↓zQ0_2, ↓zI_3, ↓zJ_3, ↓zQr_3, ↓zQ0_3, ↓zI_4, ↓zJ_4, ↓zQr_4, ↓zQ0_4, ↓zI_5, ↓zJ_5, ↓zQr_5, ↓zQ0_5, ↓zI_6, ↓zJ_6, ↓zQr_6, ↓zQ0_6, ↓zI_7, ↓zJ_7, ↓zQr_7, ↓zQ0_7, ↓zI_8, ↓zJ_8, ↓zQr_8, ↓zQ0_8, ↓zI_9, ↓zJ_9, ↓zQr_9, ↓zQ0_9, ↓zI_10, ↓zJ_10, ↓zQr_10, ↓zQ0_10, ↓zI_11, ↓zJ_11, ↓zQr_11, ↓zQ0_11, ↓zI_12, ↓zJ_12, ↓zQr_12, ↓zQ0_12, ↓zNar_i, ↓zNar_z, ↓zRfT_o, ↓zrv_s, ↓zrv_n, ↓zq_nop, zcut, zsw, Int.reduceAdd, true_and, and_true, eq_self, true_or, or_true, Nat.reduceLeDiff, Nat.zero_le, zS_ob, zS_ar, zS_len, zS_ref, si_1, sj_1, sa_1, tkL_law_p18, zat, c, zb_t, zb_f, Int32.reduceToInt, Int.reduceLT, Int.reduceLE, Int.reduceEq, or_self, or_false, false_or, zne, Int32.reduceLT, Int32.reduceLE, not_true_eq_false, not_false_eq_true, false_implies, true_implies, forall_const, and_self])
    exact ⟨fun _ => out i w, fun q => absurd (show gN Γ < i + 6 by omega) q⟩
  | succ m ih =>
    intro i σ w hm hi hw hC hM hF
    have c := cmp i hi
    (refine V.runW (cs := tkL_law_p18) 180 hR okL_law_p18 enL_law_p18 rfl ?_; simp only [↓reduceIte, Nat.reduceEqDiff, reduceCtorEq, z1, z2, zpad, zent, Value.category, List.length_cons, List.length_nil, List.cons_append, List.nil_append, List.getElem?_cons_zero, List.getElem?_cons_succ, List.replicate, Nat.reduceAdd, Nat.reduceSub, List.set_cons_zero, List.set_cons_succ, ↓zbl_c, ↓zq_iconst, ↓zq_bipush, ↓zq_sipush, ↓zq_lconst, ↓zq_ldc, ↓zq_ldcS, ↓zq_ldcw, ↓zq_ldc2, ↓zq_null, ↓zq_iload, ↓zq_iload_n, ↓zq_lload, ↓zq_lload_n, ↓zq_aload, ↓zq_aload_n, ↓zq_iinc, ↓zq_istore, ↓zq_istore_n, ↓zq_astorer, ↓zq_astore_nr, ↓zq_astore0, ↓zq_astore_n0, ↓zq_lstore, ↓zq_lstore_n, ↓zq_iadd, ↓zq_isub, ↓zq_imul, ↓zq_iand, ↓zq_ior, ↓zq_ixor, ↓zq_ishl, ↓zq_ishr, ↓zq_iushr, ↓zq_idiv, ↓zq_irem, ↓zq_ineg, ↓zq_i2b, ↓zq_i2s, ↓zq_i2c, ↓zq_i2l, ↓zq_l2i, ↓zq_ladd, ↓zq_lsub, ↓zq_lmul, ↓zq_ldiv, ↓zq_lrem, ↓zq_lcmp, ↓zq_dupi, ↓zq_dupr, ↓zq_dup2, ↓zq_popi, ↓zq_popr, ↓zq_goto, ↓zq_if_eq, ↓zq_if_ne, ↓zq_if_lt, ↓zq_if_ge, ↓zq_if_gt, ↓zq_if_le, ↓zq_icmp_eq, ↓zq_icmp_ne, ↓zq_icmp_lt, ↓zq_icmp_ge, ↓zq_icmp_gt, ↓zq_icmp_le, ↓zq_ifnullr, ↓zq_ifnull0, ↓zq_ifnonnullr, ↓zq_ifnonnull0, ↓zq_table, ↓zq_get0, ↓zq_get3, ↓zq_get1, ↓zq_get2, ↓zq_put0, ↓zq_put3, ↓zq_put1, ↓zq_putS, ↓zq_iald0, ↓zq_iald1, ↓zq_iald2, ↓zq_iast, ↓zq_bald, ↓zq_bast, ↓zq_aald, ↓zq_alen5, ↓zq_alen0, ↓zq_alen1, ↓zq_alen2, ↓zq_alen3, ↓zq_alen4, ↓zq_ivS, ↓zq_iv0_0, ↓zq_iv0_1, ↓zq_iv1_0, ↓zq_iv1_1, ↓zq_iv2_0, ↓zq_iv2_1, ↓zq_iv3_0, ↓zq_iv3_1, ↓zq_iv4_0, ↓zq_iv4_1, ↓zq_iv5_0, ↓zq_iv5_1, ↓zq_iv6_0, ↓zq_iv6_1, ↓zq_is0_0_0, ↓zq_is0_1_0, ↓zq_is0_0_8, ↓zq_is0_1_8, ↓zq_is1_0_0, ↓zq_is1_1_0, ↓zq_is1_0_8, ↓zq_is1_1_8, ↓zq_is2_0_0, ↓zq_is2_1_0, ↓zq_is2_0_8, ↓zq_is2_1_8, ↓zq_is3_0_0, ↓zq_is3_1_0, ↓zq_is3_0_8, ↓zq_is3_1_8, ↓zq_is4_0_0, ↓zq_is4_1_0, ↓zq_is4_0_8, ↓zq_is4_1_8, ↓zq_copy, ↓zq_mmin, ↓zq_mmax, ↓zq_iret, ↓zq_lret, ↓zq_aretr, ↓zq_aret0, ↓zq_vret, ↓zI_0, ↓zJ_0, ↓zQr_0, ↓zQ0_0, ↓zI_1, ↓zJ_1, ↓zQr_1, ↓zQ0_1, ↓zI_2, ↓zJ_2, ↓zQr_2, ↓zQ0_2, ↓zI_3, ↓zJ_3, ↓zQr_3, ↓zQ0_3, ↓zI_4, ↓zJ_4, ↓zQr_4, ↓zQ0_4, ↓zI_5, ↓zJ_5, ↓zQr_5, ↓zQ0_5, ↓zI_6, ↓zJ_6, ↓zQr_6, ↓zQ0_6, ↓zI_7, ↓zJ_7, ↓zQr_7, ↓zQ0_7, ↓zI_8, ↓zJ_8, ↓zQr_8, ↓zQ0_8, ↓zI_9, ↓zJ_9, ↓zQr_9, ↓zQ0_9, ↓zI_10, ↓zJ_10, ↓zQr_10, ↓zQ0_10, ↓zI_11, ↓zJ_11, ↓zQr_11, ↓zQ0_11, ↓zI_12, ↓zJ_12, ↓zQr_12, ↓zQ0_12, ↓zNar_i, ↓zNar_z, ↓zRfT_o, ↓zrv_s, ↓zrv_n, ↓zq_nop, zcut, zsw, Int.reduceAdd, true_and, and_true, eq_self, true_or, or_true, Nat.reduceLeDiff, Nat.zero_le, zS_ob, zS_ar, zS_len, zS_ref, si_1, sj_1, sa_1, tkL_law_p18, zat, c, zsw, zb_t, zb_f, Int32.reduceToInt, Int.reduceLT, Int.reduceLE, Int.reduceEq, or_self, or_false, false_or, zne, Int32.reduceLT, Int32.reduceLE, not_true_eq_false, not_false_eq_true, false_implies, true_implies, forall_const, and_self])
    refine ⟨fun _ => out i w, fun q => ?_⟩
    have hi2 : i + 6 ≤ gN Γ := by omega
    refine ⟨vp_in_nI (by omega) (by omega), ?_⟩
    have next : ∀ τ w', w'.1 = zr0 → CI τ w' → MI Γ τ w' → zWF τ → V Γ kL_law F (d + 200 + 1) 0 82 7045 1331 [.ref 4111, .ref 0, .ref 67, .int (nI i)] [] w' 82 7045 := by
      intro τ w' hw' hC' hM' hF'
      refine zz_iinc (pc := 1331) (i := 3) (n := 6) (v := 6) (x := nI i) (ls' := [.ref 4111, .ref 0, .ref 67, .int (nI (i + 6))]) (by decide +kernel) (by decide) rfl (by decide) (by rw [show nI i + 6 = nI (i + 6) from nI_add i 6]; rfl) ?_
      refine zs_goto (pc := 1334) (o := (-1316)) (t := 18) (by decide +kernel) (by decide) ?_
      exact ih (i + 6) τ w' (by omega) (by omega) hw' hC' hM' hF'
    refine ⟨fun _ => next σ w hw hC hM hF, fun _ => ?_, fun _ => ?_, fun _ => ?_, fun _ => ?_, fun _ => ?_, fun _ => ?_, fun _ => ?_, fun _ => ?_, fun _ => ?_, fun _ => ?_, fun _ => ?_, fun _ => ?_, fun _ => ?_, fun _ => ?_, fun _ => ?_, fun _ => ?_, fun _ => ?_, fun _ => ?_, fun _ => ?_, fun _ => ?_, fun _ => ?_, fun _ => ?_, fun _ => ?_, fun _ => ?_, fun _ => ?_, fun _ => ?_, fun _ => ?_, fun _ => ?_, fun _ => ?_, fun _ => ?_, fun _ => ?_, fun _ => ?_, fun _ => ?_⟩
    · exact v_case_against hi2 hN hR hG hw hC hM hF next
    · exact v_case_set hi2 hN hR hG hw hC hM hF next
    · exact v_case_hen hi2 hN hR hG hw hC hM hF next
    · exact v_case_told hi2 hN hR hG hw hC hM hF next
    · exact v_case_asks hi2 hN hR hG hw hC hM hF next
    · exact v_case_feed hi2 hN hR hG hw hC hM hF next
    · exact v_case_text hi2 hN hR hG hw hC hM hF next
    · exact v_case_force hi2 hN hR hG hw hC hM hF next
    · exact v_case_argue hi2 hN hR hG hw hC hM hF next
    · exact v_case_night hi2 hN hR hG hw hC hM hF next
    · exact v_case_morning hi2 hN hR hG hw hC hM hF next
    · exact v_case_teach hi2 hN hR hG hw hC hM hF next
    · exact v_case_nights hi2 hN hR hG hw hC hM hF next
    · exact v_case_field hi2 hN hR hG hw hC hM hF next
    · exact v_case_sets hi2 hN hR hG hw hC hM hF next
    · exact v_case_share hi2 hN hR hG hw hC hM hF next
    · exact v_case_best hi2 hN hR hG hw hC hM hF next
    · exact v_case_three hi2 hN hR hG hw hC hM hF next
    · exact v_case_whom hi2 hN hR hG hw hC hM hF next
    · exact v_case_win hi2 hN hR hG hw hC hM hF next
    · exact v_case_agree hi2 hN hR hG hw hC hM hF next
    · exact v_case_tells hi2 hN hR hG hw hC hM hF next
    · exact v_case_film hi2 hN hR hG hw hC hM hF next
    · exact v_case_drawn hi2 hN hR hG hw hC hM hF next
    · exact v_case_chance hi2 hN hR hG hw hC hM hF next
    · exact v_case_image hi2 hN hR hG hw hC hM hF next
    · exact v_case_back hi2 hN hR hG hw hC hM hF next
    · exact v_case_count hi2 hN hR hG hw hC hM hF next
    · exact v_case_sheet hi2 hN hR hG hw hC hM hF next
    · exact v_case_cell hi2 hN hR hG hw hC hM hF next
    · exact v_case_copy hi2 hN hR hG hw hC hM hF next
    · exact v_case_hens hi2 hN hR hG hw hC hM hF next
    · exact v_case_taken hi2 hN hR hG hw hC hM hF next
end LLP
