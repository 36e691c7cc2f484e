/-! The model's constructor. -/
theorem zbtM_lt : ∀ i, i < 40 → zbtM i < 256 := by decide +kernel
def zrM (a k : Nat) : Option Nat := if a < 67 then zr0 a k else none
section MIO
variable {Γ : mG} {d : Nat} {w w' : mW} {Q : Value → mW → Prop} {k i n j : Nat} {x y : Int32}
theorem m_spell {c0 c1 c2 c3 c4 c5 c6 c7 : Int32} (hw : w.1 = zr0) (hn : n + 8 ≤ 960) (h : Q .null (si (si (si (si (si (si (si (si w 68 n c0) 68 (n + 1) c1) 68 (n + 2) c2) 68 (n + 3) c3) 68 (n + 4) c4) 68 (n + 5) c5) 68 (n + 6) c6) 68 (n + 7) c7)) : Call Γ (d + 1) 0 0 kX11_spell [.ref 67, .int (nI n), .int c0, .int c1, .int c2, .int c3, .int c4, .int c5, .int c6, .int c7] 82 w Q := by
  have e1 : nI n + 1 = nI (n + 1) := nI_add n 1
  have e2 : nI n + 2 = nI (n + 2) := nI_add n 2
  have e3 : nI n + 3 = nI (n + 3) := nI_add n 3
  have e4 : nI n + 4 = nI (n + 4) := nI_add n 4
  have e5 : nI n + 5 = nI (n + 5) := nI_add n 5
  have e6 : nI n + 6 = nI (n + 6) := nI_add n 6
  have e7 : nI n + 7 = nI (n + 7) := nI_add n 7
  have n0 := nT (show n < 2 ^ 31 by omega)
  have n1 := nT (show n + 1 < 2 ^ 31 by omega)
  have n2 := nT (show n + 2 < 2 ^ 31 by omega)
  have n3 := nT (show n + 3 < 2 ^ 31 by omega)
  have n4 := nT (show n + 4 < 2 ^ 31 by omega)
  have n5 := nT (show n + 5 < 2 ^ 31 by omega)
  have n6 := nT (show n + 6 < 2 ^ 31 by omega)
  have n7 := nT (show n + 7 < 2 ^ 31 by omega)
  (refine Call.run (cs := tkX11_spell) 10 none mkX11_spell ⟨by decide +kernel, rfl⟩ (Nat.le_of_ble_eq_true rfl) okX11_spell rfl rfl ?_; simp only [zkX11_spell, tkX11_spell_0, ↓reduceIte, Nat.reduceEqDiff, reduceCtorEq, z1, z2, zpad, zent, Value.category, List.length_cons, List.length_nil, List.cons_append, List.nil_append, List.getElem?_cons_zero, List.getElem?_cons_succ, List.replicate, Nat.reduceAdd, Nat.reduceSub, List.set_cons_zero, List.set_cons_succ, ↓zbl_c, ↓zq_iconst, ↓zq_bipush, ↓zq_sipush, ↓zq_lconst, ↓zq_ldc, ↓zq_ldcS, ↓zq_ldcw, ↓zq_ldc2, ↓zq_null, ↓zq_iload, ↓zq_iload_n, ↓zq_lload, ↓zq_lload_n, ↓zq_aload, ↓zq_aload_n, ↓zq_iinc, ↓zq_istore, ↓zq_istore_n, ↓zq_astorer, ↓zq_astore_nr, ↓zq_astore0, ↓zq_astore_n0, ↓zq_lstore, ↓zq_lstore_n, ↓zq_iadd, ↓zq_isub, ↓zq_imul, ↓zq_iand, ↓zq_ior, ↓zq_ixor, ↓zq_ishl, ↓zq_ishr, ↓zq_iushr, ↓zq_idiv, ↓zq_irem, ↓zq_ineg, ↓zq_i2b, ↓zq_i2s, ↓zq_i2c, ↓zq_i2l, ↓zq_l2i, ↓zq_ladd, ↓zq_lsub, ↓zq_lmul, ↓zq_ldiv, ↓zq_lrem, ↓zq_lcmp, ↓zq_dupi, ↓zq_dupr, ↓zq_dup2, ↓zq_popi, ↓zq_popr, ↓zq_goto, ↓zq_if_eq, ↓zq_if_ne, ↓zq_if_lt, ↓zq_if_ge, ↓zq_if_gt, ↓zq_if_le, ↓zq_icmp_eq, ↓zq_icmp_ne, ↓zq_icmp_lt, ↓zq_icmp_ge, ↓zq_icmp_gt, ↓zq_icmp_le, ↓zq_ifnullr, ↓zq_ifnull0, ↓zq_ifnonnullr, ↓zq_ifnonnull0, ↓zq_table, ↓zq_get0, ↓zq_get3, ↓zq_get1, ↓zq_get2, ↓zq_put0, ↓zq_put3, ↓zq_put1, ↓zq_putS, ↓zq_iald0, ↓zq_iald1, ↓zq_iald2, ↓zq_iast, ↓zq_bald, ↓zq_bast, ↓zq_aald, ↓zq_alen5, ↓zq_alen0, ↓zq_alen1, ↓zq_alen2, ↓zq_alen3, ↓zq_alen4, ↓zq_ivS, ↓zq_iv0_0, ↓zq_iv0_1, ↓zq_iv1_0, ↓zq_iv1_1, ↓zq_iv2_0, ↓zq_iv2_1, ↓zq_iv3_0, ↓zq_iv3_1, ↓zq_iv4_0, ↓zq_iv4_1, ↓zq_iv5_0, ↓zq_iv5_1, ↓zq_iv6_0, ↓zq_iv6_1, ↓zq_is0_0_0, ↓zq_is0_1_0, ↓zq_is0_0_8, ↓zq_is0_1_8, ↓zq_is1_0_0, ↓zq_is1_1_0, ↓zq_is1_0_8, ↓zq_is1_1_8, ↓zq_is2_0_0, ↓zq_is2_1_0, ↓zq_is2_0_8, ↓zq_is2_1_8, ↓zq_is3_0_0, ↓zq_is3_1_0, ↓zq_is3_0_8, ↓zq_is3_1_8, ↓zq_is4_0_0, ↓zq_is4_1_0, ↓zq_is4_0_8, ↓zq_is4_1_8, ↓zq_copy, ↓zq_mmin, ↓zq_mmax, ↓zq_iret, ↓zq_lret, ↓zq_aretr, ↓zq_aret0, ↓zq_vret, ↓zI_0, ↓zJ_0, ↓zQr_0, ↓zQ0_0, ↓zI_1, ↓zJ_1, ↓zQr_1, ↓zQ0_1, ↓zI_2, ↓zJ_2, ↓zQr_2, ↓zQ0_2, ↓zI_3, ↓zJ_3, ↓zQr_3, ↓zQ0_3, ↓zI_4, ↓zJ_4, ↓zQr_4, ↓zQ0_4, ↓zI_5, ↓zJ_5, ↓zQr_5, ↓zQ0_5, ↓zI_6, ↓zJ_6, ↓zQr_6, ↓zQ0_6, ↓zI_7, ↓zJ_7, ↓zQr_7, ↓zQ0_7, ↓zI_8, ↓zJ_8, ↓zQr_8, ↓zQ0_8, ↓zI_9, ↓zJ_9, ↓zQr_9, ↓zQ0_9, ↓zI_10, ↓zJ_10, ↓zQr_10, ↓zQ0_10, ↓zI_11, ↓zJ_11, ↓zQr_11, ↓zQ0_11, ↓zI_12, ↓zJ_12, ↓zQr_12, ↓zQ0_12, ↓zNar_i, ↓zNar_z, ↓zRfT_o, ↓zrv_s, ↓zrv_n, ↓zq_nop, zcut, zsw, Int.reduceAdd, true_and, and_true, eq_self, true_or, or_true, Nat.reduceLeDiff, Nat.zero_le, zS_ob, zS_ar, zS_len, zS_ref, si_1, sj_1, sa_1, hw, zb_t, zb_f, Int32.reduceToInt, Int.reduceLT, Int.reduceLE, Int.reduceEq, or_self, or_false, false_or, zne, Int32.reduceLT, Int32.reduceLE, not_true_eq_false, not_false_eq_true, false_implies, true_implies, forall_const, and_self])
  simp only [e1, e2, e3, e4, e5, e6, e7, n0, n1, n2, n3, n4, n5, n6, n7]
  exact ⟨vp_in_nI (by omega) (by decide), vp_in_nI (by omega) (by decide), vp_in_nI (by omega) (by decide), vp_in_nI (by omega) (by decide), vp_in_nI (by omega) (by decide), vp_in_nI (by omega) (by decide), vp_in_nI (by omega) (by decide), vp_in_nI (by omega) (by decide), h⟩
theorem m_spellM {c c0 c1 c2 c3 c4 c5 c6 c7 : Int32} (hw : w.1 = zr0) (hj : j < 5) (ec : c = nI (8 * j)) (e0 : c0 = nI (zbtM (8 * j))) (e1 : c1 = nI (zbtM (8 * j + 1))) (e2 : c2 = nI (zbtM (8 * j + 2))) (e3 : c3 = nI (zbtM (8 * j + 3))) (e4 : c4 = nI (zbtM (8 * j + 4))) (e5 : c5 = nI (zbtM (8 * j + 5))) (e6 : c6 = nI (zbtM (8 * j + 6))) (e7 : c7 = nI (zbtM (8 * j + 7))) (h0 : ∀ i, i < 8 * j → w.2.1 68 i = nI (zbtM i)) (hq : ∀ w', zFr (fun a _ => a == 68) w w' → (∀ i, i < 8 * j + 8 → w'.2.1 68 i = nI (zbtM i)) → Q .null w') : Call Γ (d + 1) 0 0 kX11_spell [.ref 67, .int c, .int c0, .int c1, .int c2, .int c3, .int c4, .int c5, .int c6, .int c7] 82 w Q := by
  subst ec e0 e1 e2 e3 e4 e5 e6 e7
  refine m_spell hw (by omega) (hq _ ((((((((zFr.rf.si rfl).si rfl).si rfl).si rfl).si rfl).si rfl).si rfl).si rfl) (fun i hi => ?_))
  simp only [si_2, true_and]
  by_cases q7 : i = 8 * j + 7
  · rw [if_pos q7, q7]
  rw [if_neg q7]
  by_cases q6 : i = 8 * j + 6
  · rw [if_pos q6, q6]
  rw [if_neg q6]
  by_cases q5 : i = 8 * j + 5
  · rw [if_pos q5, q5]
  rw [if_neg q5]
  by_cases q4 : i = 8 * j + 4
  · rw [if_pos q4, q4]
  rw [if_neg q4]
  by_cases q3 : i = 8 * j + 3
  · rw [if_pos q3, q3]
  rw [if_neg q3]
  by_cases q2 : i = 8 * j + 2
  · rw [if_pos q2, q2]
  rw [if_neg q2]
  by_cases q1 : i = 8 * j + 1
  · rw [if_pos q1, q1]
  rw [if_neg q1]
  by_cases q0 : i = 8 * j
  · rw [if_pos q0, q0]
  rw [if_neg q0]
  exact h0 i (by omega)
theorem zr0_67 : ∀ k, k < 64 → zr0 67 k = (if k = 45 then some 81 else if k = 44 then some 80 else if k = 43 then some 79 else if k = 42 then some 78 else if k = 38 then some 77 else if k = 37 then some 76 else if k = 29 then some 75 else if k = 28 then some 74 else if k = 10 then some 73 else if k = 9 then some 72 else if k = 8 then some 71 else if k = 5 then some 70 else if k = 2 then some 69 else if k = 1 then some 68 else none) := by decide +kernel
theorem zr0_len : ∀ a, a < 82 → (zr0T.getD a []).length ≤ 64 ∧ (68 ≤ a → (zr0T.getD a []).length = 0) := by decide +kernel
theorem zrM_0 (hw : w.1 = zrM) : (sr (sr (sr (sr (si (sr (sr (sr (sr (sr (sr (sr (sr (sr (sr (w) 67 1 (some 68)) 67 2 (some 69)) 67 5 (some 70)) 67 8 (some 71)) 67 9 (some 72)) 67 10 (some 73)) 67 28 (some 74)) 67 29 (some 75)) 67 37 (some 76)) 67 38 (some 77)) 67 39 (-1)) 67 42 (some 78)) 67 43 (some 79)) 67 44 (some 80)) 67 45 (some 81)).1 = zr0 := by
  funext a k
  by_cases h67 : a = 67
  · subst h67
    simp only [sr_1, si_1, true_and, hw]
    rw [show zrM 67 k = none from if_neg (by decide)]
    rcases Nat.lt_or_ge k 64 with c | c
    · exact (zr0_67 k c).symm
    · have e : zr0 67 k = none := by
        unfold zr0
        rw [List.getD_eq_getElem?_getD, List.getElem?_eq_none (by have := (zr0_len 67 (by decide)).1; omega)]
        rfl
      rw [e]
      repeat rw [if_neg (by omega)]
  · simp only [sr_1, si_1, h67, false_and, if_false, hw]
    by_cases c : a < 67
    · exact if_pos c
    · rw [show zrM a k = none from if_neg c]
      unfold zr0
      rcases Nat.lt_or_ge a 82 with c2 | c2
      · rw [List.getD_eq_getElem?_getD, List.getElem?_eq_none (by have := (zr0_len a c2).2 (by omega); omega)]
        rfl
      · have e : zr0T.getD a [] = [] := by
          rw [List.getD_eq_getElem?_getD, List.getElem?_eq_none (by show 82 ≤ a; exact c2)]
          rfl
        rw [e]
        rfl
theorem c_iModel (hw : w.1 = zrM) (hz : ∀ a, 67 ≤ a → ∀ k, w.2.1 a k = 0 ∧ w.2.2 a k = 0) (hq : ∀ w', w'.1 = zr0 → (∀ a, a < 67 → ∀ k, w'.2.1 a k = w.2.1 a k) → MI Γ zσ0 w' → Q .null w') : Call Γ (d + 2) 14 1373 kX11_init [.ref 67] 68 w Q := by
  refine Call.of mkX11_init ⟨by decide +kernel, rfl⟩ (Nat.le_of_ble_eq_true rfl) ?_
  refine v_iModel (fun b hb => ⟨fun k => by rw [hw]; exact if_neg (by omega), fun k => (hz b (by omega) k).1, fun k => (hz b (by omega) k).2⟩) ?_
  have hr : (sr (sr (sr (sr (si (sr (sr (sr (sr (sr (sr (sr (sr (sr (sr (w) 67 1 (some 68)) 67 2 (some 69)) 67 5 (some 70)) 67 8 (some 71)) 67 9 (some 72)) 67 10 (some 73)) 67 28 (some 74)) 67 29 (some 75)) 67 37 (some 76)) 67 38 (some 77)) 67 39 (-1)) 67 42 (some 78)) 67 43 (some 79)) 67 44 (some 80)) 67 45 (some 81)).1 = zr0 := zrM_0 hw
  have hi : ∀ a k, ¬ (a = 67 ∧ k = 39) → (sr (sr (sr (sr (si (sr (sr (sr (sr (sr (sr (sr (sr (sr (sr (w) 67 1 (some 68)) 67 2 (some 69)) 67 5 (some 70)) 67 8 (some 71)) 67 9 (some 72)) 67 10 (some 73)) 67 28 (some 74)) 67 29 (some 75)) 67 37 (some 76)) 67 38 (some 77)) 67 39 (-1)) 67 42 (some 78)) 67 43 (some 79)) 67 44 (some 80)) 67 45 (some 81)).2.1 a k = w.2.1 a k := fun a k h => if_neg h
  have hi2 : (sr (sr (sr (sr (si (sr (sr (sr (sr (sr (sr (sr (sr (sr (sr (w) 67 1 (some 68)) 67 2 (some 69)) 67 5 (some 70)) 67 8 (some 71)) 67 9 (some 72)) 67 10 (some 73)) 67 28 (some 74)) 67 29 (some 75)) 67 37 (some 76)) 67 38 (some 77)) 67 39 (-1)) 67 42 (some 78)) 67 43 (some 79)) 67 44 (some 80)) 67 45 (some 81)).2.1 67 39 = -1 := rfl
  generalize sr (sr (sr (sr (si (sr (sr (sr (sr (sr (sr (sr (sr (sr (sr (w) 67 1 (some 68)) 67 2 (some 69)) 67 5 (some 70)) 67 8 (some 71)) 67 9 (some 72)) 67 10 (some 73)) 67 28 (some 74)) 67 29 (some 75)) 67 37 (some 76)) 67 38 (some 77)) 67 39 (-1)) 67 42 (some 78)) 67 43 (some 79)) 67 44 (some 80)) 67 45 (some 81) = w0 at hr hi hi2 ⊢
  have hw0 := hr
  have h0 : ∀ i, i < 8 * 0 → w0.2.1 68 i = nI (zbtM i) := fun i hi => absurd hi (Nat.not_lt_zero _)
  refine zs_aload_n (pc := 119) (k := 0) (i := 0) (by decide +kernel) rfl rfl ?_
  refine zs_iconst (pc := 120) (n := 0) (v := 0) (by decide +kernel) (by decide) ?_
  refine zs_bipush (pc := 121) (n := 108) (v := 108) (by decide +kernel) (by decide) ?_
  refine zs_bipush (pc := 123) (n := 97) (v := 97) (by decide +kernel) (by decide) ?_
  refine zs_bipush (pc := 125) (n := 121) (v := 121) (by decide +kernel) (by decide) ?_
  refine zs_bipush (pc := 127) (n := 115) (v := 115) (by decide +kernel) (by decide) ?_
  refine zs_bipush (pc := 129) (n := 32) (v := 32) (by decide +kernel) (by decide) ?_
  refine zs_bipush (pc := 131) (n := 97) (v := 97) (by decide +kernel) (by decide) ?_
  refine zs_bipush (pc := 133) (n := 103) (v := 103) (by decide +kernel) (by decide) ?_
  refine zs_bipush (pc := 135) (n := 97) (v := 97) (by decide +kernel) (by decide) ?_
  refine zs_callV (pc := 137) (i := 60) (pl := 5033) (t := 11) (a := 67) (mc' := 0) (ms' := 0) (N := kX11_spell) (as := [.int 0, .int 108, .int 97, .int 121, .int 115, .int 32, .int 97, .int 103, .int 97]) (st' := []) (by decide +kernel) (by decide +kernel) rfl rfl (zob_d rfl) (Nat.le_of_ble_eq_true rfl) rfl ⟨by decide, by decide⟩ (m_spellM (d := d) (j := 0) (Q := fun v w' => v = .null ∧ zFr (fun a _ => a == 68) w0 w' ∧ ∀ i, i < 8 → w'.2.1 68 i = nI (zbtM i)) hw0 (by decide) rfl rfl rfl rfl rfl rfl rfl rfl rfl h0 (fun w' g h => ⟨rfl, g, h⟩)) (fun v w1 e => ?_)
  obtain ⟨rfl, g1, h1⟩ := e
  have hw1 := g1.1.trans hw0
  refine zs_aload_n (pc := 140) (k := 0) (i := 0) (by decide +kernel) rfl rfl ?_
  refine zs_bipush (pc := 141) (n := 8) (v := 8) (by decide +kernel) (by decide) ?_
  refine zs_bipush (pc := 143) (n := 105) (v := 105) (by decide +kernel) (by decide) ?_
  refine zs_bipush (pc := 145) (n := 110) (v := 110) (by decide +kernel) (by decide) ?_
  refine zs_bipush (pc := 147) (n := 115) (v := 115) (by decide +kernel) (by decide) ?_
  refine zs_bipush (pc := 149) (n := 116) (v := 116) (by decide +kernel) (by decide) ?_
  refine zs_bipush (pc := 151) (n := 32) (v := 32) (by decide +kernel) (by decide) ?_
  refine zs_bipush (pc := 153) (n := 59) (v := 59) (by decide +kernel) (by decide) ?_
  refine zs_bipush (pc := 155) (n := 32) (v := 32) (by decide +kernel) (by decide) ?_
  refine zs_bipush (pc := 157) (n := 121) (v := 121) (by decide +kernel) (by decide) ?_
  refine zs_callV (pc := 159) (i := 60) (pl := 5033) (t := 11) (a := 67) (mc' := 0) (ms' := 0) (N := kX11_spell) (as := [.int 8, .int 105, .int 110, .int 115, .int 116, .int 32, .int 59, .int 32, .int 121]) (st' := []) (by decide +kernel) (by decide +kernel) rfl rfl (zob_d rfl) (Nat.le_of_ble_eq_true rfl) rfl ⟨by decide, by decide⟩ (m_spellM (d := d) (j := 1) (Q := fun v w' => v = .null ∧ zFr (fun a _ => a == 68) w1 w' ∧ ∀ i, i < 16 → w'.2.1 68 i = nI (zbtM i)) hw1 (by decide) rfl rfl rfl rfl rfl rfl rfl rfl rfl h1 (fun w' g h => ⟨rfl, g, h⟩)) (fun v w2 e => ?_)
  obtain ⟨rfl, g2, h2⟩ := e
  have hw2 := g2.1.trans hw1
  refine zs_aload_n (pc := 162) (k := 0) (i := 0) (by decide +kernel) rfl rfl ?_
  refine zs_bipush (pc := 163) (n := 16) (v := 16) (by decide +kernel) (by decide) ?_
  refine zs_bipush (pc := 165) (n := 105) (v := 105) (by decide +kernel) (by decide) ?_
  refine zs_bipush (pc := 167) (n := 101) (v := 101) (by decide +kernel) (by decide) ?_
  refine zs_bipush (pc := 169) (n := 108) (v := 108) (by decide +kernel) (by decide) ?_
  refine zs_bipush (pc := 171) (n := 100) (v := 100) (by decide +kernel) (by decide) ?_
  refine zs_bipush (pc := 173) (n := 115) (v := 115) (by decide +kernel) (by decide) ?_
  refine zs_bipush (pc := 175) (n := 32) (v := 32) (by decide +kernel) (by decide) ?_
  refine zs_bipush (pc := 177) (n := 49) (v := 49) (by decide +kernel) (by decide) ?_
  refine zs_bipush (pc := 179) (n := 32) (v := 32) (by decide +kernel) (by decide) ?_
  refine zs_callV (pc := 181) (i := 60) (pl := 5033) (t := 11) (a := 67) (mc' := 0) (ms' := 0) (N := kX11_spell) (as := [.int 16, .int 105, .int 101, .int 108, .int 100, .int 115, .int 32, .int 49, .int 32]) (st' := []) (by decide +kernel) (by decide +kernel) rfl rfl (zob_d rfl) (Nat.le_of_ble_eq_true rfl) rfl ⟨by decide, by decide⟩ (m_spellM (d := d) (j := 2) (Q := fun v w' => v = .null ∧ zFr (fun a _ => a == 68) w2 w' ∧ ∀ i, i < 24 → w'.2.1 68 i = nI (zbtM i)) hw2 (by decide) rfl rfl rfl rfl rfl rfl rfl rfl rfl h2 (fun w' g h => ⟨rfl, g, h⟩)) (fun v w3 e => ?_)
  obtain ⟨rfl, g3, h3⟩ := e
  have hw3 := g3.1.trans hw2
  refine zs_aload_n (pc := 184) (k := 0) (i := 0) (by decide +kernel) rfl rfl ?_
  refine zs_bipush (pc := 185) (n := 24) (v := 24) (by decide +kernel) (by decide) ?_
  refine zs_bipush (pc := 187) (n := 59) (v := 59) (by decide +kernel) (by decide) ?_
  refine zs_bipush (pc := 189) (n := 32) (v := 32) (by decide +kernel) (by decide) ?_
  refine zs_bipush (pc := 191) (n := 100) (v := 100) (by decide +kernel) (by decide) ?_
  refine zs_bipush (pc := 193) (n := 114) (v := 114) (by decide +kernel) (by decide) ?_
  refine zs_bipush (pc := 195) (n := 111) (v := 111) (by decide +kernel) (by decide) ?_
  refine zs_bipush (pc := 197) (n := 112) (v := 112) (by decide +kernel) (by decide) ?_
  refine zs_bipush (pc := 199) (n := 115) (v := 115) (by decide +kernel) (by decide) ?_
  refine zs_bipush (pc := 201) (n := 32) (v := 32) (by decide +kernel) (by decide) ?_
  refine zs_callV (pc := 203) (i := 60) (pl := 5033) (t := 11) (a := 67) (mc' := 0) (ms' := 0) (N := kX11_spell) (as := [.int 24, .int 59, .int 32, .int 100, .int 114, .int 111, .int 112, .int 115, .int 32]) (st' := []) (by decide +kernel) (by decide +kernel) rfl rfl (zob_d rfl) (Nat.le_of_ble_eq_true rfl) rfl ⟨by decide, by decide⟩ (m_spellM (d := d) (j := 3) (Q := fun v w' => v = .null ∧ zFr (fun a _ => a == 68) w3 w' ∧ ∀ i, i < 32 → w'.2.1 68 i = nI (zbtM i)) hw3 (by decide) rfl rfl rfl rfl rfl rfl rfl rfl rfl h3 (fun w' g h => ⟨rfl, g, h⟩)) (fun v w4 e => ?_)
  obtain ⟨rfl, g4, h4⟩ := e
  have hw4 := g4.1.trans hw3
  refine zs_aload_n (pc := 206) (k := 0) (i := 0) (by decide +kernel) rfl rfl ?_
  refine zs_bipush (pc := 207) (n := 32) (v := 32) (by decide +kernel) (by decide) ?_
  refine zs_bipush (pc := 209) (n := 48) (v := 48) (by decide +kernel) (by decide) ?_
  refine zs_bipush (pc := 211) (n := 32) (v := 32) (by decide +kernel) (by decide) ?_
  refine zs_bipush (pc := 213) (n := 59) (v := 59) (by decide +kernel) (by decide) ?_
  refine zs_bipush (pc := 215) (n := 32) (v := 32) (by decide +kernel) (by decide) ?_
  refine zs_bipush (pc := 217) (n := 32) (v := 32) (by decide +kernel) (by decide) ?_
  refine zs_bipush (pc := 219) (n := 32) (v := 32) (by decide +kernel) (by decide) ?_
  refine zs_bipush (pc := 221) (n := 32) (v := 32) (by decide +kernel) (by decide) ?_
  refine zs_bipush (pc := 223) (n := 32) (v := 32) (by decide +kernel) (by decide) ?_
  refine zs_callV (pc := 225) (i := 60) (pl := 5033) (t := 11) (a := 67) (mc' := 0) (ms' := 0) (N := kX11_spell) (as := [.int 32, .int 48, .int 32, .int 59, .int 32, .int 32, .int 32, .int 32, .int 32]) (st' := []) (by decide +kernel) (by decide +kernel) rfl rfl (zob_d rfl) (Nat.le_of_ble_eq_true rfl) rfl ⟨by decide, by decide⟩ (m_spellM (d := d) (j := 4) (Q := fun v w' => v = .null ∧ zFr (fun a _ => a == 68) w4 w' ∧ ∀ i, i < 40 → w'.2.1 68 i = nI (zbtM i)) hw4 (by decide) rfl rfl rfl rfl rfl rfl rfl rfl rfl h4 (fun w' g h => ⟨rfl, g, h⟩)) (fun v w5 e => ?_)
  obtain ⟨rfl, g5, h5⟩ := e
  have hw5 := g5.1.trans hw4
  have gi : ∀ a k, a ≠ 68 → w5.2.1 a k = w0.2.1 a k := fun a k ha => by
    have hb : (a == 68) = false := beq_eq_false_iff_ne.mpr ha
    rw [g5.i a k hb, g4.i a k hb, g3.i a k hb, g2.i a k hb, g1.i a k hb]
  refine zs_aload_n (pc := 228) (k := 0) (i := 0) (by decide +kernel) rfl rfl ?_
  refine zs_get (pc := 229) (i := 17) (c := 11) (k := 2) (pl := 5038) (a := 67) (v := .ref 69) (by decide +kernel) (by decide) (by decide +kernel) (zob_d rfl) (by unfold zf; rw [hw5]; rfl) ?_
  refine zs_iconst (pc := 232) (n := 0) (v := 0) (by decide +kernel) (by decide) ?_
  refine zs_bipush (pc := 233) (n := 40) (v := 40) (by decide +kernel) (by decide) ?_
  refine zs_iast (pc := 235) (a := 69) (i := 0) (x := 40) (by decide) (by decide +kernel) (zar_d rfl) (vp_in_nI (n := 0) (by decide +kernel) (by decide +kernel)) ?_
  rw [show Int32.toNatClampNeg 0 = 0 from rfl]
  refine zs_aload_n (pc := 236) (k := 0) (i := 0) (by decide +kernel) rfl rfl ?_
  refine zs_iconst (pc := 237) (n := 1) (v := 1) (by decide +kernel) (by decide) ?_
  refine zz_putI2 (pc := 238) (i := 64) (c := 11) (k := 3) (pl := 5039) (a := 67) (x := 1) (by decide +kernel) (by decide) (by decide +kernel) rfl rfl (zob_d rfl) ?_
  refine zs_vret (pc := 241) (by decide +kernel) ⟨rfl, by decide⟩ rfl ?_
  have gj : ∀ a k, a ≠ 68 → ¬ (a = 69 ∧ k = 0) → ¬ (a = 67 ∧ k = 3) → ¬ (a = 67 ∧ k = 39) → (si (si w5 69 0 40) 67 3 1).2.1 a k = w.2.1 a k := fun a k h1 h2 h3 h4 => by
    rw [si_other h3, si_other h2, gi a k h1, hi a k h4]
  have g0 : ∀ a k, 67 ≤ a → a ≠ 68 → ¬ (a = 69 ∧ k = 0) → ¬ (a = 67 ∧ k = 3) → ¬ (a = 67 ∧ k = 39) → (si (si w5 69 0 40) 67 3 1).2.1 a k = 0 := fun a k h0 h1 h2 h3 h4 => (gj a k h1 h2 h3 h4).trans (hz a h0 k).1
  refine hq _ hw5 (fun a ha k => gj a k (by omega) (by omega) (by omega) (by omega)) ⟨fun i hi => ⟨Nat.zero_lt_succ _, g0 71 i (by decide) (by decide) (by omega) (by omega) (by omega)⟩, ⟨Nat.zero_le _, fun j hj => absurd hj (Nat.not_lt_zero _)⟩, ⟨?_, ?_, si_same, ?_⟩, ⟨by decide, fun t ht => ?_⟩, ⟨?_, fun i hi => absurd hi (Nat.not_lt_zero _)⟩, fun s hs => ⟨?_, fun q => absurd rfl q⟩, ⟨?_, fun h => absurd h (by decide)⟩⟩
  · exact g0 67 7 (by decide) (by decide) (by omega) (by omega) (by omega)
  · exact g0 67 11 (by decide) (by decide) (by omega) (by omega) (by omega)
  · exact g0 67 4 (by decide) (by decide) (by omega) (by omega) (by omega)
  · have ht : t < 1 := ht
    have : t = 0 := by omega
    subst this
    refine zMT_of (B := zbtM) (n := 40) zrd_M (fun i hi => ⟨?_, zbtM_lt i hi⟩) ?_ (by decide) (by decide)
    · rw [si_other (by omega), si_other (by omega)]
      have := h5 i hi
      rw [show 160 * 0 + i = i by omega]
      exact this
    · rw [si_other (by omega), si_same]
      rfl
  · exact g0 67 6 (by decide) (by decide) (by omega) (by omega) (by omega)
  · exact g0 78 s (by decide) (by decide) (by omega) (by omega) (by omega)
  · rw [si_other (by omega), si_other (by omega), gi 67 39 (by decide), hi2]
    rfl
end MIO
