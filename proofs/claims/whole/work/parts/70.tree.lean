/-! Mornings of up to three: the class' rows. -/
/-- behind the morning of n whose arguments are c's digits: what she holds, her eggs, what she has laid -/
def tM (σ : mS) (j : Nat) : Nat → Nat → Nat × Nat × Nat
  | 0, _ => (σ.1 3 j, σ.1 4 j, 0)
  | n + 1, c => (zheld (σ.1 0) (zyld (zEV σ) (σ.1 0) (σ.1 1 j) (σ.1 2 j) (tM σ j n (c / 10)).1 (tM σ j n (c / 10)).2.1 (c % 10) (σ.1 5 0)) (tM σ j n (c / 10)).1 (c % 10), min 999 ((tM σ j n (c / 10)).2.1 + zlay (zEV σ) (σ.1 0) (σ.1 1 j) (σ.1 2 j) (tM σ j n (c / 10)).1 (tM σ j n (c / 10)).2.1 (c % 10) (σ.1 5 0)), (tM σ j n (c / 10)).2.2 + zlay (zEV σ) (σ.1 0) (σ.1 1 j) (σ.1 2 j) (tM σ j n (c / 10)).1 (tM σ j n (c / 10)).2.1 (c % 10) (σ.1 5 0))
/-- its number -/
def znum : Nat → Nat → Nat
  | 0, _ => 0
  | n + 1, c => 11 * znum n (c / 10) + c % 10 + 1
def fTri (σ : mS) (j n : Nat) : Nat → Option Nat := fun c => some (tM σ j n c).2.2
def zrow (n : Nat) (r : Option (Nat × Nat)) : Int32 := match r with
  | none => -1
  | some (b, _) => nI (znum n b)
def zsmr (r : Option (Nat × Nat)) : Int32 := match r with
  | none => 0
  | some (_, m) => nI m
def f_three (σ : mS) (x y z : Int32) : Int32 := if zu x (σ.1 5 1) = true ∧ zu y 4 = true ∧ zu z 2 = true then (if z = 0 then zrow y.toNatClampNeg (zae (fTri σ x.toNatClampNeg y.toNatClampNeg) (10 ^ y.toNatClampNeg)) else zsmr (zae (fTri σ x.toNatClampNeg y.toNatClampNeg) (10 ^ y.toNatClampNeg))) else -2
def zhas (σ : mS) (j p n : Nat) : Bool := !(zall (fun c => !((tM σ j n c).1.testBit p)) (10 ^ n))
def f_win (σ : mS) (x y : Int32) : Int32 := if zu x (σ.1 5 1) = true ∧ zu y 10 = true then (if zhas σ x.toNatClampNeg y.toNatClampNeg 0 = true then 0 else if zhas σ x.toNatClampNeg y.toNatClampNeg 1 = true then 1 else if zhas σ x.toNatClampNeg y.toNatClampNeg 2 = true then 2 else if zhas σ x.toNatClampNeg y.toNatClampNeg 3 = true then 3 else -1) else -2
theorem tM_le (σ : mS) (j : Nat) : ∀ n c, (tM σ j n c).2.2 ≤ 99 * n := by
  intro n
  induction n with
  | zero => intro c; exact Nat.le_refl _
  | succ n ih =>
    intro c
    have := ih (c / 10)
    have h2 := zlay_le (zEV σ) (σ.1 0) (σ.1 1 j) (σ.1 2 j) (tM σ j n (c / 10)).1 (tM σ j n (c / 10)).2.1 (c % 10) (σ.1 5 0)
    show (tM σ j n (c / 10)).2.2 + _ ≤ _
    omega
theorem tM_b {σ : mS} {j : Nat} (hH : σ.1 3 j < 1024) (hE : σ.1 4 j ≤ 999) : ∀ n c, (tM σ j n c).1 < 1024 ∧ (tM σ j n c).2.1 ≤ 999 := by
  intro n
  induction n with
  | zero => intro c; exact ⟨hH, hE⟩
  | succ n ih =>
    intro c
    refine ⟨?_, Nat.min_le_left _ _⟩
    show zheld _ _ _ _ < 1024
    unfold zheld
    split
    · exact zdiff_lt _ _
    · exact (ih _).1
theorem zfs_10 : ∀ l, l ≤ 3 → zfs l + 10 ^ l = zfs (l + 1) := by decide
theorem zfs_mono : ∀ {a b : Nat}, a ≤ b → zfs a ≤ zfs b := by
  intro a b
  induction b with
  | zero => intro h; rw [Nat.le_zero.mp h]; exact Nat.le_refl _
  | succ b ih =>
    intro h
    by_cases e : a = b + 1
    · rw [e]; exact Nat.le_refl _
    · have := ih (by omega)
      show zfs a ≤ 10 * zfs b + 1
      omega
def zfil (σ : mS) (j : Nat) (w : mW) (l c : Nat) : Prop := w.2.1 22 (zfs l + c) = nI (tM σ j l c).1 ∧ w.2.1 23 (zfs l + c) = nI (tM σ j l c).2.1 ∧ w.2.1 24 (zfs l + c) = nI (tM σ j l c).2.2
def fMn (a _k : Nat) : Bool := decide (a = 5 ∨ a = 6 ∨ (21 ≤ a ∧ a ≤ 24))
section TREE
variable {Γ : mG} {d : Nat} {w w' : mW} {Q : Value → mW → Prop} {σ : mS} {x y z : Int32} {n m j p k l c : Nat}
theorem zFr.MnS (g : zFr fMn w w') : zFr fcS w w' := g.mono (fun a k q => decide_eq_true (by have := of_decide_eq_true q; omega))
theorem zFr.MnC (g : zFr fMn w w') : zFr fC w w' := g.mono (fun a k q => decide_eq_true (by have := of_decide_eq_true q; omega))
theorem c_begin (hw : w.1 = zr0) (hC : CI σ w) (hj : j < σ.1 5 1) (hq : ∀ w' H E, zFr fMn w w' → zHn w' 21 (σ.1 1 j) (σ.1 2 j) H E → zfil σ j w' 0 0 → Q .null w') : Call Γ (d + 2) 0 0 kX3_begin [.ref 20, .ref (36 + j)] 82 w Q := by
  have hn5 := hC.2.1.1
  have ho := (zS_hen j (by omega)).2.1
  have hh := hC.2.1.2 j hj
  have o21 : zOb 82 21 0 := zob_d rfl
  (refine Call.run (cs := tkX3_begin) 2 none mkX3_begin ⟨by decide +kernel, rfl⟩ (Nat.le_of_ble_eq_true rfl) okX3_begin rfl rfl ?_; simp only [zkX3_begin, tkX3_begin_0, ↓reduceIte, Nat.reduceEqDiff, reduceCtorEq, z1, z2, zpad, zent, Value.category, List.length_cons, List.length_nil, List.cons_append, List.nil_append, List.getElem?_cons_zero, List.getElem?_cons_succ, List.replicate, Nat.reduceAdd, Nat.reduceSub, List.set_cons_zero, List.set_cons_succ, ↓zbl_c, ↓zq_iconst, ↓zq_bipush, ↓zq_sipush, ↓zq_lconst, ↓zq_ldc, ↓zq_ldcS, ↓zq_ldcw, ↓zq_ldc2, ↓zq_null, ↓zq_iload, ↓zq_iload_n, ↓zq_lload, ↓zq_lload_n, ↓zq_aload, ↓zq_aload_n, ↓zq_iinc, ↓zq_istore, ↓zq_istore_n, ↓zq_astorer, ↓zq_astore_nr, ↓zq_astore0, ↓zq_astore_n0, ↓zq_lstore, ↓zq_lstore_n, ↓zq_iadd, ↓zq_isub, ↓zq_imul, ↓zq_iand, ↓zq_ior, ↓zq_ixor, ↓zq_ishl, ↓zq_ishr, ↓zq_iushr, ↓zq_idiv, ↓zq_irem, ↓zq_ineg, ↓zq_i2b, ↓zq_i2s, ↓zq_i2c, ↓zq_i2l, ↓zq_l2i, ↓zq_ladd, ↓zq_lsub, ↓zq_lmul, ↓zq_ldiv, ↓zq_lrem, ↓zq_lcmp, ↓zq_dupi, ↓zq_dupr, ↓zq_dup2, ↓zq_popi, ↓zq_popr, ↓zq_goto, ↓zq_if_eq, ↓zq_if_ne, ↓zq_if_lt, ↓zq_if_ge, ↓zq_if_gt, ↓zq_if_le, ↓zq_icmp_eq, ↓zq_icmp_ne, ↓zq_icmp_lt, ↓zq_icmp_ge, ↓zq_icmp_gt, ↓zq_icmp_le, ↓zq_ifnullr, ↓zq_ifnull0, ↓zq_ifnonnullr, ↓zq_ifnonnull0, ↓zq_table, ↓zq_get0, ↓zq_get3, ↓zq_get1, ↓zq_get2, ↓zq_put0, ↓zq_put3, ↓zq_put1, ↓zq_putS, ↓zq_iald0, ↓zq_iald1, ↓zq_iald2, ↓zq_iast, ↓zq_bald, ↓zq_bast, ↓zq_aald, ↓zq_alen5, ↓zq_alen0, ↓zq_alen1, ↓zq_alen2, ↓zq_alen3, ↓zq_alen4, ↓zq_ivS, ↓zq_iv0_0, ↓zq_iv0_1, ↓zq_iv1_0, ↓zq_iv1_1, ↓zq_iv2_0, ↓zq_iv2_1, ↓zq_iv3_0, ↓zq_iv3_1, ↓zq_iv4_0, ↓zq_iv4_1, ↓zq_iv5_0, ↓zq_iv5_1, ↓zq_iv6_0, ↓zq_iv6_1, ↓zq_is0_0_0, ↓zq_is0_1_0, ↓zq_is0_0_8, ↓zq_is0_1_8, ↓zq_is1_0_0, ↓zq_is1_1_0, ↓zq_is1_0_8, ↓zq_is1_1_8, ↓zq_is2_0_0, ↓zq_is2_1_0, ↓zq_is2_0_8, ↓zq_is2_1_8, ↓zq_is3_0_0, ↓zq_is3_1_0, ↓zq_is3_0_8, ↓zq_is3_1_8, ↓zq_is4_0_0, ↓zq_is4_1_0, ↓zq_is4_0_8, ↓zq_is4_1_8, ↓zq_copy, ↓zq_mmin, ↓zq_mmax, ↓zq_iret, ↓zq_lret, ↓zq_aretr, ↓zq_aret0, ↓zq_vret, ↓zI_0, ↓zJ_0, ↓zQr_0, ↓zQ0_0, ↓zI_1, ↓zJ_1, ↓zQr_1, ↓zQ0_1, ↓zI_2, ↓zJ_2, ↓zQr_2, ↓zQ0_2, ↓zI_3, ↓zJ_3, ↓zQr_3, ↓zQ0_3, ↓zI_4, ↓zJ_4, ↓zQr_4, ↓zQ0_4, ↓zI_5, ↓zJ_5, ↓zQr_5, ↓zQ0_5, ↓zI_6, ↓zJ_6, ↓zQr_6, ↓zQ0_6, ↓zI_7, ↓zJ_7, ↓zQr_7, ↓zQ0_7, ↓zI_8, ↓zJ_8, ↓zQr_8, ↓zQ0_8, ↓zI_9, ↓zJ_9, ↓zQr_9, ↓zQ0_9, ↓zI_10, ↓zJ_10, ↓zQr_10, ↓zQ0_10, ↓zI_11, ↓zJ_11, ↓zQr_11, ↓zQ0_11, ↓zI_12, ↓zJ_12, ↓zQr_12, ↓zQ0_12, ↓zNar_i, ↓zNar_z, ↓zRfT_o, ↓zrv_s, ↓zrv_n, ↓zq_nop, zcut, zsw, Int.reduceAdd, true_and, and_true, eq_self, true_or, or_true, Nat.reduceLeDiff, Nat.zero_le, zS_ob, zS_ar, zS_len, zS_ref, si_1, sj_1, sa_1, hw])
  refine c_henBecome o21 ho (by omega) hh (fun w1 g1 hh1 => ?_)
  have hw1 := g1.1.trans hw
  have G1 : zFr fMn w w1 := g1.F.mono (fun a k q => decide_eq_true (by have := of_decide_eq_true q; omega))
  have h2 := hh.fr (w' := w1) (fun k => g1.F.i _ k (decide_eq_false (by omega)))
  have e2 : ∀ v : Int32, (si w1 22 0 v).2.1 (36 + j) 3 = w1.2.1 (36 + j) 3 := fun v => si_ne (by omega)
  (try simp only [zkX3_begin, tkX3_begin_0, ↓reduceIte, Nat.reduceEqDiff, reduceCtorEq, z1, z2, zpad, zent, Value.category, List.length_cons, List.length_nil, List.cons_append, List.nil_append, List.getElem?_cons_zero, List.getElem?_cons_succ, List.replicate, Nat.reduceAdd, Nat.reduceSub, List.set_cons_zero, List.set_cons_succ, ↓zbl_c, ↓zq_iconst, ↓zq_bipush, ↓zq_sipush, ↓zq_lconst, ↓zq_ldc, ↓zq_ldcS, ↓zq_ldcw, ↓zq_ldc2, ↓zq_null, ↓zq_iload, ↓zq_iload_n, ↓zq_lload, ↓zq_lload_n, ↓zq_aload, ↓zq_aload_n, ↓zq_iinc, ↓zq_istore, ↓zq_istore_n, ↓zq_astorer, ↓zq_astore_nr, ↓zq_astore0, ↓zq_astore_n0, ↓zq_lstore, ↓zq_lstore_n, ↓zq_iadd, ↓zq_isub, ↓zq_imul, ↓zq_iand, ↓zq_ior, ↓zq_ixor, ↓zq_ishl, ↓zq_ishr, ↓zq_iushr, ↓zq_idiv, ↓zq_irem, ↓zq_ineg, ↓zq_i2b, ↓zq_i2s, ↓zq_i2c, ↓zq_i2l, ↓zq_l2i, ↓zq_ladd, ↓zq_lsub, ↓zq_lmul, ↓zq_ldiv, ↓zq_lrem, ↓zq_lcmp, ↓zq_dupi, ↓zq_dupr, ↓zq_dup2, ↓zq_popi, ↓zq_popr, ↓zq_goto, ↓zq_if_eq, ↓zq_if_ne, ↓zq_if_lt, ↓zq_if_ge, ↓zq_if_gt, ↓zq_if_le, ↓zq_icmp_eq, ↓zq_icmp_ne, ↓zq_icmp_lt, ↓zq_icmp_ge, ↓zq_icmp_gt, ↓zq_icmp_le, ↓zq_ifnullr, ↓zq_ifnull0, ↓zq_ifnonnullr, ↓zq_ifnonnull0, ↓zq_table, ↓zq_get0, ↓zq_get3, ↓zq_get1, ↓zq_get2, ↓zq_put0, ↓zq_put3, ↓zq_put1, ↓zq_putS, ↓zq_iald0, ↓zq_iald1, ↓zq_iald2, ↓zq_iast, ↓zq_bald, ↓zq_bast, ↓zq_aald, ↓zq_alen5, ↓zq_alen0, ↓zq_alen1, ↓zq_alen2, ↓zq_alen3, ↓zq_alen4, ↓zq_ivS, ↓zq_iv0_0, ↓zq_iv0_1, ↓zq_iv1_0, ↓zq_iv1_1, ↓zq_iv2_0, ↓zq_iv2_1, ↓zq_iv3_0, ↓zq_iv3_1, ↓zq_iv4_0, ↓zq_iv4_1, ↓zq_iv5_0, ↓zq_iv5_1, ↓zq_iv6_0, ↓zq_iv6_1, ↓zq_is0_0_0, ↓zq_is0_1_0, ↓zq_is0_0_8, ↓zq_is0_1_8, ↓zq_is1_0_0, ↓zq_is1_1_0, ↓zq_is1_0_8, ↓zq_is1_1_8, ↓zq_is2_0_0, ↓zq_is2_1_0, ↓zq_is2_0_8, ↓zq_is2_1_8, ↓zq_is3_0_0, ↓zq_is3_1_0, ↓zq_is3_0_8, ↓zq_is3_1_8, ↓zq_is4_0_0, ↓zq_is4_1_0, ↓zq_is4_0_8, ↓zq_is4_1_8, ↓zq_copy, ↓zq_mmin, ↓zq_mmax, ↓zq_iret, ↓zq_lret, ↓zq_aretr, ↓zq_aret0, ↓zq_vret, ↓zI_0, ↓zJ_0, ↓zQr_0, ↓zQ0_0, ↓zI_1, ↓zJ_1, ↓zQr_1, ↓zQ0_1, ↓zI_2, ↓zJ_2, ↓zQr_2, ↓zQ0_2, ↓zI_3, ↓zJ_3, ↓zQr_3, ↓zQ0_3, ↓zI_4, ↓zJ_4, ↓zQr_4, ↓zQ0_4, ↓zI_5, ↓zJ_5, ↓zQr_5, ↓zQ0_5, ↓zI_6, ↓zJ_6, ↓zQr_6, ↓zQ0_6, ↓zI_7, ↓zJ_7, ↓zQr_7, ↓zQ0_7, ↓zI_8, ↓zJ_8, ↓zQr_8, ↓zQ0_8, ↓zI_9, ↓zJ_9, ↓zQr_9, ↓zQ0_9, ↓zI_10, ↓zJ_10, ↓zQr_10, ↓zQ0_10, ↓zI_11, ↓zJ_11, ↓zQr_11, ↓zQ0_11, ↓zI_12, ↓zJ_12, ↓zQr_12, ↓zQ0_12, ↓zNar_i, ↓zNar_z, ↓zRfT_o, ↓zrv_s, ↓zrv_n, ↓zq_nop, zcut, zsw, Int.reduceAdd, true_and, and_true, eq_self, true_or, or_true, Nat.reduceLeDiff, Nat.zero_le, zS_ob, zS_ar, zS_len, zS_ref, si_1, sj_1, sa_1, hw1, ho, zct])
  rw [h2.1.2.2.1, e2, h2.1.2.2.2]
  refine ⟨vp_in_nI (show 0 < 1111 by decide) (by decide), vp_in_nI (show 0 < 1111 by decide) (by decide), vp_in_nI (show 0 < 1111 by decide) (by decide), ?_⟩
  refine hq _ (σ.1 3 j) (σ.1 4 j) (((G1.si rfl).si rfl).si rfl) (hh1.fr (fun k => by rw [si_ne (by decide), si_ne (by decide), si_ne (by decide)])) ⟨?_, ?_, ?_⟩
  · show (si _ 24 0 _).2.1 22 0 = _
    rw [si_ne (by decide), si_ne (by decide)]; exact si_same
  · show (si _ 24 0 _).2.1 23 0 = _
    rw [si_ne (by decide)]; exact si_same
  · exact si_same
theorem c_tryAll (hw : w.1 = zr0) (hC : CI σ w) (hF : zWF σ) (hj : j < σ.1 5 1) (hl : l ≤ 3) (hh : ∃ H E, zHn w 21 (σ.1 1 j) (σ.1 2 j) H E) (hfil : 1 ≤ l → ∀ c, c < 10 ^ (l - 1) → zfil σ j w (l - 1) c) (h0 : zfil σ j w 0 0)
    (hq : ∀ w', zFr fMn w w' → (∃ H E, zHn w' 21 (σ.1 1 j) (σ.1 2 j) H E) → (∀ c, c < 10 ^ l → zfil σ j w' l c) → zfil σ j w' 0 0 → Q .null w') : Call Γ (d + 6) 0 0 kX3_tryAll [.ref 20, .int (nI l), .int (nI (σ.1 5 0)), .ref (41 + 3 * σ.1 5 2)] 82 w Q := by
  have o21 : zOb 82 21 0 := zob_d rfl
  have hz4 := zfs_le (l + 1) (by omega)
  have hzl := zfs_10 l hl
  have emax : (if (1 : Int32) < nI (zfs l) then nI (zfs l) else 1) = nI (if l = 0 then 1 else zfs l) := by
    rcases (show l = 0 ∨ l = 1 ∨ l = 2 ∨ l = 3 by omega) with rfl | rfl | rfl | rfl <;> decide
  have loop : ∀ c, c ≤ 10 ^ l → (l = 0 → c = 1) → ∀ w', zFr fMn w w' → (∃ H E, zHn w' 21 (σ.1 1 j) (σ.1 2 j) H E) → (1 ≤ l → ∀ c, c < 10 ^ (l - 1) → zfil σ j w' (l - 1) c) → (∀ c', c' < c → zfil σ j w' l c') → zfil σ j w' 0 0 → ∀ a, V Γ kX3_tryAll (zF Γ kX3_tryAll 82 0 0 Q) (d + 6) 82 0 0 18 [.ref 20, .int (nI l), .int (nI (σ.1 5 0)), .ref (41 + 3 * σ.1 5 2), .int (nI (zfs (l + 1))), .int (nI (zfs l + c)), a] [] w' 0 0 := by
    refine zloop ?_ ?_
    · intro _ w' g hh' hf hf2 hf0 a
      have hw' := g.1.trans hw
      (refine V.run (cs := tkX3_tryAll) none okX3_tryAll rfl ?_; simp only [zkX3_tryAll, tkX3_tryAll_0, tkX3_tryAll_18, tkX3_tryAll_139, ↓reduceIte, Nat.reduceEqDiff, reduceCtorEq, z1, z2, zpad, zent, Value.category, List.length_cons, List.length_nil, List.cons_append, List.nil_append, List.getElem?_cons_zero, List.getElem?_cons_succ, List.replicate, Nat.reduceAdd, Nat.reduceSub, List.set_cons_zero, List.set_cons_succ, ↓zbl_c, ↓zq_iconst, ↓zq_bipush, ↓zq_sipush, ↓zq_lconst, ↓zq_ldc, ↓zq_ldcS, ↓zq_ldcw, ↓zq_ldc2, ↓zq_null, ↓zq_iload, ↓zq_iload_n, ↓zq_lload, ↓zq_lload_n, ↓zq_aload, ↓zq_aload_n, ↓zq_iinc, ↓zq_istore, ↓zq_istore_n, ↓zq_astorer, ↓zq_astore_nr, ↓zq_astore0, ↓zq_astore_n0, ↓zq_lstore, ↓zq_lstore_n, ↓zq_iadd, ↓zq_isub, ↓zq_imul, ↓zq_iand, ↓zq_ior, ↓zq_ixor, ↓zq_ishl, ↓zq_ishr, ↓zq_iushr, ↓zq_idiv, ↓zq_irem, ↓zq_ineg, ↓zq_i2b, ↓zq_i2s, ↓zq_i2c, ↓zq_i2l, ↓zq_l2i, ↓zq_ladd, ↓zq_lsub, ↓zq_lmul, ↓zq_ldiv, ↓zq_lrem, ↓zq_lcmp, ↓zq_dupi, ↓zq_dupr, ↓zq_dup2, ↓zq_popi, ↓zq_popr, ↓zq_goto, ↓zq_if_eq, ↓zq_if_ne, ↓zq_if_lt, ↓zq_if_ge, ↓zq_if_gt, ↓zq_if_le, ↓zq_icmp_eq, ↓zq_icmp_ne, ↓zq_icmp_lt, ↓zq_icmp_ge, ↓zq_icmp_gt, ↓zq_icmp_le, ↓zq_ifnullr, ↓zq_ifnull0, ↓zq_ifnonnullr, ↓zq_ifnonnull0, ↓zq_table, ↓zq_get0, ↓zq_get3, ↓zq_get1, ↓zq_get2, ↓zq_put0, ↓zq_put3, ↓zq_put1, ↓zq_putS, ↓zq_iald0, ↓zq_iald1, ↓zq_iald2, ↓zq_iast, ↓zq_bald, ↓zq_bast, ↓zq_aald, ↓zq_alen5, ↓zq_alen0, ↓zq_alen1, ↓zq_alen2, ↓zq_alen3, ↓zq_alen4, ↓zq_ivS, ↓zq_iv0_0, ↓zq_iv0_1, ↓zq_iv1_0, ↓zq_iv1_1, ↓zq_iv2_0, ↓zq_iv2_1, ↓zq_iv3_0, ↓zq_iv3_1, ↓zq_iv4_0, ↓zq_iv4_1, ↓zq_iv5_0, ↓zq_iv5_1, ↓zq_iv6_0, ↓zq_iv6_1, ↓zq_is0_0_0, ↓zq_is0_1_0, ↓zq_is0_0_8, ↓zq_is0_1_8, ↓zq_is1_0_0, ↓zq_is1_1_0, ↓zq_is1_0_8, ↓zq_is1_1_8, ↓zq_is2_0_0, ↓zq_is2_1_0, ↓zq_is2_0_8, ↓zq_is2_1_8, ↓zq_is3_0_0, ↓zq_is3_1_0, ↓zq_is3_0_8, ↓zq_is3_1_8, ↓zq_is4_0_0, ↓zq_is4_1_0, ↓zq_is4_0_8, ↓zq_is4_1_8, ↓zq_copy, ↓zq_mmin, ↓zq_mmax, ↓zq_iret, ↓zq_lret, ↓zq_aretr, ↓zq_aret0, ↓zq_vret, ↓zI_0, ↓zJ_0, ↓zQr_0, ↓zQ0_0, ↓zI_1, ↓zJ_1, ↓zQr_1, ↓zQ0_1, ↓zI_2, ↓zJ_2, ↓zQr_2, ↓zQ0_2, ↓zI_3, ↓zJ_3, ↓zQr_3, ↓zQ0_3, ↓zI_4, ↓zJ_4, ↓zQr_4, ↓zQ0_4, ↓zI_5, ↓zJ_5, ↓zQr_5, ↓zQ0_5, ↓zI_6, ↓zJ_6, ↓zQr_6, ↓zQ0_6, ↓zI_7, ↓zJ_7, ↓zQr_7, ↓zQ0_7, ↓zI_8, ↓zJ_8, ↓zQr_8, ↓zQ0_8, ↓zI_9, ↓zJ_9, ↓zQr_9, ↓zQ0_9, ↓zI_10, ↓zJ_10, ↓zQr_10, ↓zQ0_10, ↓zI_11, ↓zJ_11, ↓zQr_11, ↓zQ0_11, ↓zI_12, ↓zJ_12, ↓zQr_12, ↓zQ0_12, ↓zNar_i, ↓zNar_z, ↓zRfT_o, ↓zrv_s, ↓zrv_n, ↓zq_nop, zcut, zsw, Int.reduceAdd, true_and, and_true, eq_self, true_or, or_true, Nat.reduceLeDiff, Nat.zero_le, zS_ob, zS_ar, zS_len, zS_ref, si_1, sj_1, sa_1, hw'])
      rw [nI_leI (by omega) (by omega)]
      refine ⟨fun _ => ?_, fun q => absurd (Nat.le_of_eq hzl.symm) q⟩
      (refine V.run (cs := tkX3_tryAll) none okX3_tryAll rfl ?_; simp only [zkX3_tryAll, tkX3_tryAll_0, tkX3_tryAll_18, tkX3_tryAll_139, ↓reduceIte, Nat.reduceEqDiff, reduceCtorEq, z1, z2, zpad, zent, Value.category, List.length_cons, List.length_nil, List.cons_append, List.nil_append, List.getElem?_cons_zero, List.getElem?_cons_succ, List.replicate, Nat.reduceAdd, Nat.reduceSub, List.set_cons_zero, List.set_cons_succ, ↓zbl_c, ↓zq_iconst, ↓zq_bipush, ↓zq_sipush, ↓zq_lconst, ↓zq_ldc, ↓zq_ldcS, ↓zq_ldcw, ↓zq_ldc2, ↓zq_null, ↓zq_iload, ↓zq_iload_n, ↓zq_lload, ↓zq_lload_n, ↓zq_aload, ↓zq_aload_n, ↓zq_iinc, ↓zq_istore, ↓zq_istore_n, ↓zq_astorer, ↓zq_astore_nr, ↓zq_astore0, ↓zq_astore_n0, ↓zq_lstore, ↓zq_lstore_n, ↓zq_iadd, ↓zq_isub, ↓zq_imul, ↓zq_iand, ↓zq_ior, ↓zq_ixor, ↓zq_ishl, ↓zq_ishr, ↓zq_iushr, ↓zq_idiv, ↓zq_irem, ↓zq_ineg, ↓zq_i2b, ↓zq_i2s, ↓zq_i2c, ↓zq_i2l, ↓zq_l2i, ↓zq_ladd, ↓zq_lsub, ↓zq_lmul, ↓zq_ldiv, ↓zq_lrem, ↓zq_lcmp, ↓zq_dupi, ↓zq_dupr, ↓zq_dup2, ↓zq_popi, ↓zq_popr, ↓zq_goto, ↓zq_if_eq, ↓zq_if_ne, ↓zq_if_lt, ↓zq_if_ge, ↓zq_if_gt, ↓zq_if_le, ↓zq_icmp_eq, ↓zq_icmp_ne, ↓zq_icmp_lt, ↓zq_icmp_ge, ↓zq_icmp_gt, ↓zq_icmp_le, ↓zq_ifnullr, ↓zq_ifnull0, ↓zq_ifnonnullr, ↓zq_ifnonnull0, ↓zq_table, ↓zq_get0, ↓zq_get3, ↓zq_get1, ↓zq_get2, ↓zq_put0, ↓zq_put3, ↓zq_put1, ↓zq_putS, ↓zq_iald0, ↓zq_iald1, ↓zq_iald2, ↓zq_iast, ↓zq_bald, ↓zq_bast, ↓zq_aald, ↓zq_alen5, ↓zq_alen0, ↓zq_alen1, ↓zq_alen2, ↓zq_alen3, ↓zq_alen4, ↓zq_ivS, ↓zq_iv0_0, ↓zq_iv0_1, ↓zq_iv1_0, ↓zq_iv1_1, ↓zq_iv2_0, ↓zq_iv2_1, ↓zq_iv3_0, ↓zq_iv3_1, ↓zq_iv4_0, ↓zq_iv4_1, ↓zq_iv5_0, ↓zq_iv5_1, ↓zq_iv6_0, ↓zq_iv6_1, ↓zq_is0_0_0, ↓zq_is0_1_0, ↓zq_is0_0_8, ↓zq_is0_1_8, ↓zq_is1_0_0, ↓zq_is1_1_0, ↓zq_is1_0_8, ↓zq_is1_1_8, ↓zq_is2_0_0, ↓zq_is2_1_0, ↓zq_is2_0_8, ↓zq_is2_1_8, ↓zq_is3_0_0, ↓zq_is3_1_0, ↓zq_is3_0_8, ↓zq_is3_1_8, ↓zq_is4_0_0, ↓zq_is4_1_0, ↓zq_is4_0_8, ↓zq_is4_1_8, ↓zq_copy, ↓zq_mmin, ↓zq_mmax, ↓zq_iret, ↓zq_lret, ↓zq_aretr, ↓zq_aret0, ↓zq_vret, ↓zI_0, ↓zJ_0, ↓zQr_0, ↓zQ0_0, ↓zI_1, ↓zJ_1, ↓zQr_1, ↓zQ0_1, ↓zI_2, ↓zJ_2, ↓zQr_2, ↓zQ0_2, ↓zI_3, ↓zJ_3, ↓zQr_3, ↓zQ0_3, ↓zI_4, ↓zJ_4, ↓zQr_4, ↓zQ0_4, ↓zI_5, ↓zJ_5, ↓zQr_5, ↓zQ0_5, ↓zI_6, ↓zJ_6, ↓zQr_6, ↓zQ0_6, ↓zI_7, ↓zJ_7, ↓zQr_7, ↓zQ0_7, ↓zI_8, ↓zJ_8, ↓zQr_8, ↓zQ0_8, ↓zI_9, ↓zJ_9, ↓zQr_9, ↓zQ0_9, ↓zI_10, ↓zJ_10, ↓zQr_10, ↓zQ0_10, ↓zI_11, ↓zJ_11, ↓zQr_11, ↓zQ0_11, ↓zI_12, ↓zJ_12, ↓zQr_12, ↓zQ0_12, ↓zNar_i, ↓zNar_z, ↓zRfT_o, ↓zrv_s, ↓zrv_n, ↓zq_nop, zcut, zsw, Int.reduceAdd, true_and, and_true, eq_self, true_or, or_true, Nat.reduceLeDiff, Nat.zero_le, zS_ob, zS_ar, zS_len, zS_ref, si_1, sj_1, sa_1, hw'])
      exact hq w' g hh' hf2 hf0
    · intro c hc ih hl0 w' g hh' hf hf2 hf0 a
      have hw' := g.1.trans hw
      have hC' := hC.fr g.MnS
      have l1 : 1 ≤ l := by
        apply Nat.pos_of_ne_zero
        intro e
        have := hl0 e
        subst e
        simp at hc
        omega
      obtain ⟨l', rfl⟩ : ∃ l', l = l' + 1 := ⟨l - 1, by omega⟩
      obtain ⟨H0, E0, hh'⟩ := hh'
      have ez : zfs (l' + 1) = 10 * zfs l' + 1 := rfl
      have ea : (nI (zfs (l' + 1) + c) - 1) / 10 = nI (zfs l' + c / 10) := by
        rw [nI_1p (by omega), show (10 : Int32) = nI 10 from rfl, pk_div (by omega) (by decide) (by decide)]
        congr 1
        omega
      have em : nI (zfs (l' + 1) + c) - 1 - nI (zfs l' + c / 10) * 10 = nI (c % 10) := by
        have := nI_mod (a := zfs (l' + 1) + c - 1) (n := 10) (x := 10) (by omega) (by decide) (by decide) rfl
        rw [← ea, nI_1p (by omega), this]
        congr 1
        omega
      have hc10 : c / 10 < 10 ^ l' := by
        rw [Nat.pow_succ] at hc
        omega
      have hz' := zfs_10 l' (by omega)
      have hz5 := zfs_mono (show l' + 1 ≤ l' + 2 by omega)
      obtain ⟨f1, f2, f3⟩ := hf l1 (c / 10) hc10
      rw [show l' + 1 - 1 = l' by omega] at f1 f2 f3
      have n1 := nT (show zfs l' + c / 10 < 2 ^ 31 by omega)
      have n2 := nT (show zfs (l' + 1) + c < 2 ^ 31 by omega)
      have q21 : ∀ (w : mW) (a k : Nat) (v : Int32), a = 23 ∨ a = 24 ∨ a = 22 → (si w 21 k v).2.1 a = w.2.1 a := fun w a k v h => funext fun i => si_ne (by omega)
      (refine V.run (cs := tkX3_tryAll) none okX3_tryAll rfl ?_; simp only [zkX3_tryAll, tkX3_tryAll_0, tkX3_tryAll_18, tkX3_tryAll_139, ↓reduceIte, Nat.reduceEqDiff, reduceCtorEq, z1, z2, zpad, zent, Value.category, List.length_cons, List.length_nil, List.cons_append, List.nil_append, List.getElem?_cons_zero, List.getElem?_cons_succ, List.replicate, Nat.reduceAdd, Nat.reduceSub, List.set_cons_zero, List.set_cons_succ, ↓zbl_c, ↓zq_iconst, ↓zq_bipush, ↓zq_sipush, ↓zq_lconst, ↓zq_ldc, ↓zq_ldcS, ↓zq_ldcw, ↓zq_ldc2, ↓zq_null, ↓zq_iload, ↓zq_iload_n, ↓zq_lload, ↓zq_lload_n, ↓zq_aload, ↓zq_aload_n, ↓zq_iinc, ↓zq_istore, ↓zq_istore_n, ↓zq_astorer, ↓zq_astore_nr, ↓zq_astore0, ↓zq_astore_n0, ↓zq_lstore, ↓zq_lstore_n, ↓zq_iadd, ↓zq_isub, ↓zq_imul, ↓zq_iand, ↓zq_ior, ↓zq_ixor, ↓zq_ishl, ↓zq_ishr, ↓zq_iushr, ↓zq_idiv, ↓zq_irem, ↓zq_ineg, ↓zq_i2b, ↓zq_i2s, ↓zq_i2c, ↓zq_i2l, ↓zq_l2i, ↓zq_ladd, ↓zq_lsub, ↓zq_lmul, ↓zq_ldiv, ↓zq_lrem, ↓zq_lcmp, ↓zq_dupi, ↓zq_dupr, ↓zq_dup2, ↓zq_popi, ↓zq_popr, ↓zq_goto, ↓zq_if_eq, ↓zq_if_ne, ↓zq_if_lt, ↓zq_if_ge, ↓zq_if_gt, ↓zq_if_le, ↓zq_icmp_eq, ↓zq_icmp_ne, ↓zq_icmp_lt, ↓zq_icmp_ge, ↓zq_icmp_gt, ↓zq_icmp_le, ↓zq_ifnullr, ↓zq_ifnull0, ↓zq_ifnonnullr, ↓zq_ifnonnull0, ↓zq_table, ↓zq_get0, ↓zq_get3, ↓zq_get1, ↓zq_get2, ↓zq_put0, ↓zq_put3, ↓zq_put1, ↓zq_putS, ↓zq_iald0, ↓zq_iald1, ↓zq_iald2, ↓zq_iast, ↓zq_bald, ↓zq_bast, ↓zq_aald, ↓zq_alen5, ↓zq_alen0, ↓zq_alen1, ↓zq_alen2, ↓zq_alen3, ↓zq_alen4, ↓zq_ivS, ↓zq_iv0_0, ↓zq_iv0_1, ↓zq_iv1_0, ↓zq_iv1_1, ↓zq_iv2_0, ↓zq_iv2_1, ↓zq_iv3_0, ↓zq_iv3_1, ↓zq_iv4_0, ↓zq_iv4_1, ↓zq_iv5_0, ↓zq_iv5_1, ↓zq_iv6_0, ↓zq_iv6_1, ↓zq_is0_0_0, ↓zq_is0_1_0, ↓zq_is0_0_8, ↓zq_is0_1_8, ↓zq_is1_0_0, ↓zq_is1_1_0, ↓zq_is1_0_8, ↓zq_is1_1_8, ↓zq_is2_0_0, ↓zq_is2_1_0, ↓zq_is2_0_8, ↓zq_is2_1_8, ↓zq_is3_0_0, ↓zq_is3_1_0, ↓zq_is3_0_8, ↓zq_is3_1_8, ↓zq_is4_0_0, ↓zq_is4_1_0, ↓zq_is4_0_8, ↓zq_is4_1_8, ↓zq_copy, ↓zq_mmin, ↓zq_mmax, ↓zq_iret, ↓zq_lret, ↓zq_aretr, ↓zq_aret0, ↓zq_vret, ↓zI_0, ↓zJ_0, ↓zQr_0, ↓zQ0_0, ↓zI_1, ↓zJ_1, ↓zQr_1, ↓zQ0_1, ↓zI_2, ↓zJ_2, ↓zQr_2, ↓zQ0_2, ↓zI_3, ↓zJ_3, ↓zQr_3, ↓zQ0_3, ↓zI_4, ↓zJ_4, ↓zQr_4, ↓zQ0_4, ↓zI_5, ↓zJ_5, ↓zQr_5, ↓zQ0_5, ↓zI_6, ↓zJ_6, ↓zQr_6, ↓zQ0_6, ↓zI_7, ↓zJ_7, ↓zQr_7, ↓zQ0_7, ↓zI_8, ↓zJ_8, ↓zQr_8, ↓zQ0_8, ↓zI_9, ↓zJ_9, ↓zQr_9, ↓zQ0_9, ↓zI_10, ↓zJ_10, ↓zQr_10, ↓zQ0_10, ↓zI_11, ↓zJ_11, ↓zQr_11, ↓zQ0_11, ↓zI_12, ↓zJ_12, ↓zQr_12, ↓zQ0_12, ↓zNar_i, ↓zNar_z, ↓zRfT_o, ↓zrv_s, ↓zrv_n, ↓zq_nop, zcut, zsw, Int.reduceAdd, true_and, and_true, eq_self, true_or, or_true, Nat.reduceLeDiff, Nat.zero_le, zS_ob, zS_ar, zS_len, zS_ref, si_1, sj_1, sa_1, hw'])
      rw [nI_leI (by omega) (by omega), show (1111 : Int32) = nI 1111 from rfl, nI_leI (by decide) (by omega), ea, em, n1]
      refine ⟨fun q => absurd q (by omega), fun _ => ⟨fun q => absurd q (by omega), fun _ => ⟨by decide, vp_in_nI (by omega) (by decide), ?_⟩⟩⟩
      rw [f1, q21 _ 23 _ _ (Or.inl rfl), f2]
      refine ⟨vp_in_nI (by omega) (by decide), vp_in_nI (by omega) (by decide), by decide, ?_⟩
      rw [q21 _ 24 _ _ (by omega), q21 _ 24 _ _ (by omega), f3]
      have g2 : zFr fMn w (si (si w' 21 2 (nI (tM σ j l' (c / 10)).1)) 21 3 (nI (tM σ j l' (c / 10)).2.1)) := (g.si rfl).si rfl
      have hC2 := hC.fr g2.MnS
      have hw2 := g2.1.trans hw
      have hbnd : (tM σ j l' (c / 10)).1 < 1024 ∧ (tM σ j l' (c / 10)).2.1 ≤ 999 := tM_b (hC.2.1.2 j hj).2.2.2.1 (hC.2.1.2 j hj).2.2.2.2 l' (c / 10)
      have hh2 : zHn (si (si w' 21 2 (nI (tM σ j l' (c / 10)).1)) 21 3 (nI (tM σ j l' (c / 10)).2.1)) 21 (σ.1 1 j) (σ.1 2 j) (tM σ j l' (c / 10)).1 (tM σ j l' (c / 10)).2.1 := ⟨⟨by rw [si_other (by decide), si_other (by decide)]; exact hh'.1.1, by rw [si_other (by decide), si_other (by decide)]; exact hh'.1.2.1, by rw [si_other (by decide)]; exact si_same, si_same⟩, hh'.2.1, hh'.2.2.1, hbnd.1, hbnd.2⟩
      refine c_putC hw2 hC2 hF hh2 o21 (Nat.mod_lt _ (by decide)) (by have := hF.1.1; omega) (fun w3 g3 hh3 => ?_)
      have hw3 := g3.1.trans hw2
      (try simp only [zkX3_tryAll, tkX3_tryAll_0, tkX3_tryAll_18, tkX3_tryAll_139, ↓reduceIte, Nat.reduceEqDiff, reduceCtorEq, z1, z2, zpad, zent, Value.category, List.length_cons, List.length_nil, List.cons_append, List.nil_append, List.getElem?_cons_zero, List.getElem?_cons_succ, List.replicate, Nat.reduceAdd, Nat.reduceSub, List.set_cons_zero, List.set_cons_succ, ↓zbl_c, ↓zq_iconst, ↓zq_bipush, ↓zq_sipush, ↓zq_lconst, ↓zq_ldc, ↓zq_ldcS, ↓zq_ldcw, ↓zq_ldc2, ↓zq_null, ↓zq_iload, ↓zq_iload_n, ↓zq_lload, ↓zq_lload_n, ↓zq_aload, ↓zq_aload_n, ↓zq_iinc, ↓zq_istore, ↓zq_istore_n, ↓zq_astorer, ↓zq_astore_nr, ↓zq_astore0, ↓zq_astore_n0, ↓zq_lstore, ↓zq_lstore_n, ↓zq_iadd, ↓zq_isub, ↓zq_imul, ↓zq_iand, ↓zq_ior, ↓zq_ixor, ↓zq_ishl, ↓zq_ishr, ↓zq_iushr, ↓zq_idiv, ↓zq_irem, ↓zq_ineg, ↓zq_i2b, ↓zq_i2s, ↓zq_i2c, ↓zq_i2l, ↓zq_l2i, ↓zq_ladd, ↓zq_lsub, ↓zq_lmul, ↓zq_ldiv, ↓zq_lrem, ↓zq_lcmp, ↓zq_dupi, ↓zq_dupr, ↓zq_dup2, ↓zq_popi, ↓zq_popr, ↓zq_goto, ↓zq_if_eq, ↓zq_if_ne, ↓zq_if_lt, ↓zq_if_ge, ↓zq_if_gt, ↓zq_if_le, ↓zq_icmp_eq, ↓zq_icmp_ne, ↓zq_icmp_lt, ↓zq_icmp_ge, ↓zq_icmp_gt, ↓zq_icmp_le, ↓zq_ifnullr, ↓zq_ifnull0, ↓zq_ifnonnullr, ↓zq_ifnonnull0, ↓zq_table, ↓zq_get0, ↓zq_get3, ↓zq_get1, ↓zq_get2, ↓zq_put0, ↓zq_put3, ↓zq_put1, ↓zq_putS, ↓zq_iald0, ↓zq_iald1, ↓zq_iald2, ↓zq_iast, ↓zq_bald, ↓zq_bast, ↓zq_aald, ↓zq_alen5, ↓zq_alen0, ↓zq_alen1, ↓zq_alen2, ↓zq_alen3, ↓zq_alen4, ↓zq_ivS, ↓zq_iv0_0, ↓zq_iv0_1, ↓zq_iv1_0, ↓zq_iv1_1, ↓zq_iv2_0, ↓zq_iv2_1, ↓zq_iv3_0, ↓zq_iv3_1, ↓zq_iv4_0, ↓zq_iv4_1, ↓zq_iv5_0, ↓zq_iv5_1, ↓zq_iv6_0, ↓zq_iv6_1, ↓zq_is0_0_0, ↓zq_is0_1_0, ↓zq_is0_0_8, ↓zq_is0_1_8, ↓zq_is1_0_0, ↓zq_is1_1_0, ↓zq_is1_0_8, ↓zq_is1_1_8, ↓zq_is2_0_0, ↓zq_is2_1_0, ↓zq_is2_0_8, ↓zq_is2_1_8, ↓zq_is3_0_0, ↓zq_is3_1_0, ↓zq_is3_0_8, ↓zq_is3_1_8, ↓zq_is4_0_0, ↓zq_is4_1_0, ↓zq_is4_0_8, ↓zq_is4_1_8, ↓zq_copy, ↓zq_mmin, ↓zq_mmax, ↓zq_iret, ↓zq_lret, ↓zq_aretr, ↓zq_aret0, ↓zq_vret, ↓zI_0, ↓zJ_0, ↓zQr_0, ↓zQ0_0, ↓zI_1, ↓zJ_1, ↓zQr_1, ↓zQ0_1, ↓zI_2, ↓zJ_2, ↓zQr_2, ↓zQ0_2, ↓zI_3, ↓zJ_3, ↓zQr_3, ↓zQ0_3, ↓zI_4, ↓zJ_4, ↓zQr_4, ↓zQ0_4, ↓zI_5, ↓zJ_5, ↓zQr_5, ↓zQ0_5, ↓zI_6, ↓zJ_6, ↓zQr_6, ↓zQ0_6, ↓zI_7, ↓zJ_7, ↓zQr_7, ↓zQ0_7, ↓zI_8, ↓zJ_8, ↓zQr_8, ↓zQ0_8, ↓zI_9, ↓zJ_9, ↓zQr_9, ↓zQ0_9, ↓zI_10, ↓zJ_10, ↓zQr_10, ↓zQ0_10, ↓zI_11, ↓zJ_11, ↓zQr_11, ↓zQ0_11, ↓zI_12, ↓zJ_12, ↓zQr_12, ↓zQ0_12, ↓zNar_i, ↓zNar_z, ↓zRfT_o, ↓zrv_s, ↓zrv_n, ↓zq_nop, zcut, zsw, Int.reduceAdd, true_and, and_true, eq_self, true_or, or_true, Nat.reduceLeDiff, Nat.zero_le, zS_ob, zS_ar, zS_len, zS_ref, si_1, sj_1, sa_1, hw3])
      have e212 : ∀ v, (si w3 24 (zfs (l' + 1) + c) v).2.1 21 2 = nI (tM σ j (l' + 1) c).1 := fun v => by rw [si_ne (by decide)]; exact hh3.1.2.2.1
      have e213 : ∀ v u, (si (si w3 24 (zfs (l' + 1) + c) v) 22 (zfs (l' + 1) + c) u).2.1 21 3 = nI (tM σ j (l' + 1) c).2.1 := fun v u => by rw [si_ne (by decide), si_ne (by decide)]; exact hh3.1.2.2.2
      rw [n2, nI_add, e212, e213, nI_1]
      have G3 : zFr fMn w w3 := g2.tr (g3.F.mono (fun a k q => decide_eq_true (by have := of_decide_eq_true q; omega)))
      have old : ∀ v u t a k, (a ≠ 22 ∧ a ≠ 23 ∧ a ≠ 24) ∨ k ≠ zfs (l' + 1) + c → a ≠ 21 → a ≠ 5 → a ≠ 6 → (si (si (si w3 24 (zfs (l' + 1) + c) v) 22 (zfs (l' + 1) + c) u) 23 (zfs (l' + 1) + c) t).2.1 a k = w'.2.1 a k := fun v u t a k h1 h2 h5 h6 => by
        rw [si_other (by omega), si_other (by omega), si_other (by omega), g3.2.2 a k h5 h6 h2, si_ne h2, si_ne h2]
      have keep : ∀ v u t l c', zfs l + c' ≠ zfs (l' + 1) + c → zfil σ j w' l c' → zfil σ j (si (si (si w3 24 (zfs (l' + 1) + c) v) 22 (zfs (l' + 1) + c) u) 23 (zfs (l' + 1) + c) t) l c' := fun v u t l c' hne h =>
        ⟨(old v u t 22 _ (Or.inr hne) (by decide) (by decide) (by decide)).trans h.1, (old v u t 23 _ (Or.inr hne) (by decide) (by decide) (by decide)).trans h.2.1, (old v u t 24 _ (Or.inr hne) (by decide) (by decide) (by decide)).trans h.2.2⟩
      refine ⟨vp_in_nI (by omega) (by decide), vp_in_nI (by omega) (by decide), vp_in_nI (by omega) (by decide), ?_⟩
      refine ih (fun e => by omega) _ (((G3.si rfl).si rfl).si rfl) ⟨_, _, hh3.fr (fun k => by rw [si_ne (by decide), si_ne (by decide), si_ne (by decide)])⟩ (fun _ c' hc' => ?_) (fun c' hc' => ?_) ?_ _
      · refine keep _ _ _ _ _ ?_ (hf l1 c' hc')
        rw [show l' + 1 - 1 = l' by omega] at hc' ⊢
        omega
      · by_cases e : c' = c
        · subst e
          refine ⟨?_, si_same, ?_⟩
          · rw [si_ne (by decide)]; exact si_same
          · rw [si_ne (by decide), si_ne (by decide)]; exact si_same
        · exact keep _ _ _ _ _ (by omega) (hf2 c' (by omega))
      · refine keep _ _ _ _ _ ?_ hf0
        show 0 + 0 ≠ _
        omega
  (refine Call.runc (cs := tkX3_tryAll) 18 7 none mkX3_tryAll ⟨by decide +kernel, rfl⟩ (Nat.le_of_ble_eq_true rfl) okX3_tryAll rfl rfl ?_; simp only [zkX3_tryAll, tkX3_tryAll_0, tkX3_tryAll_18, tkX3_tryAll_139, ↓reduceIte, Nat.reduceEqDiff, reduceCtorEq, z1, z2, zpad, zent, Value.category, List.length_cons, List.length_nil, List.cons_append, List.nil_append, List.getElem?_cons_zero, List.getElem?_cons_succ, List.replicate, Nat.reduceAdd, Nat.reduceSub, List.set_cons_zero, List.set_cons_succ, ↓zbl_c, ↓zq_iconst, ↓zq_bipush, ↓zq_sipush, ↓zq_lconst, ↓zq_ldc, ↓zq_ldcS, ↓zq_ldcw, ↓zq_ldc2, ↓zq_null, ↓zq_iload, ↓zq_iload_n, ↓zq_lload, ↓zq_lload_n, ↓zq_aload, ↓zq_aload_n, ↓zq_iinc, ↓zq_istore, ↓zq_istore_n, ↓zq_astorer, ↓zq_astore_nr, ↓zq_astore0, ↓zq_astore_n0, ↓zq_lstore, ↓zq_lstore_n, ↓zq_iadd, ↓zq_isub, ↓zq_imul, ↓zq_iand, ↓zq_ior, ↓zq_ixor, ↓zq_ishl, ↓zq_ishr, ↓zq_iushr, ↓zq_idiv, ↓zq_irem, ↓zq_ineg, ↓zq_i2b, ↓zq_i2s, ↓zq_i2c, ↓zq_i2l, ↓zq_l2i, ↓zq_ladd, ↓zq_lsub, ↓zq_lmul, ↓zq_ldiv, ↓zq_lrem, ↓zq_lcmp, ↓zq_dupi, ↓zq_dupr, ↓zq_dup2, ↓zq_popi, ↓zq_popr, ↓zq_goto, ↓zq_if_eq, ↓zq_if_ne, ↓zq_if_lt, ↓zq_if_ge, ↓zq_if_gt, ↓zq_if_le, ↓zq_icmp_eq, ↓zq_icmp_ne, ↓zq_icmp_lt, ↓zq_icmp_ge, ↓zq_icmp_gt, ↓zq_icmp_le, ↓zq_ifnullr, ↓zq_ifnull0, ↓zq_ifnonnullr, ↓zq_ifnonnull0, ↓zq_table, ↓zq_get0, ↓zq_get3, ↓zq_get1, ↓zq_get2, ↓zq_put0, ↓zq_put3, ↓zq_put1, ↓zq_putS, ↓zq_iald0, ↓zq_iald1, ↓zq_iald2, ↓zq_iast, ↓zq_bald, ↓zq_bast, ↓zq_aald, ↓zq_alen5, ↓zq_alen0, ↓zq_alen1, ↓zq_alen2, ↓zq_alen3, ↓zq_alen4, ↓zq_ivS, ↓zq_iv0_0, ↓zq_iv0_1, ↓zq_iv1_0, ↓zq_iv1_1, ↓zq_iv2_0, ↓zq_iv2_1, ↓zq_iv3_0, ↓zq_iv3_1, ↓zq_iv4_0, ↓zq_iv4_1, ↓zq_iv5_0, ↓zq_iv5_1, ↓zq_iv6_0, ↓zq_iv6_1, ↓zq_is0_0_0, ↓zq_is0_1_0, ↓zq_is0_0_8, ↓zq_is0_1_8, ↓zq_is1_0_0, ↓zq_is1_1_0, ↓zq_is1_0_8, ↓zq_is1_1_8, ↓zq_is2_0_0, ↓zq_is2_1_0, ↓zq_is2_0_8, ↓zq_is2_1_8, ↓zq_is3_0_0, ↓zq_is3_1_0, ↓zq_is3_0_8, ↓zq_is3_1_8, ↓zq_is4_0_0, ↓zq_is4_1_0, ↓zq_is4_0_8, ↓zq_is4_1_8, ↓zq_copy, ↓zq_mmin, ↓zq_mmax, ↓zq_iret, ↓zq_lret, ↓zq_aretr, ↓zq_aret0, ↓zq_vret, ↓zI_0, ↓zJ_0, ↓zQr_0, ↓zQ0_0, ↓zI_1, ↓zJ_1, ↓zQr_1, ↓zQ0_1, ↓zI_2, ↓zJ_2, ↓zQr_2, ↓zQ0_2, ↓zI_3, ↓zJ_3, ↓zQr_3, ↓zQ0_3, ↓zI_4, ↓zJ_4, ↓zQr_4, ↓zQ0_4, ↓zI_5, ↓zJ_5, ↓zQr_5, ↓zQ0_5, ↓zI_6, ↓zJ_6, ↓zQr_6, ↓zQ0_6, ↓zI_7, ↓zJ_7, ↓zQr_7, ↓zQ0_7, ↓zI_8, ↓zJ_8, ↓zQr_8, ↓zQ0_8, ↓zI_9, ↓zJ_9, ↓zQr_9, ↓zQ0_9, ↓zI_10, ↓zJ_10, ↓zQr_10, ↓zQ0_10, ↓zI_11, ↓zJ_11, ↓zQr_11, ↓zQ0_11, ↓zI_12, ↓zJ_12, ↓zQr_12, ↓zQ0_12, ↓zNar_i, ↓zNar_z, ↓zRfT_o, ↓zrv_s, ↓zrv_n, ↓zq_nop, zcut, zsw, Int.reduceAdd, true_and, and_true, eq_self, true_or, or_true, Nat.reduceLeDiff, Nat.zero_le, zS_ob, zS_ar, zS_len, zS_ref, si_1, sj_1, sa_1, hw])
  rw [nI_1]
  refine c_firstOf (by omega) ?_
  (try simp only [zkX3_tryAll, tkX3_tryAll_0, tkX3_tryAll_18, tkX3_tryAll_139, ↓reduceIte, Nat.reduceEqDiff, reduceCtorEq, z1, z2, zpad, zent, Value.category, List.length_cons, List.length_nil, List.cons_append, List.nil_append, List.getElem?_cons_zero, List.getElem?_cons_succ, List.replicate, Nat.reduceAdd, Nat.reduceSub, List.set_cons_zero, List.set_cons_succ, ↓zbl_c, ↓zq_iconst, ↓zq_bipush, ↓zq_sipush, ↓zq_lconst, ↓zq_ldc, ↓zq_ldcS, ↓zq_ldcw, ↓zq_ldc2, ↓zq_null, ↓zq_iload, ↓zq_iload_n, ↓zq_lload, ↓zq_lload_n, ↓zq_aload, ↓zq_aload_n, ↓zq_iinc, ↓zq_istore, ↓zq_istore_n, ↓zq_astorer, ↓zq_astore_nr, ↓zq_astore0, ↓zq_astore_n0, ↓zq_lstore, ↓zq_lstore_n, ↓zq_iadd, ↓zq_isub, ↓zq_imul, ↓zq_iand, ↓zq_ior, ↓zq_ixor, ↓zq_ishl, ↓zq_ishr, ↓zq_iushr, ↓zq_idiv, ↓zq_irem, ↓zq_ineg, ↓zq_i2b, ↓zq_i2s, ↓zq_i2c, ↓zq_i2l, ↓zq_l2i, ↓zq_ladd, ↓zq_lsub, ↓zq_lmul, ↓zq_ldiv, ↓zq_lrem, ↓zq_lcmp, ↓zq_dupi, ↓zq_dupr, ↓zq_dup2, ↓zq_popi, ↓zq_popr, ↓zq_goto, ↓zq_if_eq, ↓zq_if_ne, ↓zq_if_lt, ↓zq_if_ge, ↓zq_if_gt, ↓zq_if_le, ↓zq_icmp_eq, ↓zq_icmp_ne, ↓zq_icmp_lt, ↓zq_icmp_ge, ↓zq_icmp_gt, ↓zq_icmp_le, ↓zq_ifnullr, ↓zq_ifnull0, ↓zq_ifnonnullr, ↓zq_ifnonnull0, ↓zq_table, ↓zq_get0, ↓zq_get3, ↓zq_get1, ↓zq_get2, ↓zq_put0, ↓zq_put3, ↓zq_put1, ↓zq_putS, ↓zq_iald0, ↓zq_iald1, ↓zq_iald2, ↓zq_iast, ↓zq_bald, ↓zq_bast, ↓zq_aald, ↓zq_alen5, ↓zq_alen0, ↓zq_alen1, ↓zq_alen2, ↓zq_alen3, ↓zq_alen4, ↓zq_ivS, ↓zq_iv0_0, ↓zq_iv0_1, ↓zq_iv1_0, ↓zq_iv1_1, ↓zq_iv2_0, ↓zq_iv2_1, ↓zq_iv3_0, ↓zq_iv3_1, ↓zq_iv4_0, ↓zq_iv4_1, ↓zq_iv5_0, ↓zq_iv5_1, ↓zq_iv6_0, ↓zq_iv6_1, ↓zq_is0_0_0, ↓zq_is0_1_0, ↓zq_is0_0_8, ↓zq_is0_1_8, ↓zq_is1_0_0, ↓zq_is1_1_0, ↓zq_is1_0_8, ↓zq_is1_1_8, ↓zq_is2_0_0, ↓zq_is2_1_0, ↓zq_is2_0_8, ↓zq_is2_1_8, ↓zq_is3_0_0, ↓zq_is3_1_0, ↓zq_is3_0_8, ↓zq_is3_1_8, ↓zq_is4_0_0, ↓zq_is4_1_0, ↓zq_is4_0_8, ↓zq_is4_1_8, ↓zq_copy, ↓zq_mmin, ↓zq_mmax, ↓zq_iret, ↓zq_lret, ↓zq_aretr, ↓zq_aret0, ↓zq_vret, ↓zI_0, ↓zJ_0, ↓zQr_0, ↓zQ0_0, ↓zI_1, ↓zJ_1, ↓zQr_1, ↓zQ0_1, ↓zI_2, ↓zJ_2, ↓zQr_2, ↓zQ0_2, ↓zI_3, ↓zJ_3, ↓zQr_3, ↓zQ0_3, ↓zI_4, ↓zJ_4, ↓zQr_4, ↓zQ0_4, ↓zI_5, ↓zJ_5, ↓zQr_5, ↓zQ0_5, ↓zI_6, ↓zJ_6, ↓zQr_6, ↓zQ0_6, ↓zI_7, ↓zJ_7, ↓zQr_7, ↓zQ0_7, ↓zI_8, ↓zJ_8, ↓zQr_8, ↓zQ0_8, ↓zI_9, ↓zJ_9, ↓zQr_9, ↓zQ0_9, ↓zI_10, ↓zJ_10, ↓zQr_10, ↓zQ0_10, ↓zI_11, ↓zJ_11, ↓zQr_11, ↓zQ0_11, ↓zI_12, ↓zJ_12, ↓zQr_12, ↓zQ0_12, ↓zNar_i, ↓zNar_z, ↓zRfT_o, ↓zrv_s, ↓zrv_n, ↓zq_nop, zcut, zsw, Int.reduceAdd, true_and, and_true, eq_self, true_or, or_true, Nat.reduceLeDiff, Nat.zero_le, zS_ob, zS_ar, zS_len, zS_ref, si_1, sj_1, sa_1, hw])
  refine c_firstOf (by omega) ?_
  (try simp only [zkX3_tryAll, tkX3_tryAll_0, tkX3_tryAll_18, tkX3_tryAll_139, ↓reduceIte, Nat.reduceEqDiff, reduceCtorEq, z1, z2, zpad, zent, Value.category, List.length_cons, List.length_nil, List.cons_append, List.nil_append, List.getElem?_cons_zero, List.getElem?_cons_succ, List.replicate, Nat.reduceAdd, Nat.reduceSub, List.set_cons_zero, List.set_cons_succ, ↓zbl_c, ↓zq_iconst, ↓zq_bipush, ↓zq_sipush, ↓zq_lconst, ↓zq_ldc, ↓zq_ldcS, ↓zq_ldcw, ↓zq_ldc2, ↓zq_null, ↓zq_iload, ↓zq_iload_n, ↓zq_lload, ↓zq_lload_n, ↓zq_aload, ↓zq_aload_n, ↓zq_iinc, ↓zq_istore, ↓zq_istore_n, ↓zq_astorer, ↓zq_astore_nr, ↓zq_astore0, ↓zq_astore_n0, ↓zq_lstore, ↓zq_lstore_n, ↓zq_iadd, ↓zq_isub, ↓zq_imul, ↓zq_iand, ↓zq_ior, ↓zq_ixor, ↓zq_ishl, ↓zq_ishr, ↓zq_iushr, ↓zq_idiv, ↓zq_irem, ↓zq_ineg, ↓zq_i2b, ↓zq_i2s, ↓zq_i2c, ↓zq_i2l, ↓zq_l2i, ↓zq_ladd, ↓zq_lsub, ↓zq_lmul, ↓zq_ldiv, ↓zq_lrem, ↓zq_lcmp, ↓zq_dupi, ↓zq_dupr, ↓zq_dup2, ↓zq_popi, ↓zq_popr, ↓zq_goto, ↓zq_if_eq, ↓zq_if_ne, ↓zq_if_lt, ↓zq_if_ge, ↓zq_if_gt, ↓zq_if_le, ↓zq_icmp_eq, ↓zq_icmp_ne, ↓zq_icmp_lt, ↓zq_icmp_ge, ↓zq_icmp_gt, ↓zq_icmp_le, ↓zq_ifnullr, ↓zq_ifnull0, ↓zq_ifnonnullr, ↓zq_ifnonnull0, ↓zq_table, ↓zq_get0, ↓zq_get3, ↓zq_get1, ↓zq_get2, ↓zq_put0, ↓zq_put3, ↓zq_put1, ↓zq_putS, ↓zq_iald0, ↓zq_iald1, ↓zq_iald2, ↓zq_iast, ↓zq_bald, ↓zq_bast, ↓zq_aald, ↓zq_alen5, ↓zq_alen0, ↓zq_alen1, ↓zq_alen2, ↓zq_alen3, ↓zq_alen4, ↓zq_ivS, ↓zq_iv0_0, ↓zq_iv0_1, ↓zq_iv1_0, ↓zq_iv1_1, ↓zq_iv2_0, ↓zq_iv2_1, ↓zq_iv3_0, ↓zq_iv3_1, ↓zq_iv4_0, ↓zq_iv4_1, ↓zq_iv5_0, ↓zq_iv5_1, ↓zq_iv6_0, ↓zq_iv6_1, ↓zq_is0_0_0, ↓zq_is0_1_0, ↓zq_is0_0_8, ↓zq_is0_1_8, ↓zq_is1_0_0, ↓zq_is1_1_0, ↓zq_is1_0_8, ↓zq_is1_1_8, ↓zq_is2_0_0, ↓zq_is2_1_0, ↓zq_is2_0_8, ↓zq_is2_1_8, ↓zq_is3_0_0, ↓zq_is3_1_0, ↓zq_is3_0_8, ↓zq_is3_1_8, ↓zq_is4_0_0, ↓zq_is4_1_0, ↓zq_is4_0_8, ↓zq_is4_1_8, ↓zq_copy, ↓zq_mmin, ↓zq_mmax, ↓zq_iret, ↓zq_lret, ↓zq_aretr, ↓zq_aret0, ↓zq_vret, ↓zI_0, ↓zJ_0, ↓zQr_0, ↓zQ0_0, ↓zI_1, ↓zJ_1, ↓zQr_1, ↓zQ0_1, ↓zI_2, ↓zJ_2, ↓zQr_2, ↓zQ0_2, ↓zI_3, ↓zJ_3, ↓zQr_3, ↓zQ0_3, ↓zI_4, ↓zJ_4, ↓zQr_4, ↓zQ0_4, ↓zI_5, ↓zJ_5, ↓zQr_5, ↓zQ0_5, ↓zI_6, ↓zJ_6, ↓zQr_6, ↓zQ0_6, ↓zI_7, ↓zJ_7, ↓zQr_7, ↓zQ0_7, ↓zI_8, ↓zJ_8, ↓zQr_8, ↓zQ0_8, ↓zI_9, ↓zJ_9, ↓zQr_9, ↓zQ0_9, ↓zI_10, ↓zJ_10, ↓zQr_10, ↓zQ0_10, ↓zI_11, ↓zJ_11, ↓zQr_11, ↓zQ0_11, ↓zI_12, ↓zJ_12, ↓zQr_12, ↓zQ0_12, ↓zNar_i, ↓zNar_z, ↓zRfT_o, ↓zrv_s, ↓zrv_n, ↓zq_nop, zcut, zsw, Int.reduceAdd, true_and, and_true, eq_self, true_or, or_true, Nat.reduceLeDiff, Nat.zero_le, zS_ob, zS_ar, zS_len, zS_ref, si_1, sj_1, sa_1, hw])
  rw [emax]
  by_cases e : l = 0
  · rw [if_pos e]
    have := loop 1 (by rw [e]; decide) (fun _ => rfl) w zFr.rf hh hfil (fun c' hc' => by
      rw [show c' = 0 by omega, e]
      exact h0) h0
    rw [e] at this ⊢
    exact this _
  · rw [if_neg e]
    have := loop 0 (Nat.zero_le _) (fun q => absurd q e) w zFr.rf hh hfil (fun c' hc' => absurd hc' (Nat.not_lt_zero _)) h0
    rw [Nat.add_zero] at this
    exact this _
end TREE
