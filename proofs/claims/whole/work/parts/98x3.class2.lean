/-! The class's own constructor: the tape, the first text. -/
def zσ0 : mS := (fun a k => if a = 5 ∧ k = 3 then 1 else 0, fun _ _ => 0, fun _ => zev (zEnam 1) (zEnum 1) (zEnum 0))
theorem zsis_0 {a k : Nat} : ∀ (K : List (Nat × Nat × Int32)), (K.all (fun e => e.1 != a)) = true → zsis K a k = 0 := by
  intro K
  induction K with
  | nil => intro _; rfl
  | cons e K ih =>
    intro h
    rw [List.all_cons, Bool.and_eq_true] at h
    show (if a = e.1 ∧ k = e.2.1 then e.2.2 else zsis K a k) = 0
    rw [if_neg (fun q => by have := h.1; rw [q.1] at this; simp at this)]
    exact ih h.2
theorem zsis_hi {a k : Nat} (ha : 67 ≤ a) : ∀ (K : List (Nat × Nat × Int32)), (K.all (fun e => decide (e.1 < 67))) = true → zsis K a k = 0 := by
  intro K
  induction K with
  | nil => intro _; rfl
  | cons e K ih =>
    intro h
    rw [List.all_cons, Bool.and_eq_true] at h
    have h1 := of_decide_eq_true h.1
    show (if a = e.1 ∧ k = e.2.1 then e.2.2 else zsis K a k) = 0
    rw [if_neg (fun q => by have := q.1; omega)]
    exact ih h.2
theorem zsrs_hi {a k m : Nat} (hk : m ≤ k) : ∀ (L : List (Nat × Nat × Nat)), (L.all (fun e => decide (e.2.1 < m))) = true → zsrs L a k = none := by
  intro L
  induction L with
  | nil => intro _; rfl
  | cons e L ih =>
    intro h
    rw [List.all_cons, Bool.and_eq_true] at h
    have h1 := of_decide_eq_true h.1
    show (if a = e.1 ∧ k = e.2.1 then some e.2.2 else zsrs L a k) = none
    rw [if_neg (fun q => by have := q.2; omega)]
    exact ih h.2
theorem zr0_lo : ∀ a, a < 67 → ∀ k, k < 16 → zr0 a k = zsrs zLC a k := by decide +kernel
theorem zr0_hi {a k : Nat} (ha : a < 67) (hk : 16 ≤ k) : zr0 a k = none := by
  have h : ∀ a, a < 67 → (zr0T.getD a []).length ≤ 16 := by decide +kernel
  unfold zr0
  rw [List.getD_eq_getElem?_getD, List.getElem?_eq_none (by have := h a ha; omega)]
  rfl
theorem zr0_C {a : Nat} (ha : a < 67) (k : Nat) : zr0 a k = zsrs zLC a k := by
  rcases Nat.lt_or_ge k 16 with c | c
  · exact zr0_lo a ha k c
  · rw [zr0_hi ha c, zsrs_hi c zLC (by decide +kernel)]
theorem zdef_0 {b : Nat} : zDef (zW0 [] []) b := ⟨fun _ => rfl, fun _ => rfl, fun _ => rfl⟩
section CLS
variable {Γ : mG} {d : Nat} {w w' : mW} {Q : Value → mW → Prop} {k i n t : Nat} {x y : Int32} {B : Nat → Nat}
theorem zbtC_lt : ∀ i, i < 35 → zbtC i < 256 := by decide +kernel
def zfY (a k : Nat) : Bool := a == 9 || (a == 8 && k == 1)
def zfQ (a k : Nat) : Bool := zfY a k || (zfW a k || zfB 0 a k || (a == 0 && k == 12))
theorem zfQ_in {a k : Nat} (h : zfQ a k = true) : a = 8 ∨ a = 9 ∨ (10 ≤ a ∧ a ≤ 17) ∨ (41 ≤ a ∧ a ≤ 43) ∨ (a = 0 ∧ k = 12) := by
  unfold zfQ zfY at h
  have h := (Bool.or_eq_true _ _ ▸ h : _ ∨ _)
  rcases h with h | h0
  · simp at h
    omega
  have h0 := (Bool.or_eq_true _ _ ▸ h0 : _ ∨ _)
  rcases h0 with h1 | h
  have h1 := (Bool.or_eq_true _ _ ▸ h1 : _ ∨ _)
  rcases h1 with h | h
  · have := zfW_S h
    omega
  · have := of_decide_eq_true h
    omega
  · simp at h
    omega
theorem c_iClass (hI : zGI Γ) (hG : zGS Γ) (hq : ∀ w', w'.1 = zr0 → CI zσ0 w' → (∀ a, 67 ≤ a → ∀ k, w'.2.1 a k = 0 ∧ w'.2.2 a k = 0) → Q .null w') : Call Γ (d + 168) 66 5612 kX10_init [.ref 0] 1 (zW0 [] []) Q := by
  refine Call.of mkX10_init ⟨by decide +kernel, rfl⟩ (Nat.le_of_ble_eq_true rfl) ?_
  refine v_iClass hI (fun b _ => zdef_0) ?_
  refine V.cong (w' := (zr0, zsis zKC, fun _ _ => 0)) (fun a ha k => ⟨zr0_C (by omega) k, rfl, rfl⟩) ?_
  have eb : ∀ i, zbtC i = (zWX 13).getD i 0 := fun _ => rfl
  have fin : ∀ w1, w1.1 = zr0 → zFr zfY (zr0, zsis zKC, fun _ _ => 0) w1 → w1.2.1 8 1 = nI 35 → (∀ j, j < 35 → w1.2.1 9 j = nI (zbtC j)) → V Γ kX10_init (zF Γ kX10_init 1 66 5612 Q) (d + 168) 1 66 5612 235 [.ref 0, .int (nI 35)] [] w1 66 5612 := by
    intro w1 hw1 g h8 h9
    have hB : zTape zbtC 35 w1 := ⟨h8, by decide, fun i hi => ⟨h9 i hi, zbtC_lt i hi⟩⟩
    have h12 : w1.2.1 0 12 = 0 := (g.i 0 12 rfl).trans (zsis_0 (a := 0) (k := 12) zKC (by decide +kernel))
    refine zs_aload_n (pc := 235) (k := 0) (i := 0) (by decide +kernel) rfl rfl ?_
    refine zs_callV (pc := 236) (i := 96) (pl := 2044) (t := 10) (a := 0) (mc' := 0) (ms' := 0) (N := kX10_text) (as := []) (st' := []) (by decide +kernel) (by decide +kernel) rfl rfl (zob_d rfl) (Nat.le_of_ble_eq_true rfl) rfl ⟨by decide, by decide⟩ (c_textInit (d := d) (Q := fun v w' => v = .int 0 ∧ w'.1 = zr0 ∧ zFr (fun a k => zfW a k || zfB 0 a k || (a == 0 && k == 12)) w1 w' ∧ w'.2.1 8 1 = 0 ∧ w'.2.1 0 12 = 1 ∧ ∃ e, zTx w' 0 e (zev (zEnam 1) (zEnum 1) (zEnum 0))) hG hw1 h12 hB zrd_C (fun w' g2 k8 k12 kT => ⟨rfl, g2.1.trans hw1, g2, k8, k12, kT⟩)) (fun v w2 e2 => ?_)
    obtain ⟨rfl, hw2, g2, k8, k12, kT⟩ := e2
    refine zs_popi (pc := 239) (x := 0) (by decide +kernel) ?_
    refine zs_vret (pc := 240) (by decide +kernel) ⟨rfl, by decide⟩ rfl ?_
    have gg : zFr zfQ (zr0, zsis zKC, fun _ _ => 0) w2 := (g.mono (fun a k h => by unfold zfQ; rw [h]; rfl)).tr (g2.mono (fun a k h => by
      have h : (zfW a k || zfB 0 a k || (a == 0 && k == 12)) = true := h
      unfold zfQ
      rw [h, Bool.or_true]))
    have gi : ∀ a k, ¬ (a = 8 ∨ a = 9 ∨ (10 ≤ a ∧ a ≤ 17) ∨ (41 ≤ a ∧ a ≤ 43) ∨ (a = 0 ∧ k = 12)) → w2.2.1 a k = zsis zKC a k ∧ w2.2.2 a k = 0 := fun a k h => gg.2 a k (by
      cases e : zfQ a k with
      | false => rfl
      | true => exact absurd (zfQ_in e) h)
    have z0 : ∀ a k, ¬ (a = 8 ∨ a = 9 ∨ (10 ≤ a ∧ a ≤ 17) ∨ (41 ≤ a ∧ a ≤ 43) ∨ (a = 0 ∧ k = 12)) → (zKC.all (fun e => e.1 != a)) = true → w2.2.1 a k = 0 := fun a k h1 h2 => (gi a k h1).1.trans (zsis_0 zKC h2)
    refine hq w2 hw2 ⟨fun i hi => ⟨Nat.zero_lt_succ _, ?_, ?_⟩, ⟨Nat.zero_le _, fun j hj => absurd hj (Nat.not_lt_zero _)⟩, ⟨?_, ?_, k12, ?_⟩, ⟨by decide, fun t ht => ?_⟩, ⟨k8, fun i hi => absurd hi (Nat.not_lt_zero _)⟩, fun s hs => ⟨?_, ?_, fun i hi => absurd hi (Nat.not_lt_zero _)⟩, ⟨?_, fun h => absurd h (by decide)⟩⟩ (fun a ha k => ?_)
    · exact z0 2 i (by omega) (by decide +kernel)
    · have : ∀ i, i < 10 → zinv (zσ0.1 0) i = 0 := by decide +kernel
      rw [this i hi]
      exact z0 3 i (by omega) (by decide +kernel)
    · exact z0 0 10 (by omega) (by decide +kernel)
    · exact z0 0 11 (by omega) (by decide +kernel)
    · exact z0 0 13 (by omega) (by decide +kernel)
    · have ht : t < 1 := ht
      have : t = 0 := by omega
      subst this
      exact kT
    · rw [(gi (59 + 2 * s) 1 (by omega)).1]
      have : ∀ s, s < 4 → zsis zKC (59 + 2 * s) 1 = -1 := by decide +kernel
      exact this s hs
    · rw [(gi (59 + 2 * s) 2 (by omega)).1]
      have : ∀ s, s < 4 → zsis zKC (59 + 2 * s) 2 = 0 := by decide +kernel
      exact this s hs
    · exact z0 25 2 (by omega) (by decide +kernel)
    · have := gi a k (by omega)
      exact ⟨this.1.trans (zsis_hi ha zKC (by decide +kernel)), this.2⟩
  have loop : ∀ m i w1, m + i = 35 → w1.1 = zr0 → zFr zfY (zr0, zsis zKC, fun _ _ => 0) w1 → w1.2.1 8 1 = nI i → (∀ j, j < i → w1.2.1 9 j = nI (zbtC j)) → V Γ kX10_init (zF Γ kX10_init 1 66 5612 Q) (d + 168) 1 66 5612 206 [.ref 0, .int (nI i)] [] w1 66 5612 := by
    intro m
    induction m with
    | zero =>
      intro i w1 hi hw1 g h8 h9
      have : i = 35 := by omega
      subst this
      refine zs_iload_n (pc := 206) (k := 1) (i := 1) (by decide +kernel) rfl rfl ?_
      refine zs_ldcT (pc := 207) hG rfl (by decide +kernel) ?_
      refine zs_callStr (k := 13) (pc := 209) (i := 82) (pl := 1232) (mc' := 0) (ms' := 0) (N := kJ0_length_8abf5) (as := []) (st' := [.int (nI 35)]) hG (by decide) (by decide +kernel) (by decide +kernel) rfl rfl (Nat.le_of_ble_eq_true rfl) rfl ⟨by decide, by decide⟩ (c_sLengthL (d := d + 165) (Q := fun v w' => v = .int (nI (zWX 13).length) ∧ w' = w1) hG (by decide) ⟨rfl, rfl⟩) (fun v w2 e => ?_)
      obtain ⟨rfl, rfl⟩ := e
      exact zs_icmp_ge (pc := 212) (o := 23) (t := 235) (by decide +kernel) (by decide) ⟨fun _ => fin w2 hw1 g h8 h9, fun c => absurd (by decide +kernel) c⟩
    | succ m ih =>
      intro i w1 hi hw1 g h8 h9
      refine zs_iload_n (pc := 206) (k := 1) (i := 1) (by decide +kernel) rfl rfl ?_
      refine zs_ldcT (pc := 207) hG rfl (by decide +kernel) ?_
      refine zs_callStr (k := 13) (pc := 209) (i := 82) (pl := 1232) (mc' := 0) (ms' := 0) (N := kJ0_length_8abf5) (as := []) (st' := [.int (nI i)]) hG (by decide) (by decide +kernel) (by decide +kernel) rfl rfl (Nat.le_of_ble_eq_true rfl) rfl ⟨by decide, by decide⟩ (c_sLengthL (d := d + 165) (Q := fun v w' => v = .int (nI (zWX 13).length) ∧ w' = w1) hG (by decide) ⟨rfl, rfl⟩) (fun v w2 e => ?_)
      obtain ⟨rfl, rfl⟩ := e
      refine zs_icmp_ge (pc := 212) (o := 23) (t := 235) (by decide +kernel) (by decide) ⟨fun c => absurd ((nI_leI (a := 35) (by decide) (by omega)).mp c) (by omega), fun _ => ?_⟩
      refine zs_aload_n (pc := 215) (k := 0) (i := 0) (by decide +kernel) rfl rfl ?_
      refine zs_get (pc := 216) (i := 34) (c := 10) (k := 3) (pl := 3021) (a := 0) (v := .ref 8) (by decide +kernel) (by decide) (by decide +kernel) (zob_d rfl) (by unfold zf; rw [hw1]; rfl) ?_
      refine zs_ldcT (pc := 219) hG rfl (by decide +kernel) ?_
      refine zs_iload_n (pc := 221) (k := 1) (i := 1) (by decide +kernel) rfl rfl ?_
      refine zs_callStr (k := 13) (pc := 222) (i := 88) (pl := 2002) (mc' := 0) (ms' := 0) (N := kJ0_charAt_5068e) (as := [.int (nI i)]) (st' := [.ref 8]) hG (by decide) (by decide +kernel) (by decide +kernel) rfl rfl (Nat.le_of_ble_eq_true rfl) rfl ⟨by decide, by decide⟩ (c_sCharAtL (d := d + 163) (Q := fun v w' => v = .int (nI (zbtC i)) ∧ w' = w2) hG (by decide) (show i < 35 by omega) ⟨rfl, rfl⟩) (fun v w3 e => ?_)
      obtain ⟨rfl, rfl⟩ := e
      refine zs_callV (pc := 225) (i := 92) (pl := 2040) (t := 7) (a := 8) (mc' := 0) (ms' := 0) (N := kX7_add) (as := [.int (nI (zbtC i))]) (st' := []) (by decide +kernel) (by decide +kernel) rfl rfl (zob_d rfl) (Nat.le_of_ble_eq_true rfl) rfl ⟨by decide, by decide⟩ (c_tapeAddL (d := d + 166) (n := i) (Q := fun v w' => v = .int 1 ∧ w' = si (si w3 9 i (nI (zbtC i))) 8 1 (nI (i + 1))) hw1 h8 (by omega) (by rw [if_pos (by omega)]; exact ⟨rfl, rfl⟩)) (fun v w4 e => ?_)
      obtain ⟨rfl, rfl⟩ := e
      refine zs_popi (pc := 228) (x := 1) (by decide +kernel) ?_
      refine zz_iinc (pc := 229) (i := 1) (n := 1) (v := 1) (x := nI i) (ls' := [.ref 0, .int (nI (i + 1))]) (by decide +kernel) (by decide) rfl (by decide) (by rw [nI_1]; rfl) ?_
      refine zs_goto (pc := 232) (o := (-26)) (t := 206) (by decide +kernel) (by decide) ?_
      refine ih (i + 1) (si (si w3 9 i (nI (zbtC i))) 8 1 (nI (i + 1))) (by omega) hw1 ((g.si rfl).si rfl) si_same (fun j hj => ?_)
      rw [si_other (by omega), si_2]
      by_cases q : j = i
      · rw [if_pos ⟨rfl, q⟩, q]
      · rw [if_neg (fun z => q z.2)]
        exact h9 j (by omega)
  exact loop 35 0 (zr0, zsis zKC, fun _ _ => 0) rfl rfl zFr.rf (zsis_0 (a := 8) (k := 1) zKC (by decide +kernel)) (fun j hj => absurd hj (Nat.not_lt_zero _))
end CLS
