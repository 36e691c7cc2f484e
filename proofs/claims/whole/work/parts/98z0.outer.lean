/-! The outer heap at the law's start: what the premises say of it, and that it stays. -/
def zStr0 (A : Nat → Prop) (gs : Nat → Nat) (s : State) (H : Heap) : Prop := (∀ k, k < 14 → vk_S 1 [(zWX k).length] [(zWX k).map nI] (fun _ => gs k) (fun _ => gs (16 + k)) A s H) ∧ (∀ k, k < 13 → vk_R "LaidByArgument$Tokens" (zix k) (ztx k) (gs k) s) ∧ vk_R "LaidByArgument" 80 "lays against ; yields 1 ; drops 0 ;" (gs 13) s ∧ va_Z "java/lang/String" "COMPACT_STRINGS" "Z" (.int 1) A s H ∧ (va_Z "jdk/internal/util/Preconditions" "SIOOBE_FORMATTER" "Ljava/util/function/BiFunction;" .null A s H ∨ va_Z "jdk/internal/util/Preconditions" "SIOOBE_FORMATTER" "Ljava/util/function/BiFunction;" (.ref (gs 30)) A s H)
def zOut0 (A : Nat → Prop) (gs : Nat → Nat) (N : Nat) (xs : Nat → Int32) (s : State) (H : Heap) : Prop := (va_T .int (gs 14) 6 (fun i => .int (zAB i)) A s H ∧ va_Z "LaidByArgument" "ABOVE" "[I" (.ref (gs 14)) A s H ∧ va_X (gs 15) N xs s H ∧ gs 15 < H.size ∧ ¬ A (gs 15)) ∧ (∀ q ∈ zNests, va_Nw (.methodLinkNest q.1 q.2.1 q.2.2 "LaidByArgument") s) ∧ (∀ q ∈ zNestI, va_Nw (.methodLinkNest q.1 q.2.1 q.2.2 "LaidByArgument") s) ∧ (∀ C, C = RX0 ∨ C = RX5 ∨ C = RX8 → va_AO C s) ∧ zStr0 A gs s H
section OUT
variable {A : Nat → Prop} {gs : Nat → Nat} {N : Nat} {xs : Nat → Int32}
theorem zStr0.kept {U : State} {H H1 : Heap} (h : zStr0 A gs U H) (hq : ∀ a : Nat, a < H.size → ¬ A a → H1[a]? = H[a]?) : zStr0 A gs U H1 := by
  obtain ⟨h1, h2, h3, h4, h5⟩ := h
  refine ⟨fun k hk => (h1 k hk).kept hq, h2, h3, h4.kept hq, ?_⟩
  rcases h5 with z | z
  · exact Or.inl (z.kept hq)
  · exact Or.inr (z.kept hq)
theorem zOut0.kept {U : State} {H H1 : Heap} (h : zOut0 A gs N xs U H) (hq : ∀ a : Nat, a < H.size → ¬ A a → H1[a]? = H[a]?) : zOut0 A gs N xs U H1 := by
  obtain ⟨⟨a1, a2, a3, a4, a5⟩, b1, b2, b3, c⟩ := h
  have e := hq _ a4 a5
  refine ⟨⟨a1.kept hq, a2.kept hq, a3.kept e, ?_, a5⟩, b1, b2, b3, c.kept hq⟩
  have hs : H[gs 15]? = some H[gs 15] := Array.getElem?_eq_getElem a4
  rw [hs] at e
  exact (Array.getElem?_eq_some_iff.mp e).1
theorem zOut0.warm {s U : State} {H : Heap} (hW : s.WarmedH U.vm) (h : zOut0 A gs N xs s H) : zOut0 A gs N xs U H := by
  obtain ⟨⟨a1, a2, a3, a4, a5⟩, b1, b2, b3, c1, c2, c3, c4, c5⟩ := h
  refine ⟨⟨a1.moved hW.alike, a2.moved hW.alike, a3.moved hW.alike, a4, a5⟩, fun q hq => (b1 q hq).warmM hW, fun q hq => (b2 q hq).warmM hW, fun C hC => (b3 C hC).moved hW.alike, fun k hk => (c1 k hk).moved hW.alike, fun k hk => (c2 k hk).warm hW, c3.warm hW, c4.moved hW.alike, ?_⟩
  rcases c5 with z | z
  · exact Or.inl (z.moved hW.alike)
  · exact Or.inr (z.moved hW.alike)
theorem zOut0.same {u U : State} {H : Heap} (hv : U.vm = u.vm) (h : zOut0 A gs N xs u H) : zOut0 A gs N xs U H := by
  have hA : u.vm.Alike U.vm := by rw [hv]; exact Vm.Alike.refl u.vm
  obtain ⟨⟨a1, a2, a3, a4, a5⟩, b1, b2, b3, c1, c2, c3, c4, c5⟩ := h
  refine ⟨⟨a1.moved hA, a2.moved hA, a3.moved hA, a4, a5⟩, fun q hq => (b1 q hq).same rfl hv.symm, fun q hq => (b2 q hq).same rfl hv.symm, fun C hC => (b3 C hC).moved hA, fun k hk => (c1 k hk).moved hA, fun k hk => (c2 k hk).same hv, c3.same hv, c4.moved hA, ?_⟩
  rcases c5 with z | z
  · exact Or.inl (z.moved hA)
  · exact Or.inr (z.moved hA)
end OUT
/-- a word of the tables by its place -/
theorem zlw_of {i : Nat} {c : Cond} (h : zpl i = some c) : c ∈ lw_tbl := List.mem_append_right _ (zTL_in (List.mem_of_getElem? h))
def zow (k : Nat) : String := if k < 13 then "LaidByArgument$Tokens" else "LaidByArgument"
def zid (k : Nat) : Nat := if k < 13 then zix k else 80
def ztmS (k : Nat) : Term := .string (zow k) (zid k)
def zval (k : Nat) : Term := .field (ztmS k) "java/lang/String" "value" "[B"
def zfl : List Cond := flatC (Jvm.Cond.and given_1 narrow_1)
set_option maxRecDepth 100000 in
theorem zfl_S : ∀ k, k < 14 → Cond.exactly (ztmS k) "java/lang/String" ∈ zfl ∧ Cond.eq (.field (ztmS k) "java/lang/String" "coder" "B") (.int 0) ∈ zfl ∧ Cond.arrayOf (zval k) .byte ∈ zfl ∧ Cond.eq (.length (zval k)) (.int (Int32.ofNat (zWX k).length)) ∈ zfl := by decide +kernel
set_option maxRecDepth 100000 in
theorem zfl_E : ∀ k, k < 14 → ∀ j, j < (zWX k).length → Cond.eq (.elem (zval k) (.int (Int32.ofNat j))) (.int (((zWX k).map nI).getD j 0)) ∈ zfl := by decide +kernel
set_option maxRecDepth 100000 in
theorem zfl_A : Cond.arrayOf (.static "LaidByArgument" "ABOVE" "[I") .int ∈ zfl ∧ Cond.eq (.length (.static "LaidByArgument" "ABOVE" "[I")) (.int 6) ∈ zfl ∧ (∀ j, j < 6 → Cond.eq (.elem (.static "LaidByArgument" "ABOVE" "[I") (.int (Int32.ofNat j))) (.int (zAB j)) ∈ zfl) ∧ Cond.eq (.static "java/lang/String" "COMPACT_STRINGS" "Z") (.int 1) ∈ zfl ∧ Cond.isRef (.static "jdk/internal/util/Preconditions" "SIOOBE_FORMATTER" "Ljava/util/function/BiFunction;") ∈ zfl := by decide +kernel
theorem zNest_tbl : ∀ q ∈ zNests ++ zNestI, Cond.methodLinkNest q.1 q.2.1 q.2.2 "LaidByArgument" ∈ ([1031, 1063, 1076, 1082, 1104, 1140, 1190, 1192, 1214, 1215, 1217, 3083, 3115, 4036, 4138].filterMap zpl) := by decide +kernel
theorem zpl_mem {l : List Nat} {c : Cond} (h : c ∈ l.filterMap zpl) : c ∈ lw_tbl := by
  obtain ⟨i, -, hi⟩ := List.mem_filterMap.mp h
  exact zlw_of hi
theorem zstr_tbl : ∀ k, k < 13 → Cond.stringRef "LaidByArgument$Tokens" (zix k) (ztx k) ∈ ([2078, 2079, 2080, 2081, 2082, 2083, 2084, 2085, 2086, 2087, 2088, 2089, 2107].filterMap zpl) := by decide +kernel
section OUS
variable {s : State} {b N : Nat} {xs : Nat → Int32}
theorem zvk1 {l : List Nat} {y : List (List Int32)} {adK adV : Nat → Nat} {A : Nat → Prop} {U : State} {H : Heap} (h : vk_S 1 l y adK adV A U H) : vk_S 1 l y (fun _ => adK 0) (fun _ => adV 0) A U H := by
  refine ⟨fun i hi => ?_, fun i j hi hj _ => by omega⟩
  have : i = 0 := by omega
  subst this
  exact h.1 0 (by decide)
theorem zOut0_start (hts : ∀ w ∈ lw_tbl, w.before #[Value.ref b] s = true) (hgv : (Jvm.Cond.and given_1 narrow_1).before #[Value.ref b] s = true) (hX : va_X b N xs s s.heap) (hbl : b < s.heap.size) : ∃ gs : Nat → Nat, gs 15 = b ∧ zOut0 (fun q => s.heap.size ≤ q) gs N xs s s.heap := by
  have hA0 : ∀ a : Nat, a < s.heap.size → ¬ (fun q => s.heap.size ≤ q) a := fun a ha => Nat.not_le.mpr ha
  have hfl : ∀ c ∈ zfl, c.before #[Value.ref b] s = true := flat_of_before _ hgv
  have hS : ∀ k, ∃ q : Nat × Nat, k < 14 → vk_S 1 [(zWX k).length] [(zWX k).map nI] (fun _ => q.1) (fun _ => q.2) (fun q => s.heap.size ≤ q) s s.heap ∧ (ztmS k).eval #[Value.ref b] s none [] s = some (.ref q.1) := by
    intro k
    by_cases hk : k < 14
    · obtain ⟨f1, f2, f3, f4⟩ := zfl_S k hk
      have hl := zWX_len k hk
      obtain ⟨adK, adV, h1, h2⟩ := vk_Sof (N := 1) (tm := fun _ => ztmS k) (len := [(zWX k).length]) (byt := [(zWX k).map nI]) (fun i hi => by
        have : i = 0 := by omega
        subst this
        show (zWX k).length < 2 ^ 31
        omega) (fun i hi => hfl _ f1) (fun i hi => hfl _ f2) (fun i hi => hfl _ f3) (fun i hi => by
        have : i = 0 := by omega
        subst this
        exact hfl _ f4) (fun i hi j hj => by
        have : i = 0 := by omega
        subst this
        exact hfl _ (zfl_E k hk j hj)) (fun i j hi hj hij => absurd (show i = j by omega) hij) hA0
      exact ⟨(adK 0, adV 0), fun _ => ⟨zvk1 h1, h2 0 (by decide)⟩⟩
    · exact ⟨(0, 0), fun h => absurd h hk⟩
  obtain ⟨gq, hgq⟩ : ∃ gq : Nat → Nat × Nat, ∀ k, k < 14 → vk_S 1 [(zWX k).length] [(zWX k).map nI] (fun _ => (gq k).1) (fun _ => (gq k).2) (fun q => s.heap.size ≤ q) s s.heap ∧ (ztmS k).eval #[Value.ref b] s none [] s = some (.ref (gq k).1) := ⟨fun k => Classical.choose (hS k), fun k => Classical.choose_spec (hS k)⟩
  obtain ⟨a1, a2, a3, a4, a5⟩ := zfl_A
  obtain ⟨t, ht1, ht2⟩ := va_Tof (ty := .int) (N := 6) (f := fun i => .int (zAB i)) (by decide) (hfl _ a1) (va_eqt (hfl _ a2)) (fun j hj => va_eqt (hfl _ (a3 j hj))) hA0
  have hZA := va_Zref (hts _ (zlw_of (i := 5026) (by decide +kernel))) (hts _ (zlw_of (i := 1001) (by decide +kernel))) ht1 hA0
  have hZC := va_Zof (hts _ (zlw_of (i := 2001) (by decide +kernel))) (hts _ (zlw_of (i := 1012) (by decide +kernel))) (va_eqt (hfl _ a4)) hA0
  have hZF := va_Zqof (hts _ (zlw_of (i := 2017) (by decide +kernel))) (hts _ (zlw_of (i := 1014) (by decide +kernel))) (hfl _ a5) hA0
  obtain ⟨u, hu⟩ : ∃ u : Nat, va_Z "jdk/internal/util/Preconditions" "SIOOBE_FORMATTER" "Ljava/util/function/BiFunction;" .null (fun q => s.heap.size ≤ q) s s.heap ∨ va_Z "jdk/internal/util/Preconditions" "SIOOBE_FORMATTER" "Ljava/util/function/BiFunction;" (.ref u) (fun q => s.heap.size ≤ q) s s.heap := by
    rcases hZF with z | ⟨u, z⟩
    · exact ⟨0, Or.inl z⟩
    · exact ⟨u, Or.inr z⟩
  have hN : ∀ q ∈ zNests ++ zNestI, va_Nw (.methodLinkNest q.1 q.2.1 q.2.2 "LaidByArgument") s := fun q hq => va_Nw.of rfl (hts _ (zpl_mem (zNest_tbl q hq)))
  refine ⟨fun k => if k < 14 then (gq k).1 else if k = 14 then t else if k = 15 then b else if k < 30 then (gq (k - 16)).2 else u, rfl, ⟨ht2, hZA, hX, hbl, Nat.not_le.mpr hbl⟩, fun q hq => hN q (List.mem_append_left _ hq), fun q hq => hN q (List.mem_append_right _ hq), fun C hC => ?_, fun k hk => ?_, fun k hk => ?_, ?_, hZC, hu⟩
  · rcases hC with rfl | rfl | rfl
    · exact va_AO.of (hts _ (zlw_of (i := 1060) (by decide +kernel)))
    · exact va_AO.of (hts _ (zlw_of (i := 1131) (by decide +kernel)))
    · exact va_AO.of (hts _ (zlw_of (i := 1129) (by decide +kernel)))
  · have e1 : (if k < 14 then (gq k).1 else if k = 14 then t else if k = 15 then b else if k < 30 then (gq (k - 16)).2 else u) = (gq k).1 := if_pos hk
    have e2 : (if 16 + k < 14 then (gq (16 + k)).1 else if 16 + k = 14 then t else if 16 + k = 15 then b else if 16 + k < 30 then (gq (16 + k - 16)).2 else u) = (gq k).2 := by
      rw [if_neg (by omega), if_neg (by omega), if_neg (by omega), if_pos (by omega), Nat.add_sub_cancel_left]
    have := (hgq k hk).1
    rw [← e1, ← e2] at this
    exact this
  · have e1 : (if k < 14 then (gq k).1 else if k = 14 then t else if k = 15 then b else if k < 30 then (gq (k - 16)).2 else u) = (gq k).1 := if_pos (by omega)
    have := (hgq k (by omega)).2
    unfold ztmS zow zid at this
    rw [if_pos hk, if_pos hk] at this
    rw [← e1] at this
    exact vk_R.of (A := #[Value.ref b]) (hts _ (zpl_mem (zstr_tbl k hk))) this
  · exact vk_R.of (A := #[Value.ref b]) (hts _ (zlw_of (i := 1231) (by decide +kernel))) (hgq 13 (by decide)).2
end OUS
