/-! The walk of the law's body. -/
theorem zinst_tbl : ∀ c, c < 12 → Cond.instantiable (zR c) (zN c) ∈ ([1139, 1184, 1044, 1133, 1075, 1216, 1030, 1062, 1103, 1081, 1022, 5028].filterMap zpl) := by decide +kernel
theorem lw_rt {Γ : mG} {d : Nat} (hB : ∀ (p : Program) (R : Room) (s : State) (m : MethodId) (args : Array Value) (meth : Method) (c : Code), zCf Γ kL_law (d + 200 + 1) 0 82 7045 p R s m args meth c → s.heap.size = gB Γ) : zRt Γ kL_law (fun below args s => lw_Z below args s) (d + 200 + 1) 0 82 7045 82 7045 (fun v _ => v = .int 1) := by
  refine ⟨fun pc ls w x hd hn hq => ?_, fun pc ls w x hd hn hq => ?_, fun pc ls w v hd hn hv hq => ?_, fun pc ls w hd hn hq => ?_⟩
  · have hq : Value.int x = .int 1 := hq
    have hx1 : x = 1 := Value.int.inj hq
    subst hx1
    intro p e R s m args below meth c hC H locs lsA hP hS hl
    refine W.widen (k := 600000) (n := 7302250) (Nat.le_of_ble_eq_true rfl) (Nat.le_of_ble_eq_true rfl) ?_
    refine va_forget (fun q hq => ?_) ?_
    · have h1 : gB Γ ≤ q.base := hS.2.2 q hq
      have h2 := hB p R s m args meth c hC
      omega
    · exact lw_retV hC.1 hC.2.1 hC.2.2.2.1 hC.2.2.2.2.2.2.1 hd
  · have hq : Value.long x = .int 1 := hq
    cases hq
  · have hq : v = .int 1 := hq
    rcases hv with ⟨a, z⟩ | z
    · rw [z] at hq
      cases hq
    · rw [z] at hq
      cases hq
  · have hq : Value.null = .int 1 := hq
    cases hq
theorem zarr_int {s : State} {args : Array Value} {ty : FieldType} (h : (Cond.arrayClass ty).before args s = true) (hp : ∀ cA, va_RA s cA ty = (s.vm.findClass ("[" ++ ty.toString) = some cA)) : ∃ cA : ClassId, ArrOfT s cA ty ∧ va_RA s cA ty := by
  obtain ⟨c, k, comp, h1, h2, h3⟩ := Cond.arrayClass_spec h
  exact ⟨c, fun n z => ⟨fun k h => (by cases h), k, h2, comp, h3⟩, by rw [hp]; exact h1⟩
theorem zarr_obj {s : State} {C : String} (h : va_AO C s) : ∃ cA : ClassId, ArrOfT s cA (.object C) ∧ va_RA s cA (.object C) := by
  obtain ⟨comp, c, k, h1, h2, h3, h4, h5⟩ := Cond.arrayOver_spec h
  exact ⟨c, fun n z => ⟨fun k h => (by cases h), k, h3, comp, h4⟩, k, comp, h3, h4, h1, h5⟩
theorem whole_start {p : Program} {e : Env} {s : State} {m : MethodId} {below : List Frame} {meth : Method} {c : Code} (l : Launch) (hflags : l.flags = flags0) {b L : Nat} {xs : Nat → Int32} (hL : L ≤ 3072) (C0 : lw_At p s m meth c b L xs) : W p l e room_1 s m #[Value.ref b] below meth c s.heap [] 0 0 (lw_Z below #[Value.ref b] s) (entryFrame m ([Value.ref b] : List Value).toArray 4) := by
  obtain ⟨hx, hb, hr, hml, hown, hts, hX, hbl, hlocks, hgv, hnm⟩ := id C0
  obtain ⟨gs, hg15, hE⟩ := zOut0_start hts hgv hX hbl
  have hKc : ∀ c, ∃ q : ClassId × (Nat → Nat), c < 12 → u_Kn s (zR c) (zT c) (zN c) q.1 q.2 := by
    intro c
    by_cases hc : c < 12
    · obtain ⟨cC, iS, h⟩ := u_known (ws := zTw) (fun w hw => hts w (zTw_sub hw)) (zu_in c hc) (hts _ (zpl_mem (zinst_tbl c hc)))
      exact ⟨(cC, iS), fun _ => h⟩
    · exact ⟨(m.cls, fun _ => 0), fun h => absurd h hc⟩
  obtain ⟨gq, hgq⟩ : ∃ gq : Nat → ClassId × (Nat → Nat), ∀ c, c < 12 → u_Kn s (zR c) (zT c) (zN c) (gq c).1 (gq c).2 := ⟨fun c => Classical.choose (hKc c), fun c => Classical.choose_spec (hKc c)⟩
  obtain ⟨c0, i0⟩ := zarr_int (ty := .int) (hts _ (zlw_of (i := 1042) (by decide +kernel))) (fun _ => rfl)
  obtain ⟨c1, i1⟩ := zarr_int (ty := .boolean) (hts _ (zlw_of (i := 5175) (by decide +kernel))) (fun _ => rfl)
  obtain ⟨c2, i2⟩ := zarr_obj (hE.2.2.2.1 RX0 (Or.inl rfl))
  obtain ⟨c3, i3⟩ := zarr_obj (hE.2.2.2.1 RX5 (Or.inr (Or.inl rfl)))
  obtain ⟨c4, i4⟩ := zarr_obj (hE.2.2.2.1 RX8 (Or.inr (Or.inr rfl)))
  obtain ⟨gA0, hgA⟩ : ∃ gA0 : Nat → ClassId, gA0 0 = c0 ∧ gA0 1 = c1 ∧ gA0 2 = c2 ∧ gA0 3 = c3 ∧ gA0 4 = c4 := ⟨fun k => if k = 0 then c0 else if k = 1 then c1 else if k = 2 then c2 else if k = 3 then c3 else c4, rfl, rfl, rfl, rfl, rfl⟩
  obtain ⟨rfl, rfl, rfl, rfl, rfl⟩ := hgA
  obtain ⟨Γ, hΓ⟩ : ∃ Γ : mG, Γ = (l, (fun c => (gq c).1, fun c => (gq c).2), gA0, s.heap.size, gs, zOut0 (fun q => s.heap.size ≤ q) gs L xs, L, xs) := ⟨_, rfl⟩
  have hGE : zGE Γ := by
    subst hΓ
    exact ⟨fun s' U H hW h => zOut0.warm hW h, fun U H H1 hq h => zOut0.kept h hq, fun u U H hv h => zOut0.same hv h, fun s' H h => h.1, fun s' H h => h.2.1⟩
  have hG : zGS Γ := by
    subst hΓ
    exact fun s' H h => h.2.2.2.2
  have hI : zGI Γ := by
    subst hΓ
    exact fun s' H h => ⟨h.2.2.1, h.2.2.2.1⟩
  have hE' : gE Γ s s.heap := by
    subst hΓ
    exact hE
  have hB : gB Γ = s.heap.size := by
    subst hΓ
    rfl
  have hK : va_K (gG Γ) zC (zty Γ) s := by
    subst hΓ
    refine ⟨fun c q hq => ?_, fun k q hq => ?_⟩
    · have hc : c < 12 := (List.getElem?_eq_some_iff.mp hq).1
      rw [zC_at c hc] at hq
      have := Option.some.inj hq
      subst this
      exact hgq c hc
    · have hk : k < 5 := (List.getElem?_eq_some_iff.mp hq).1
      rcases (show k = 0 ∨ k = 1 ∨ k = 2 ∨ k = 3 ∨ k = 4 by omega) with rfl | rfl | rfl | rfl | rfl
      · cases hq; exact i0
      · cases hq; exact i1
      · cases hq; exact i2
      · cases hq; exact i3
      · cases hq; exact i4
  have hR := lw_rt (Γ := Γ) (d := 0) (fun p R s m args meth c hC => hC.2.2.2.2.2.2.2.2.2.2.2.1)
  have hNL : gN Γ ≤ 3072 := by
    subst hΓ
    exact hL
  have hV := v_lawStart (Γ := Γ) (F := fun below args s => lw_Z below args s) (d := 0) hNL hR hG hI
  have hl := lv_entry ([.ref b]) (n := 4) (Nat.le_of_ble_eq_true rfl)
  rw [lg_entry_eq]
  generalize (lg_sl ([.ref b]) ++ List.replicate (4 - (lg_sl ([.ref b])).length) Slot.unset).toArray = ls at hl ⊢
  have hl : lv_has ls 4 [(0, .ref b)] := hl
  have h15 : zv Γ (.ref 4111) = .ref b := by
    rw [show (Value.ref 4111) = .ref (4096 + 15) from rfl, zv_out]
    subst hΓ
    exact congrArg Value.ref hg15
  have hz := hV p e room_1 s m #[Value.ref b] below meth c ⟨hx, hb, hml, hr, hown, fun w hw => hts w (zTw_sub hw), hlocks, hnm, hK, hE', hGE, hB.symm, ⟨Nat.le_of_ble_eq_true rfl, Nat.le_of_ble_eq_true rfl⟩, Nat.le_of_ble_eq_true rfl, Nat.le_of_ble_eq_true rfl⟩ s.heap [] ls (fun k q h => by cases h) va_S.rf ⟨hl.1, hl.2.1, fun i v hi hv => ?_⟩
  · rw [show gL Γ = l from by subst hΓ; rfl] at hz
    exact hz
  · match i, hi with
    | 0, hi =>
      have := Option.some.inj hi
      subst this
      rw [h15]
      exact hl.2.2 (0, .ref b) List.mem_cons_self
    | 1, hi => exact absurd (Option.some.inj hi).symm hv
    | 2, hi => exact absurd (Option.some.inj hi).symm hv
    | 3, hi => exact absurd (Option.some.inj hi).symm hv
    | i + 4, hi => simp at hi
