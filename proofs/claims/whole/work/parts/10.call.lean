/-! Calls, copies, returns. -/
theorem goodIn_zTw {ws : List Cond} (h : ∀ w ∈ ws, w ∈ zTw) : GoodIn zTw ws := fun w hw => zTw_good w (h w hw)
theorem zws_in {N : mM} (h : zMok N) : ∀ w ∈ zws N, w ∈ zTw := fun w hw => by
  rcases List.mem_cons.mp hw with rfl | hw
  · exact h.1
  · exact hw
section ZC
variable {Γ : mG} {M : mM} {F : mF} {d n0 mc ms pc ce sl : Nat} {ls st : List Value} {w : mW}
theorem zH_size {Γ : mG} {n0 ce : Nat} {w : mW} {s : State} {H : Heap} {locs : List Loc} (hs : s.heap.size = gB Γ + n0) (hP : va_P (gG Γ) zC (zw Γ (n0 + ce) w) H) (hS : va_S (zA Γ) s.heap H locs) (hz : H.size ≤ s.heap.size + ce) : H.size = gB Γ + (n0 + ce) := by
  have h1 := zw_size hP (Nat.le_trans (by rw [hs]; exact Nat.le_add_right _ _) hS.1)
  omega
theorem zv_rest (l : List Value) (h : l.length ≤ 4) : ((l.map (zv Γ)).map fun v => v.category).sum ≤ 8 := by
  have hc : ∀ v : Value, (zv Γ v).category ≤ 2 := fun v => by rcases lv_cat (zv Γ v) with q | q <;> omega
  match l, h with
  | [], _ => simp
  | [a], _ => have := hc a; simp; omega
  | [a, b], _ => have := hc a; have := hc b; simp; omega
  | [a, b, c], _ => have := hc a; have := hc b; have := hc c; simp; omega
  | [a, b, c, e], _ => have := hc a; have := hc b; have := hc c; have := hc e; simp; omega
/-- behind a call -/
theorem zs_back {p : Program} {e : Env} {R : Room} {s : State} {m : MethodId} {args : Array Value} {below : List Frame} {meth : Method} {c : Code} {H : Heap} {locs : List Loc} {lsA : Array Slot} {mc' ms' : Nat} {N : mM} {Q : Value → mW → Prop} {st0 st' : List Value} {a : Array Value}
    (hC : zCf Γ M d n0 mc ms p R s m args meth c) (hH : H.size = gB Γ + (n0 + ce)) (hS : va_S (zA Γ) s.heap H locs) (hl : zlo Γ lsA M.2.2.2.1 ls)
    (hr : va_Run p (gL Γ) e R s m args below meth c H locs ce sl mc' ms' (F0 m pc lsA st0) (st'.map (zv Γ)) (fun st o t => zPost Γ N.2.2.2.2.1 ((n0 + ce) + mc') Q st o t) (zA Γ))
    (h : ∀ x w', Q x w' → V Γ M F d n0 mc ms (pc + 3) ls (match N.2.2.2.2.1 with | none => st' | some _ => x :: st') w' (ce + mc') (sl + ms')) : W p (gL Γ) e R s m args below meth c H locs ce sl (F below args s) (F0 m pc lsA st0) := by
  intro T hT X
  obtain ⟨v, st₀, t, T', L, h0, X', hL, e1, e2, ⟨⟨x, w', hv, hq, hz, hP1⟩, hF⟩, st⟩ := hr T hT X
  have hv2 : v = (match N.2.2.2.2.1 with | none => none | some _ => some (zv Γ x)) := Outcome.returned.inj hv
  have hk := h x w' hq p e R s m args below meth c hC T'.heap (locs ++ L) lsA (by rw [e1, Nat.add_assoc] at *; exact hP1) ?_ hl
  · obtain ⟨t2, a1, b1⟩ := hk T' rfl X'
    refine ⟨t2, st t2 ?_, b1⟩
    rw [hv2]
    cases hret : N.2.2.2.2.1 with
    | none => rw [hret] at a1; exact a1
    | some ty => rw [hret] at a1; exact a1
  · refine ⟨?_, fun q h1 h2 => ?_, fun q hq => ?_⟩
    · have h9 := hS.1
      rw [hH] at h9
      rw [e1, hz]
      omega
    · rw [e1, hF.2 q (by rw [h0]; exact Nat.lt_of_lt_of_le h1 hS.1) h2, h0]; exact hS.2.1 q h1 h2
    · rcases List.mem_append.mp hq with h | h
      · exact hS.2.2 q h
      · exact hL q h
theorem zs_callV {i pl t a mc' ms' : Nat} {N : mM} {as st' : List Value} {Q : Value → mW → Prop} (hd : decode M.2.2.1 pc = .ok (.invokevirtual i, 3)) (hl0 : zpl pl = some (.methodLink M.2.1 i N.1)) (hk : N.2.2.2.2.2.1 = 1) (ht : zR t = N.1.cls) (ho : zOb (n0 + ce) a t) (hst : st'.length ≤ 4) (has : as.length = N.2.2.2.2.2.2) (hmc : ce + mc' ≤ mc ∧ sl + ms' ≤ ms)
    (hc : Call Γ d mc' ms' N (.ref a :: as) (n0 + ce) w Q) (h : ∀ x w', Q x w' → V Γ M F (d + 1) n0 mc ms (pc + 3) ls (match N.2.2.2.2.1 with | none => st' | some _ => x :: st') w' (ce + mc') (sl + ms')) : V Γ M F (d + 1) n0 mc ms pc ls (as.reverse ++ .ref a :: st') w ce sl := fun p e R s m args below meth c0 hC H locs lsA hP hS hl => by
  obtain ⟨hx, hb, hml, hrt, hown, hts, hlk, hnm, hK, hE, hGE, hsz, hrm, hfr, hlo⟩ := id hC
  obtain ⟨hN, hcM⟩ := hc
  obtain ⟨hN1, hN2, hN3, hN4, -, hN5⟩ := id hN
  obtain ⟨hN6, hN7⟩ := hN5 hk
  refine W.sz fun hz => ?_
  have hH := zH_size hsz hP hS hz
  have ha : a < 4096 := Nat.lt_trans (zOb_lt ho) (by decide)
  obtain ⟨-, ht12⟩ := zOb_n ho
  have hMet := hcM { frames := d, cells := mc', slots := ms', locals := 64 * d } rfl rfl (Nat.le_refl _) (Nat.le_refl _)
  have est : (as.reverse ++ .ref a :: st').map (zv Γ) = (as.map (zv Γ)).reverse ++ .ref (gB Γ + a) :: st'.map (zv Γ) := by
    rw [List.map_append, List.map_reverse, List.map_cons, zv_ref ha]
  rw [est]
  have eas : (Value.ref a :: as).map (zv Γ) = .ref (gB Γ + a) :: as.map (zv Γ) := by rw [List.map_cons, zv_ref ha]
  have hrec : ∃ cell : Cell, H[gB Γ + a]? = some cell ∧ cell.vm.isStatics = false ∧ s.vm.findClass N.1.cls = some cell.cls := by
    rw [← ht]
    exact va_recv hK hP (zC_of ht12) (zOb_at ho)
  refine zs_back (N := N) (Q := Q) (a := #[]) hC hH hS hl (va_runV (As := as.map (zv Γ)) (n := N.2.2.2.2.2.2) ⟨hx, hb, hml, hown, hts⟩ hMet (cwV _ hts (goodIn_zTw fun w hw => ?_) rfl rfl rfl ⟨rfl, hN3.1, hN3.2.1, hN3.2.2⟩ ⟨hfr, by show 8 + (N.2.2.2.1 + 11) + 64 * d ≤ R.locals; omega⟩) ⟨zPre.blind, hrec, fun U hU hW => ?_⟩ rfl (by rw [List.length_map]; exact has) hl.1 rfl (lv_room (zv_rest st' hst)) hd ⟨Nat.le_trans hmc.1 hrm.1, Nat.le_trans hmc.2 hrm.2⟩) h
  · rcases List.mem_append.mp hw with h5 | h5
    · simp only [List.mem_cons, List.not_mem_nil, or_false] at h5
      rcases h5 with rfl | rfl | rfl | rfl
      · exact zTw_of hl0 rfl
      · exact hN6
      · exact hN7
      · exact hN2
    · exact zws_in hN w h5
  · refine ⟨by rw [eas], by rw [hU]; exact hH, by rw [hU]; exact hP, va_K.moved hW.alike hK, ?_, hGE⟩
    rw [hU]
    exact hGE.1 s U H hW (hGE.2.1 s s.heap H hS.2.1 hE)
theorem zs_callS {i pl mc' ms' : Nat} {N : mM} {as st' : List Value} {Q : Value → mW → Prop} (hd : decode M.2.2.1 pc = .ok (.invokestatic i, 3)) (hl0 : zpl pl = some (.methodLink M.2.1 i N.1)) (hk : N.2.2.2.2.2.1 = 0) (hst : st'.length ≤ 4) (has : as.length = N.2.2.2.2.2.2) (hmc : ce + mc' ≤ mc ∧ sl + ms' ≤ ms)
    (hc : Call Γ d mc' ms' N as (n0 + ce) w Q) (h : ∀ x w', Q x w' → V Γ M F (d + 1) n0 mc ms (pc + 3) ls (match N.2.2.2.2.1 with | none => st' | some _ => x :: st') w' (ce + mc') (sl + ms')) : V Γ M F (d + 1) n0 mc ms pc ls (as.reverse ++ st') w ce sl := fun p e R s m args below meth c0 hC H locs lsA hP hS hl => by
  obtain ⟨hx, hb, hml, hrt, hown, hts, hlk, hnm, hK, hE, hGE, hsz, hrm, hfr, hlo⟩ := id hC
  obtain ⟨hN, hcM⟩ := hc
  obtain ⟨hN1, hN2, hN3, hN4, hN5, -⟩ := id hN
  refine W.sz fun hz => ?_
  have hH := zH_size hsz hP hS hz
  have hMet := hcM { frames := d, cells := mc', slots := ms', locals := 64 * d } rfl rfl (Nat.le_refl _) (Nat.le_refl _)
  have est : (as.reverse ++ st').map (zv Γ) = (as.map (zv Γ)).reverse ++ st'.map (zv Γ) := by
    rw [List.map_append, List.map_reverse]
  rw [est]
  refine zs_back (N := N) (Q := Q) (a := #[]) hC hH hS hl (va_runS (As := as.map (zv Γ)) (n := N.2.2.2.2.2.2) ⟨hx, hb, hml, hown, hts⟩ hMet (va_cwS _ hts (goodIn_zTw fun w hw => ?_) rfl rfl rfl ⟨hN3.1, hN3.2.1, hN3.2.2⟩ ⟨hfr, by show 8 + (N.2.2.2.1 + 11) + 64 * d ≤ R.locals; omega⟩) ⟨zPre.blind, fun U hU hW => ?_⟩ rfl (by rw [List.length_map]; exact has) hl.1 rfl (lv_room (zv_rest st' hst)) hd ⟨Nat.le_trans hmc.1 hrm.1, Nat.le_trans hmc.2 hrm.2⟩) h
  · rcases List.mem_append.mp hw with h5 | h5
    · simp only [List.mem_cons, List.not_mem_nil, or_false] at h5
      rcases h5 with rfl | rfl | rfl
      · exact zTw_of hl0 rfl
      · exact hN5 hk
      · exact hN2
    · exact zws_in hN w h5
  · refine ⟨rfl, by rw [hU]; exact hH, by rw [hU]; exact hP, va_K.moved hW.alike hK, ?_, hGE⟩
    rw [hU]
    exact hGE.1 s U H hW (hGE.2.1 s s.heap H hS.2.1 hE)
theorem zs_callSN {i mc' ms' : Nat} {N : mM} {as st' : List Value} {Q : Value → mW → Prop} (hd : decode M.2.2.1 pc = .ok (.invokestatic i, 3)) (hl0 : (M.2.1, i, N.1) ∈ zNests) (hk : N.2.2.2.2.2.1 = 0) (hst : st'.length ≤ 4) (has : as.length = N.2.2.2.2.2.2) (hmc : ce + mc' ≤ mc ∧ sl + ms' ≤ ms)
    (hc : Call Γ d mc' ms' N as (n0 + ce) w Q) (h : ∀ x w', Q x w' → V Γ M F (d + 1) n0 mc ms (pc + 3) ls (match N.2.2.2.2.1 with | none => st' | some _ => x :: st') w' (ce + mc') (sl + ms')) : V Γ M F (d + 1) n0 mc ms pc ls (as.reverse ++ st') w ce sl := fun p e R s m args below meth c0 hC H locs lsA hP hS hl => by
  obtain ⟨hx, hb, hml, hrt, hown, hts, hlk, hnm, hK, hE, hGE, hsz, hrm, hfr, hlo⟩ := id hC
  obtain ⟨hN, hcM⟩ := hc
  obtain ⟨hN1, hN2, hN3, hN4, hN5, -⟩ := id hN
  refine W.sz fun hz => ?_
  have hH := zH_size hsz hP hS hz
  have hMet := hcM { frames := d, cells := mc', slots := ms', locals := 64 * d } rfl rfl (Nat.le_refl _) (Nat.le_refl _)
  have est : (as.reverse ++ st').map (zv Γ) = (as.map (zv Γ)).reverse ++ st'.map (zv Γ) := by
    rw [List.map_append, List.map_reverse]
  rw [est]
  have hnest := hGE.2.2.2.2 _ _ hE _ hl0
  refine zs_back (N := N) (Q := Q) (a := #[]) hC hH hS hl (va_runSN (host := "LaidByArgument") (As := as.map (zv Γ)) (n := N.2.2.2.2.2.2) ⟨hx, hb, hml, hown, hts⟩ hMet ⟨va_cnB _ hts (goodIn_zTw (zws_in hN)) rfl rfl rfl hnest (hts _ hN2) ⟨hN3.1, hN3.2.1, hN3.2.2⟩ ⟨hfr, by show 8 + (N.2.2.2.1 + 11) + 64 * d ≤ R.locals; omega⟩, hts _ (hN5 hk), trivial⟩ ⟨zPre.blind, fun U hU hW => ?_⟩ rfl (by rw [List.length_map]; exact has) hl.1 rfl (lv_room (zv_rest st' hst)) hd ⟨Nat.le_trans hmc.1 hrm.1, Nat.le_trans hmc.2 hrm.2⟩) h
  refine ⟨rfl, by rw [hU]; exact hH, by rw [hU]; exact hP, va_K.moved hW.alike hK, ?_, hGE⟩
  rw [hU]
  exact hGE.1 s U H hW (hGE.2.1 s s.heap H hS.2.1 hE)
theorem zs_copy {i pl a b : Nat} {sp dp n : Int32} (hnx : n0 + ce ≤ 4096) (hd : decode M.2.2.1 pc = .ok (.invokestatic i, 3)) (hl0 : zpl pl = some (.methodLink M.2.1 i arraycopyName)) (hw1 : Cond.native arraycopyName ∈ zTw ∧ Cond.static arraycopyName ∈ zTw ∧ Cond.initialized "java/lang/System" ∈ zTw) (ho : zAr (n0 + ce) a 0) (ho2 : zAr (n0 + ce) b 0) (hq : 0 ≤ sp ∧ 0 ≤ dp ∧ 0 ≤ n ∧ sp.toNatClampNeg + n.toNatClampNeg ≤ (zL a).2 ∧ dp.toNatClampNeg + n.toNatClampNeg ≤ (zL b).2) (hst : st.length ≤ 4)
    (h : V Γ M F (d + 1) n0 mc ms (pc + 3) ls st (sa w b (va_cpy (w.2.1 a) (w.2.1 b) sp.toNatClampNeg dp.toNatClampNeg n.toNatClampNeg)) ce sl) : V Γ M F (d + 1) n0 mc ms pc ls (.int n :: .int dp :: .ref b :: .int sp :: .ref a :: st) w ce sl := fun p e R s m args below meth c0 hC H locs lsA hP hS hl => by
  obtain ⟨hx, hb, hml, hrt, hown, hts, hlk, hnm, hK, hE, hGE, hsz, hrm, hfr, hlo⟩ := id hC
  have h1 := ho.1
  have h2 := ho2.1
  rw [List.map_cons, List.map_cons, List.map_cons, List.map_cons, List.map_cons, zv_ref (show a < 4096 by omega), zv_ref (show b < 4096 by omega)]
  have hr := zv_rest (Γ := Γ) st hst
  refine va_copyi (D := gG Γ) (ty := .int) hx hb (hml.trans hl.1.symm) hown (hts _ (zTw_of hl0 rfl)) (hts _ hw1.1) (hts _ hw1.2.1) (hts _ hw1.2.2) hK hP zw_D hS a b 0 0 (zAr_at ho (by decide)) (zAr_at ho2 (by decide)) rfl rfl rfl (Int32.not_lt.mpr hq.1) (Int32.not_lt.mpr hq.2.1) (Int32.not_lt.mpr hq.2.2.1) hq.2.2.2.1 hq.2.2.2.2 (fun i _ => rfl) (by omega) ?_ hd (fun H1 locs1 hP1 hD1 hS1 => ?_)
  · have e : nativeFrameWords "java/lang/System" "arraycopy" 5 ≤ 40 := by decide +kernel
    omega
  · rw [zw_row ho2.2 (by decide)] at hP1
    exact h p e R s m args below meth c0 hC H1 locs1 lsA hP1 hS1 hl
theorem zs_mmin {i pl : Nat} {x y : Int32} (hd : decode M.2.2.1 pc = .ok (.invokestatic i, 3)) (hl0 : zpl pl = some (.methodLink M.2.1 i Lib.Math.min.name)) (hw1 : Cond.static Lib.Math.min.name ∈ zTw ∧ Cond.initialized "java/lang/Math" ∈ zTw ∧ Cond.code Lib.Math.min.name Lib.Math.min.code 2 (some .int) ∈ zTw) (hmc : ce ≤ mc ∧ sl ≤ ms) (hst : st.length ≤ 4)
    (h : V Γ M F (d + 1) n0 mc ms (pc + 3) ls (.int (if y < x then y else x) :: st) w ce sl) : V Γ M F (d + 1) n0 mc ms pc ls (.int y :: .int x :: st) w ce sl := fun p e R s m args below meth c0 hC H locs lsA hP hS hl => by
  obtain ⟨hx, hb, hml, hrt, hown, hts, hlk, hnm, hK, hE, hGE, hsz, hrm, hfr, hlo⟩ := id hC
  have hr := zv_rest (Γ := Γ) st hst
  exact va_mmin hx hb (hml.trans hl.1.symm) hown (hts _ (zTw_of hl0 rfl)) (hts _ hw1.1) (hts _ hw1.2.1) (hts _ hw1.2.2) (by omega) (by omega) (Nat.le_trans hmc.1 hrm.1) (Nat.le_trans hmc.2 hrm.2) hd (h p e R s m args below meth c0 hC H locs lsA hP hS hl)
theorem zs_mmax {i pl : Nat} {x y : Int32} (hd : decode M.2.2.1 pc = .ok (.invokestatic i, 3)) (hl0 : zpl pl = some (.methodLink M.2.1 i Lib.Math.max.name)) (hw1 : Cond.static Lib.Math.max.name ∈ zTw ∧ Cond.initialized "java/lang/Math" ∈ zTw ∧ Cond.code Lib.Math.max.name Lib.Math.max.code 2 (some .int) ∈ zTw) (hmc : ce ≤ mc ∧ sl ≤ ms) (hst : st.length ≤ 4)
    (h : V Γ M F (d + 1) n0 mc ms (pc + 3) ls (.int (if x < y then y else x) :: st) w ce sl) : V Γ M F (d + 1) n0 mc ms pc ls (.int y :: .int x :: st) w ce sl := fun p e R s m args below meth c0 hC H locs lsA hP hS hl => by
  obtain ⟨hx, hb, hml, hrt, hown, hts, hlk, hnm, hK, hE, hGE, hsz, hrm, hfr, hlo⟩ := id hC
  have hr := zv_rest (Γ := Γ) st hst
  exact va_mmax hx hb (hml.trans hl.1.symm) hown (hts _ (zTw_of hl0 rfl)) (hts _ hw1.1) (hts _ hw1.2.1) (hts _ hw1.2.2) (by omega) (by omega) (Nat.le_trans hmc.1 hrm.1) (Nat.le_trans hmc.2 hrm.2) hd (h p e R s m args below meth c0 hC H locs lsA hP hS hl)
end ZC
