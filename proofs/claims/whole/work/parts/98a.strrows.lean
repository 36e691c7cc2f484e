/-! String constants at a walk. -/
def zWX (k : Nat) : List Nat := if k < 12 then zW k else if k = 12 then [40, 41, 59, 43, 45, 42, 60, 61] else [108, 97, 121, 115, 32, 97, 103, 97, 105, 110, 115, 116, 32, 59, 32, 121, 105, 101, 108, 100, 115, 32, 49, 32, 59, 32, 100, 114, 111, 112, 115, 32, 48, 32, 59]
def zix (k : Nat) : Nat := ([73, 75, 77, 79, 81, 83, 85, 87, 89, 91, 93, 95, 58] : List Nat).getD k 0
def ztx (k : Nat) : String := (["point", "against", "holds", "number", "day", "eggs", "lays", "yields", "drops", "or", "and", "not", "();+-*<="] : List String).getD k ""
def zStr (Γ : mG) (s : State) (H : Heap) : Prop := (∀ k, k < 14 → vk_S 1 [(zWX k).length] [(zWX k).map nI] (fun _ => gS Γ k) (fun _ => gS Γ (16 + k)) (zA Γ) s H) ∧ (∀ k, k < 13 → vk_R "LaidByArgument$Tokens" (zix k) (ztx k) (gS Γ k) s) ∧ vk_R "LaidByArgument" 80 "lays against ; yields 1 ; drops 0 ;" (gS Γ 13) s ∧ va_Z "java/lang/String" "COMPACT_STRINGS" "Z" (.int 1) (zA Γ) s H ∧ (va_Z "jdk/internal/util/Preconditions" "SIOOBE_FORMATTER" "Ljava/util/function/BiFunction;" .null (zA Γ) s H ∨ va_Z "jdk/internal/util/Preconditions" "SIOOBE_FORMATTER" "Ljava/util/function/BiFunction;" (.ref (gS Γ 30)) (zA Γ) s H)
def zGS (Γ : mG) : Prop := ∀ (s : State) (H : Heap), gE Γ s H → zStr Γ s H
theorem zpl_c : zpl 2000 = some (.fieldLink "java/lang/String" 38 "java/lang/String" "COMPACT_STRINGS" "Z") := by decide +kernel
theorem zpl_f : zpl 2016 = some (.fieldLink "java/lang/String" 1053 "jdk/internal/util/Preconditions" "SIOOBE_FORMATTER" "Ljava/util/function/BiFunction;") := by decide +kernel
theorem zpl_v : zpl 7063 = some (.fieldLink "java/lang/String" 9 "java/lang/String" "value" "[B") := by decide +kernel
theorem zpl_d : zpl 7064 = some (.fieldLink "java/lang/String" 15 "java/lang/String" "coder" "B") := by decide +kernel
section ZSR
variable {Γ : mG} {M : mM} {F : mF} {d n0 mc ms pc ce sl k : Nat} {ls st : List Value} {w : mW}
theorem zv_out {Γ : mG} {k : Nat} : zv Γ (.ref (4096 + k)) = .ref (gS Γ k) := by
  show Value.ref (zl Γ (4096 + k)) = _
  rw [zl_out]
theorem zs_ldcS (hG : zGS Γ) (hM : M.2.1 = "LaidByArgument$Tokens") (hk : k < 13) (hd : decode M.2.2.1 pc = .ok (.ldc (zix k), 2)) (h : V Γ M F d n0 mc ms (pc + 2) ls (.ref (4096 + k) :: st) w ce sl) : V Γ M F d n0 mc ms pc ls st w ce sl := fun p e R s m args below meth c0 hC H locs lsA hP hS hl => by
  have hq := hG _ _ hC.2.2.2.2.2.2.2.2.2.1
  have hk2 := h p e R s m args below meth c0 hC H locs lsA hP hS hl
  rw [List.map_cons, zv_out] at hk2
  exact va_ldcS hC.1 hC.2.1 (own := "LaidByArgument$Tokens") (by rw [← hM]; exact hC.2.2.2.2.1) (hq.2.1 k hk) hd hk2
theorem zs_ldcT (hG : zGS Γ) (hM : M.2.1 = "LaidByArgument") (hd : decode M.2.2.1 pc = .ok (.ldc 80, 2)) (h : V Γ M F d n0 mc ms (pc + 2) ls (.ref 4109 :: st) w ce sl) : V Γ M F d n0 mc ms pc ls st w ce sl := fun p e R s m args below meth c0 hC H locs lsA hP hS hl => by
  have hq := hG _ _ hC.2.2.2.2.2.2.2.2.2.1
  have hk2 := h p e R s m args below meth c0 hC H locs lsA hP hS hl
  rw [List.map_cons, show (Value.ref 4109) = .ref (4096 + 13) from rfl, zv_out] at hk2
  exact va_ldcS hC.1 hC.2.1 (own := "LaidByArgument") (by rw [← hM]; exact hC.2.2.2.2.1) hq.2.2.1 hd hk2
theorem zs_gfV (hG : zGS Γ) (hM : M.2.1 = "java/lang/String") (hk : k < 14) (hd : decode M.2.2.1 pc = .ok (.getfield 9, 3)) (h : V Γ M F d n0 mc ms (pc + 3) ls (.ref (4096 + (16 + k)) :: st) w ce sl) : V Γ M F d n0 mc ms pc ls (.ref (4096 + k) :: st) w ce sl := fun p e R s m args below meth c0 hC H locs lsA hP hS hl => by
  have hq := hG _ _ hC.2.2.2.2.2.2.2.2.2.1
  have hk2 := h p e R s m args below meth c0 hC H locs lsA hP hS hl
  rw [List.map_cons, zv_out] at hk2 ⊢
  exact vk_getf hC.1 hC.2.1 ((hq.1 k hk).1 0 (by decide)).2.2.1 hS hC.2.2.2.2.1 (hC.2.2.2.2.2.1 _ (zTw_of (i := 7063) (by rw [hM]; exact zpl_v) rfl)) (fun _ h9 => h9) hd hk2
theorem zs_gfC (hG : zGS Γ) (hM : M.2.1 = "java/lang/String") (hk : k < 14) (hd : decode M.2.2.1 pc = .ok (.getfield 15, 3)) (h : V Γ M F d n0 mc ms (pc + 3) ls (.int 0 :: st) w ce sl) : V Γ M F d n0 mc ms pc ls (.ref (4096 + k) :: st) w ce sl := fun p e R s m args below meth c0 hC H locs lsA hP hS hl => by
  have hq := hG _ _ hC.2.2.2.2.2.2.2.2.2.1
  have hk2 := h p e R s m args below meth c0 hC H locs lsA hP hS hl
  rw [List.map_cons] at hk2 ⊢
  rw [zv_out]
  exact vk_getf hC.1 hC.2.1 ((hq.1 k hk).1 0 (by decide)).2.1 hS hC.2.2.2.2.1 (hC.2.2.2.2.2.1 _ (zTw_of (i := 7064) (by rw [hM]; exact zpl_d) rfl)) (fun _ h9 => h9) hd hk2
theorem zs_alenS (hG : zGS Γ) (hk : k < 14) (hd : decode M.2.2.1 pc = .ok (.arraylength, 1)) (h : V Γ M F d n0 mc ms (pc + 1) ls (.int (nI (zWX k).length) :: st) w ce sl) : V Γ M F d n0 mc ms pc ls (.ref (4096 + (16 + k)) :: st) w ce sl := fun p e R s m args below meth c0 hC H locs lsA hP hS hl => by
  have hq := hG _ _ hC.2.2.2.2.2.2.2.2.2.1
  have hk2 := h p e R s m args below meth c0 hC H locs lsA hP hS hl
  rw [List.map_cons] at hk2 ⊢
  rw [zv_out]
  exact va_tlen hC.1 hC.2.1 ((hq.1 k hk).1 0 (by decide)).2.2.2 hS (v := nI (zWX k).length) rfl hd hk2
theorem zs_baldS {i : Nat} (hG : zGS Γ) (hk : k < 14) (hi : i < (zWX k).length) (hd : decode M.2.2.1 pc = .ok (.baload, 1)) (h : V Γ M F d n0 mc ms (pc + 1) ls (.int (nI ((zWX k).getD i 0)) :: st) w ce sl) : V Γ M F d n0 mc ms pc ls (.int (nI i) :: .ref (4096 + (16 + k)) :: st) w ce sl := fun p e R s m args below meth c0 hC H locs lsA hP hS hl => by
  have hq := hG _ _ hC.2.2.2.2.2.2.2.2.2.1
  have hk2 := h p e R s m args below meth c0 hC H locs lsA hP hS hl
  have hl35 : (zWX k).length < 2 ^ 31 := by
    have : ∀ k, k < 14 → (zWX k).length < 2 ^ 31 := by decide +kernel
    exact this k hk
  rw [List.map_cons] at hk2
  rw [List.map_cons, List.map_cons, zv_out]
  refine va_tb hC.1 hC.2.1 ((hq.1 k hk).1 0 (by decide)).2.2.2 hS (i := nI i) (vp_in_nI hi hl35) (v := .int (nI ((zWX k).getD i 0))) ?_ hd hk2
  rw [nT (by omega)]
  show Value.int (((zWX k).map nI).getD i 0) = _
  rw [List.getD_eq_getElem?_getD, List.getElem?_map, List.getD_eq_getElem?_getD, List.getElem?_eq_getElem hi]
  rfl
theorem zs_gsC (hG : zGS Γ) (hM : M.2.1 = "java/lang/String") (hd : decode M.2.2.1 pc = .ok (.getstatic 38, 3)) (h : V Γ M F d n0 mc ms (pc + 3) ls (.int 1 :: st) w ce sl) : V Γ M F d n0 mc ms pc ls st w ce sl := fun p e R s m args below meth c0 hC H locs lsA hP hS hl => by
  have hq := hG _ _ hC.2.2.2.2.2.2.2.2.2.1
  have hk2 := h p e R s m args below meth c0 hC H locs lsA hP hS hl
  exact va_gets (own := M.2.1) hC.1 hC.2.1 hq.2.2.2.1 hS hC.2.2.2.2.1 (hC.2.2.2.2.2.1 _ (zTw_of (i := 2000) (by rw [hM]; exact zpl_c) rfl)) (fun _ h9 => h9) hd hk2
theorem zs_gsF (hG : zGS Γ) (hM : M.2.1 = "java/lang/String") (hd : decode M.2.2.1 pc = .ok (.getstatic 1053, 3)) (h0 : V Γ M F d n0 mc ms (pc + 3) ls (.null :: st) w ce sl) (h1 : V Γ M F d n0 mc ms (pc + 3) ls (.ref 4126 :: st) w ce sl) : V Γ M F d n0 mc ms pc ls st w ce sl := fun p e R s m args below meth c0 hC H locs lsA hP hS hl => by
  have hq := hG _ _ hC.2.2.2.2.2.2.2.2.2.1
  rcases hq.2.2.2.2 with hz | hz
  · exact va_gets (own := M.2.1) hC.1 hC.2.1 hz hS hC.2.2.2.2.1 (hC.2.2.2.2.2.1 _ (zTw_of (i := 2016) (by rw [hM]; exact zpl_f) rfl)) (fun _ h9 => h9) hd (h0 p e R s m args below meth c0 hC H locs lsA hP hS hl)
  · have hk2 := h1 p e R s m args below meth c0 hC H locs lsA hP hS hl
    rw [List.map_cons, show (Value.ref 4126) = .ref (4096 + 30) from rfl, zv_out] at hk2
    exact va_gets (own := M.2.1) hC.1 hC.2.1 hz hS hC.2.2.2.2.1 (hC.2.2.2.2.2.1 _ (zTw_of (i := 2016) (by rw [hM]; exact zpl_f) rfl)) (fun _ h9 => h9) hd hk2
theorem zs_callStr {i pl mc' ms' : Nat} {N : mM} {as st' : List Value} {Q : Value → mW → Prop} (hG : zGS Γ) (hk14 : k < 14) (hd : decode M.2.2.1 pc = .ok (.invokevirtual i, 3)) (hl0 : zpl pl = some (.methodLink M.2.1 i N.1)) (hk : N.2.2.2.2.2.1 = 1) (ht : N.1.cls = "java/lang/String") (hst : st'.length ≤ 4) (has : as.length = N.2.2.2.2.2.2) (hmc : ce + mc' ≤ mc ∧ sl + ms' ≤ ms)
    (hc : Call Γ d mc' ms' N (.ref (4096 + k) :: as) (n0 + ce) w Q) (h : ∀ x w', Q x w' → V Γ M F (d + 1) n0 mc ms (pc + 3) ls (match N.2.2.2.2.1 with | none => st' | some _ => x :: st') w' (ce + mc') (sl + ms')) : V Γ M F (d + 1) n0 mc ms pc ls (as.reverse ++ .ref (4096 + k) :: st') w ce sl := fun p e R s m args below meth c0 hC H locs lsA hP hS hl => by
  obtain ⟨hx, hb, hml, hrt, hown, hts, hlk, hnm, hK, hE, hGE, hsz, hrm, hfr, hlo⟩ := id hC
  obtain ⟨hN, hcM⟩ := hc
  obtain ⟨hN1, hN2, hN3, hN4, -, hN5⟩ := id hN
  obtain ⟨hN6, hN7⟩ := hN5 hk
  refine W.sz fun hz => ?_
  have hH := zH_size hsz hP hS hz
  have hMet := hcM { frames := d, cells := mc', slots := ms', locals := 64 * d } rfl rfl (Nat.le_refl _) (Nat.le_refl _)
  have est : (as.reverse ++ .ref (4096 + k) :: st').map (zv Γ) = (as.map (zv Γ)).reverse ++ .ref (gS Γ k) :: st'.map (zv Γ) := by
    rw [List.map_append, List.map_reverse, List.map_cons, zv_out]
  rw [est]
  have eas : (Value.ref (4096 + k) :: as).map (zv Γ) = .ref (gS Γ k) :: as.map (zv Γ) := by rw [List.map_cons, zv_out]
  have hrec : ∃ cell : Cell, H[gS Γ k]? = some cell ∧ cell.vm.isStatics = false ∧ s.vm.findClass N.1.cls = some cell.cls := by
    rw [ht]
    exact vk_recv (i := 0) ((hG _ _ hE).1 k hk14) (by decide) hS
  refine zs_back (N := N) (Q := Q) (a := #[]) hC hH hS hl (va_runV (As := as.map (zv Γ)) (n := N.2.2.2.2.2.2) ⟨hx, hb, hml, hown, hts⟩ hMet (cwV _ hts (goodIn_zTw fun w hw => ?_) rfl rfl rfl ⟨rfl, hN3.1, hN3.2.1, hN3.2.2⟩ ⟨hfr, by show 8 + (N.2.2.2.1 + 11) + 64 * d ≤ R.locals; omega⟩) ⟨zPre.blind, hrec, fun U hU hW => ?_⟩ rfl (by rw [List.length_map]; exact has) hl.1 rfl (lv_room (zv_rest st' hst)) hd ⟨Nat.le_trans hmc.1 hrm.1, Nat.le_trans hmc.2 hrm.2⟩) h
  · rcases List.mem_append.mp hw with h5 | h5
    · simp only [List.mem_cons, List.not_mem_nil, or_false] at h5
      rcases h5 with rfl | rfl | rfl | rfl
      · exact zTw_of hl0 rfl
      · exact hN6
      · exact hN7
      · exact hN2
    · exact zws_in hN w h5
  · refine ⟨by rw [eas], by rw [hU]; exact hH, by rw [hU]; exact hP, va_K.moved hW.alike hK, ?_, hGE⟩
    rw [hU]
    exact hGE.1 s U H hW (hGE.2.1 s s.heap H hS.2.1 hE)
end ZSR
