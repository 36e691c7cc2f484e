/-! rule() with five on the stack below. -/
section C8
variable {Γ : mG} {M : mM} {F : mF} {d n0 mc ms pc ce sl : Nat} {ls : List Value} {w : mW}
theorem zs_callV8 {i pl t a mc' ms' : Nat} {N : mM} {as st' : List Value} {Q : Value → mW → Prop} (hd : decode M.2.2.1 pc = .ok (.invokevirtual i, 3)) (hl0 : zpl pl = some (.methodLink M.2.1 i N.1)) (hk : N.2.2.2.2.2.1 = 1) (ht : zR t = N.1.cls) (ho : zOb (n0 + ce) a t) (hst : ((st'.map (zv Γ)).map fun v => v.category).sum ≤ 8) (has : as.length = N.2.2.2.2.2.2) (hmc : ce + mc' ≤ mc ∧ sl + ms' ≤ ms)
    (hc : Call Γ d mc' ms' N (.ref a :: as) (n0 + ce) w Q) (h : ∀ x w', Q x w' → V Γ M F (d + 1) n0 mc ms (pc + 3) ls (match N.2.2.2.2.1 with | none => st' | some _ => x :: st') w' (ce + mc') (sl + ms')) : V Γ M F (d + 1) n0 mc ms pc ls (as.reverse ++ .ref a :: st') w ce sl := fun p e R s m args below meth c0 hC H locs lsA hP hS hl => by
  obtain ⟨hx, hb, hml, hrt, hown, hts, hlk, hnm, hK, hE, hGE, hsz, hrm, hfr, hlo⟩ := id hC
  obtain ⟨hN, hcM⟩ := hc
  obtain ⟨hN1, hN2, hN3, hN4, -, hN5⟩ := id hN
  obtain ⟨hN6, hN7⟩ := hN5 hk
  refine W.sz fun hz => ?_
  have hH := zH_size hsz hP hS hz
  have ha : a < 4096 := Nat.lt_trans (zOb_lt ho) (by decide)
  obtain ⟨-, ht12⟩ := zOb_n ho
  have hMet := hcM { frames := d, cells := mc', slots := ms', locals := 64 * d } rfl rfl (Nat.le_refl _) (Nat.le_refl _)
  have est : (as.reverse ++ .ref a :: st').map (zv Γ) = (as.map (zv Γ)).reverse ++ .ref (gB Γ + a) :: st'.map (zv Γ) := by
    rw [List.map_append, List.map_reverse, List.map_cons, zv_ref ha]
  rw [est]
  have eas : (Value.ref a :: as).map (zv Γ) = .ref (gB Γ + a) :: as.map (zv Γ) := by rw [List.map_cons, zv_ref ha]
  have hrec : ∃ cell : Cell, H[gB Γ + a]? = some cell ∧ cell.vm.isStatics = false ∧ s.vm.findClass N.1.cls = some cell.cls := by
    rw [← ht]
    exact va_recv hK hP (zC_of ht12) (zOb_at ho)
  refine zs_back (N := N) (Q := Q) (a := #[]) hC hH hS hl (va_runV (As := as.map (zv Γ)) (n := N.2.2.2.2.2.2) ⟨hx, hb, hml, hown, hts⟩ hMet (cwV _ hts (goodIn_zTw fun w hw => ?_) rfl rfl rfl ⟨rfl, hN3.1, hN3.2.1, hN3.2.2⟩ ⟨hfr, by show 8 + (N.2.2.2.1 + 11) + 64 * d ≤ R.locals; omega⟩) ⟨zPre.blind, hrec, fun U hU hW => ?_⟩ rfl (by rw [List.length_map]; exact has) hl.1 rfl (lv_room hst) hd ⟨Nat.le_trans hmc.1 hrm.1, Nat.le_trans hmc.2 hrm.2⟩) h
  · rcases List.mem_append.mp hw with h5 | h5
    · simp only [List.mem_cons, List.not_mem_nil, or_false] at h5
      rcases h5 with rfl | rfl | rfl | rfl
      · exact zTw_of hl0 rfl
      · exact hN6
      · exact hN7
      · exact hN2
    · exact zws_in hN w h5
  · refine ⟨by rw [eas], by rw [hU]; exact hH, by rw [hU]; exact hP, va_K.moved hW.alike hK, ?_, hGE⟩
    rw [hU]
    exact hGE.1 s U H hW (hGE.2.1 s s.heap H hS.2.1 hE)
theorem zs_rule8 {n : Nat} {st' : List Value} (hd : decode M.2.2.1 pc = .ok (.invokevirtual 157, 3)) (hM : M.2.1 = RX10) (hst : ((st'.map (zv Γ)).map fun v => v.category).sum ≤ 8) (hw : w.1 = zr0) (hn : w.2.1 0 13 = nI n) (hn6 : n < 6)
    (h : V Γ M F (d + 2) 82 0 0 (pc + 3) ls (.ref (41 + 3 * n) :: st') w 0 0) : V Γ M F (d + 2) 82 0 0 pc ls (.ref 0 :: st') w 0 0 :=
  zs_callV8 (N := kX10_rule) (as := []) (Q := fun x w' => x = .ref (41 + 3 * n) ∧ w' = w) (pl := 3107) (t := 10) hd (by rw [hM]; decide +kernel) rfl rfl (zob_d rfl) hst rfl ⟨Nat.le_refl _, Nat.le_refl _⟩ (c_rule hw hn hn6 ⟨rfl, rfl⟩) (fun x w' q => by
    obtain ⟨rfl, rfl⟩ := q
    exact h)
end C8
