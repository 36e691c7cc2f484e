/-! The step is sound; a block of code, and what it asks. -/
section ZR
variable {Γ : mG} {M : mM} {d n0 mc ms pc ce sl : Nat} {ls : List Value} {w : mW} {Q : Value → mW → Prop}
theorem zret_post {rt : Option FieldType} {s t : State} {H : Heap} {locs : List Loc} {v : Value} (hH : H.size = gB Γ + (n0 + ce)) (hmc : ce = mc) (hP : va_P (gG Γ) zC (zw Γ (n0 + ce) w) H) (hS : va_S (zA Γ) s.heap H locs) (ht : t.heap = H) (hq : Q v w) : zPost Γ rt (n0 + mc) Q s (.returned (match rt with | none => none | some _ => some (zv Γ v))) t := by
  subst hmc
  exact ⟨⟨v, w, rfl, hq, by rw [ht]; exact hH, by rw [ht]; exact hP⟩, hS.F ht⟩
theorem zs_iret {x : Int32} (hd : decode M.2.2.1 pc = .ok (.ireturn, 1)) (hmc : ce = mc ∧ sl ≤ ms) (hn : zNar M.2.2.2.2.1 x) (h : Q (.int x) w) : V Γ M (zF Γ M n0 mc ms Q) d n0 mc ms pc ls [.int x] w ce sl := fun p e R s m args below meth c0 hC H locs lsA hP hS hl => by
  obtain ⟨hx, hb, hml, hrt, hown, hts, hlk, hnm, hK, hE, hGE, hsz, hrm, hfr, hlo⟩ := id hC
  refine W.sz fun hz => ?_
  have hH := zH_size hsz hP hS hz
  refine W.widen (k := mc) (n := ms) (Nat.le_of_eq hmc.1) hmc.2 ?_
  cases hret : M.2.2.2.2.1 with
  | none => rw [hret] at hn; exact hn.elim
  | some ty =>
    have hnar : narrow ty (.int x) = .int x := by
      rw [hret] at hn
      cases ty with
      | int => rfl
      | boolean => rcases hn with rfl | rfl <;> rfl
      | _ => exact hn.elim
    refine W.zret (ty := ty) hx hb (hrt.trans hret) hnar (fun t ht hW => ?_) hS.2.2 hd
    have := zret_post (Γ := Γ) (rt := M.2.2.2.2.1) (v := .int x) hH hmc.1 hP hS ht h
    rw [hret] at this ⊢
    exact this
theorem zs_lret {x : Int64} (hd : decode M.2.2.1 pc = .ok (.lreturn, 1)) (hmc : ce = mc ∧ sl ≤ ms) (hn : M.2.2.2.2.1 = some .long) (h : Q (.long x) w) : V Γ M (zF Γ M n0 mc ms Q) d n0 mc ms pc ls [.long x] w ce sl := fun p e R s m args below meth c0 hC H locs lsA hP hS hl => by
  obtain ⟨hx, hb, hml, hrt, hown, hts, hlk, hnm, hK, hE, hGE, hsz, hrm, hfr, hlo⟩ := id hC
  refine W.sz fun hz => ?_
  have hH := zH_size hsz hP hS hz
  refine W.widen (k := mc) (n := ms) (Nat.le_of_eq hmc.1) hmc.2 ?_
  refine W.lret hx hb (hrt.trans hn) (fun t ht hW => ?_) hS.2.2 hd
  have := zret_post (Γ := Γ) (rt := M.2.2.2.2.1) (v := .long x) hH hmc.1 hP hS ht h
  rw [hn] at this ⊢
  exact this
theorem zs_vret (hd : decode M.2.2.1 pc = .ok (.return_, 1)) (hmc : ce = mc ∧ sl ≤ ms) (hn : M.2.2.2.2.1 = none) (h : Q .null w) : V Γ M (zF Γ M n0 mc ms Q) d n0 mc ms pc ls [] w ce sl := fun p e R s m args below meth c0 hC H locs lsA hP hS hl => by
  obtain ⟨hx, hb, hml, hrt, hown, hts, hlk, hnm, hK, hE, hGE, hsz, hrm, hfr, hlo⟩ := id hC
  refine W.sz fun hz => ?_
  have hH := zH_size hsz hP hS hz
  refine W.widen (k := mc) (n := ms) (Nat.le_of_eq hmc.1) hmc.2 ?_
  refine W.vret hx hb (hrt.trans hn) (fun t ht hW => ?_) hS.2.2 hd
  have := zret_post (Γ := Γ) (rt := M.2.2.2.2.1) (v := .null) hH hmc.1 hP hS ht h
  rw [hn] at this ⊢
  exact this
theorem zs_aret {v : Value} (hv : (∃ a, v = .ref a) ∨ v = .null) (hd : decode M.2.2.1 pc = .ok (.areturn, 1)) (hmc : ce = mc ∧ sl ≤ ms) (hn : zRfT M.2.2.2.2.1) (h : Q v w) : V Γ M (zF Γ M n0 mc ms Q) d n0 mc ms pc ls [v] w ce sl := fun p e R s m args below meth c0 hC H locs lsA hP hS hl => by
  obtain ⟨hx, hb, hml, hrt, hown, hts, hlk, hnm, hK, hE, hGE, hsz, hrm, hfr, hlo⟩ := id hC
  refine W.sz fun hz => ?_
  have hH := zH_size hsz hP hS hz
  refine W.widen (k := mc) (n := ms) (Nat.le_of_eq hmc.1) hmc.2 ?_
  cases hret : M.2.2.2.2.1 with
  | none => rw [hret] at hn; exact hn.elim
  | some ty =>
    have hty : ∃ n, ty = .object n := by
      rw [hret] at hn
      cases ty with
      | object n => exact ⟨n, rfl⟩
      | _ => exact hn.elim
    have hzv : zv Γ v = .null ∨ ∃ a, zv Γ v = .ref a := by
      rcases hv with ⟨a, rfl⟩ | rfl
      · exact Or.inr ⟨_, rfl⟩
      · exact Or.inl rfl
    refine W.aret (rt := ty) hx hb (hrt.trans hret) (Or.inl hty) hzv (fun t ht hW => ?_) hS.2.2 hd
    have := zret_post (Γ := Γ) (rt := M.2.2.2.2.1) (v := v) hH hmc.1 hP hS ht h
    rw [hret] at this ⊢
    exact this
end ZR
