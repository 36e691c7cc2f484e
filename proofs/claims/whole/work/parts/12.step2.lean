theorem zcopy_ok : Cond.native arraycopyName ∈ zTw ∧ Cond.static arraycopyName ∈ zTw ∧ Cond.initialized "java/lang/System" ∈ zTw := ⟨zTw_of (i := 3017) (by decide +kernel) rfl, zTw_of (i := 3016) (by decide +kernel) rfl, zTw_of (i := 1018) (by decide +kernel) rfl⟩
theorem zmin_ok : Cond.static Lib.Math.min.name ∈ zTw ∧ Cond.initialized "java/lang/Math" ∈ zTw ∧ Cond.code Lib.Math.min.name Lib.Math.min.code 2 (some .int) ∈ zTw := ⟨zTw_of (i := 2127) (by decide +kernel) rfl, zTw_of (i := 1016) (by decide +kernel) rfl, zTw_of (i := 2128) (by decide +kernel) rfl⟩
theorem zmax_ok : Cond.static Lib.Math.max.name ∈ zTw ∧ Cond.initialized "java/lang/Math" ∈ zTw ∧ Cond.code Lib.Math.max.name Lib.Math.max.code 2 (some .int) ∈ zTw := ⟨zTw_of (i := 2124) (by decide +kernel) rfl, zTw_of (i := 1016) (by decide +kernel) rfl, zTw_of (i := 2125) (by decide +kernel) rfl⟩
theorem z_and {a b : Bool} (h : (a && b) = true) : a = true ∧ b = true := by rw [Bool.and_eq_true] at h; exact h
theorem z_d {p : Prop} [Decidable p] (h : decide p = true) : p := of_decide_eq_true h
/-- the returns of a walk -/
def zRt (Γ : mG) (M : mM) (F : mF) (d n0 mc ms ce sl : Nat) (Rt : Value → mW → Prop) : Prop :=
  (∀ pc ls w x, decode M.2.2.1 pc = .ok (.ireturn, 1) → zNar M.2.2.2.2.1 x → Rt (.int x) w → V Γ M F d n0 mc ms pc ls [.int x] w ce sl) ∧
  (∀ pc ls w x, decode M.2.2.1 pc = .ok (.lreturn, 1) → M.2.2.2.2.1 = some .long → Rt (.long x) w → V Γ M F d n0 mc ms pc ls [.long x] w ce sl) ∧
  (∀ pc ls w v, decode M.2.2.1 pc = .ok (.areturn, 1) → zRfT M.2.2.2.2.1 → ((∃ a, v = .ref a) ∨ v = .null) → Rt v w → V Γ M F d n0 mc ms pc ls [v] w ce sl) ∧
  (∀ pc ls w, decode M.2.2.1 pc = .ok (.return_, 1) → M.2.2.2.2.1 = none → Rt .null w → V Γ M F d n0 mc ms pc ls [] w ce sl)
theorem zRt_m {Γ : mG} {M : mM} {d n0 mc ms ce sl : Nat} {Q : Value → mW → Prop} (h : ce = mc ∧ sl ≤ ms) : zRt Γ M (zF Γ M n0 mc ms Q) d n0 mc ms ce sl Q :=
  ⟨fun _ _ _ _ hd hn hq => zs_iret hd h hn hq, fun _ _ _ _ hd hn hq => zs_lret hd h hn hq, fun _ _ _ _ hd hn hv hq => zs_aret hv hd h hn hq, fun _ _ _ hd hn hq => zs_vret hd h hn hq⟩
section ZX
variable {Γ : mG} {M : mM} {F : mF} {d n0 mc ms pc ce sl len t : Nat} {tg : List Nat} {v : Int32} {u : Int64} {N : mM} {K : List Value → List Value → mW → Prop} {T : Nat → List Value → List Value → mW → Prop} {Rt : Value → mW → Prop} {ls st : List Value} {w : mW}
theorem zI_of {ls : List Value} {i : Nat} {f : Int32 → Prop} (h : zI ls i f) : ∃ x, ls[i]? = some (.int x) ∧ f x := by
  unfold zI at h
  split at h
  · exact ⟨_, by assumption, h⟩
  · exact h.elim
theorem zJ_of {ls : List Value} {i : Nat} {f : Int64 → Prop} (h : zJ ls i f) : ∃ x, ls[i]? = some (.long x) ∧ f x := by
  unfold zJ at h
  split at h
  · exact ⟨_, by assumption, h⟩
  · exact h.elim
theorem zQ_of {v : Option Value} {f : Value → Prop} (h : zQ v f) : (∃ a, v = some (.ref a) ∧ f (.ref a)) ∨ (v = some .null ∧ f .null) := by
  unfold zQ at h
  split at h
  · exact Or.inl ⟨_, rfl, h⟩
  · exact Or.inr ⟨rfl, h⟩
  · exact h.elim
theorem zt_split {st : List Value} {n : Nat} (h : n ≤ st.length) : ((st.take n).reverse).reverse ++ st.drop n = st ∧ ((st.take n).reverse).length = n := by
  rw [List.reverse_reverse, List.take_append_drop]
  simp [h]

theorem zx_iconst {n : Int} (hd : decode M.2.2.1 pc = .ok (.iconst n, len)) (hz : zlenI (.iconst n) = 0 ∨ len = zlenI (.iconst n)) (hr : zres M.2.1 M.2.2.2.1 (.iconst n) pc t tg v u N = true) (hnx : n0 + ce ≤ 4096) (hmc : ce ≤ mc ∧ sl ≤ ms) (hR : zRt Γ M F (d + 1) n0 mc ms ce sl Rt) (hK : ∀ ls st w, K ls st w → V Γ M F (d + 1) n0 mc ms (pc + len) ls st w ce sl) (hT : ∀ t ls st w, T t ls st w → V Γ M F (d + 1) n0 mc ms t ls st w ce sl) (h : zst Γ d M.2.2.2.2.1 (.iconst n) t tg v u N K T Rt ls st (n0 + ce) w) : V Γ M F (d + 1) n0 mc ms pc ls st w ce sl := by
  have hl : len = 1 := hz.resolve_left (by intro q; cases q)
  subst hl
  exact zs_iconst hd (z_d hr) (hK _ _ _ h)
theorem zx_bipush {n : Int} (hd : decode M.2.2.1 pc = .ok (.bipush n, len)) (hz : zlenI (.bipush n) = 0 ∨ len = zlenI (.bipush n)) (hr : zres M.2.1 M.2.2.2.1 (.bipush n) pc t tg v u N = true) (hnx : n0 + ce ≤ 4096) (hmc : ce ≤ mc ∧ sl ≤ ms) (hR : zRt Γ M F (d + 1) n0 mc ms ce sl Rt) (hK : ∀ ls st w, K ls st w → V Γ M F (d + 1) n0 mc ms (pc + len) ls st w ce sl) (hT : ∀ t ls st w, T t ls st w → V Γ M F (d + 1) n0 mc ms t ls st w ce sl) (h : zst Γ d M.2.2.2.2.1 (.bipush n) t tg v u N K T Rt ls st (n0 + ce) w) : V Γ M F (d + 1) n0 mc ms pc ls st w ce sl := by
  have hl : len = 2 := hz.resolve_left (by intro q; cases q)
  subst hl
  exact zs_bipush hd (z_d hr) (hK _ _ _ h)
theorem zx_sipush {n : Int} (hd : decode M.2.2.1 pc = .ok (.sipush n, len)) (hz : zlenI (.sipush n) = 0 ∨ len = zlenI (.sipush n)) (hr : zres M.2.1 M.2.2.2.1 (.sipush n) pc t tg v u N = true) (hnx : n0 + ce ≤ 4096) (hmc : ce ≤ mc ∧ sl ≤ ms) (hR : zRt Γ M F (d + 1) n0 mc ms ce sl Rt) (hK : ∀ ls st w, K ls st w → V Γ M F (d + 1) n0 mc ms (pc + len) ls st w ce sl) (hT : ∀ t ls st w, T t ls st w → V Γ M F (d + 1) n0 mc ms t ls st w ce sl) (h : zst Γ d M.2.2.2.2.1 (.sipush n) t tg v u N K T Rt ls st (n0 + ce) w) : V Γ M F (d + 1) n0 mc ms pc ls st w ce sl := by
  have hl : len = 3 := hz.resolve_left (by intro q; cases q)
  subst hl
  exact zs_sipush hd (z_d hr) (hK _ _ _ h)
theorem zx_lconst {n : Fin 2} (hd : decode M.2.2.1 pc = .ok (.lconst n, len)) (hz : zlenI (.lconst n) = 0 ∨ len = zlenI (.lconst n)) (hr : zres M.2.1 M.2.2.2.1 (.lconst n) pc t tg v u N = true) (hnx : n0 + ce ≤ 4096) (hmc : ce ≤ mc ∧ sl ≤ ms) (hR : zRt Γ M F (d + 1) n0 mc ms ce sl Rt) (hK : ∀ ls st w, K ls st w → V Γ M F (d + 1) n0 mc ms (pc + len) ls st w ce sl) (hT : ∀ t ls st w, T t ls st w → V Γ M F (d + 1) n0 mc ms t ls st w ce sl) (h : zst Γ d M.2.2.2.2.1 (.lconst n) t tg v u N K T Rt ls st (n0 + ce) w) : V Γ M F (d + 1) n0 mc ms pc ls st w ce sl := by
  have hl : len = 1 := hz.resolve_left (by intro q; cases q)
  subst hl
  exact zs_lconst hd (z_d hr) (hK _ _ _ h)
theorem zx_ldc {n : Nat} (hd : decode M.2.2.1 pc = .ok (.ldc n, len)) (hz : zlenI (.ldc n) = 0 ∨ len = zlenI (.ldc n)) (hr : zres M.2.1 M.2.2.2.1 (.ldc n) pc t tg v u N = true) (hnx : n0 + ce ≤ 4096) (hmc : ce ≤ mc ∧ sl ≤ ms) (hR : zRt Γ M F (d + 1) n0 mc ms ce sl Rt) (hK : ∀ ls st w, K ls st w → V Γ M F (d + 1) n0 mc ms (pc + len) ls st w ce sl) (hT : ∀ t ls st w, T t ls st w → V Γ M F (d + 1) n0 mc ms t ls st w ce sl) (h : zst Γ d M.2.2.2.2.1 (.ldc n) t tg v u N K T Rt ls st (n0 + ce) w) : V Γ M F (d + 1) n0 mc ms pc ls st w ce sl := by
  have hl : len = 2 := hz.resolve_left (by intro q; cases q)
  subst hl
  dsimp only [zst] at h
  cases tg with
  | nil =>
    have e : t = pc := z_d hr
    subst e
    exact hT _ _ _ _ h
  | cons pl tl => exact zs_ldc hd (z_d hr) (hK _ _ _ h)
theorem zx_ldcw {n : Nat} (hd : decode M.2.2.1 pc = .ok (.ldc_w n, len)) (hz : zlenI (.ldc_w n) = 0 ∨ len = zlenI (.ldc_w n)) (hr : zres M.2.1 M.2.2.2.1 (.ldc_w n) pc t tg v u N = true) (hnx : n0 + ce ≤ 4096) (hmc : ce ≤ mc ∧ sl ≤ ms) (hR : zRt Γ M F (d + 1) n0 mc ms ce sl Rt) (hK : ∀ ls st w, K ls st w → V Γ M F (d + 1) n0 mc ms (pc + len) ls st w ce sl) (hT : ∀ t ls st w, T t ls st w → V Γ M F (d + 1) n0 mc ms t ls st w ce sl) (h : zst Γ d M.2.2.2.2.1 (.ldc_w n) t tg v u N K T Rt ls st (n0 + ce) w) : V Γ M F (d + 1) n0 mc ms pc ls st w ce sl := by
  have hl : len = 3 := hz.resolve_left (by intro q; cases q)
  subst hl
  dsimp only [zst] at h
  cases tg with
  | nil =>
    have e : t = pc := z_d hr
    subst e
    exact hT _ _ _ _ h
  | cons pl tl => exact zs_ldcw hd (z_d hr) (hK _ _ _ h)
theorem zx_ldc2 {n : Nat} (hd : decode M.2.2.1 pc = .ok (.ldc2_w n, len)) (hz : zlenI (.ldc2_w n) = 0 ∨ len = zlenI (.ldc2_w n)) (hr : zres M.2.1 M.2.2.2.1 (.ldc2_w n) pc t tg v u N = true) (hnx : n0 + ce ≤ 4096) (hmc : ce ≤ mc ∧ sl ≤ ms) (hR : zRt Γ M F (d + 1) n0 mc ms ce sl Rt) (hK : ∀ ls st w, K ls st w → V Γ M F (d + 1) n0 mc ms (pc + len) ls st w ce sl) (hT : ∀ t ls st w, T t ls st w → V Γ M F (d + 1) n0 mc ms t ls st w ce sl) (h : zst Γ d M.2.2.2.2.1 (.ldc2_w n) t tg v u N K T Rt ls st (n0 + ce) w) : V Γ M F (d + 1) n0 mc ms pc ls st w ce sl := by
  have hl : len = 3 := hz.resolve_left (by intro q; cases q)
  subst hl
  exact zs_ldc2 hd (z_d hr) (hK _ _ _ h)
theorem zx_null  (hd : decode M.2.2.1 pc = .ok (.aconst_null, len)) (hz : zlenI (.aconst_null) = 0 ∨ len = zlenI (.aconst_null)) (hr : zres M.2.1 M.2.2.2.1 (.aconst_null) pc t tg v u N = true) (hnx : n0 + ce ≤ 4096) (hmc : ce ≤ mc ∧ sl ≤ ms) (hR : zRt Γ M F (d + 1) n0 mc ms ce sl Rt) (hK : ∀ ls st w, K ls st w → V Γ M F (d + 1) n0 mc ms (pc + len) ls st w ce sl) (hT : ∀ t ls st w, T t ls st w → V Γ M F (d + 1) n0 mc ms t ls st w ce sl) (h : zst Γ d M.2.2.2.2.1 (.aconst_null) t tg v u N K T Rt ls st (n0 + ce) w) : V Γ M F (d + 1) n0 mc ms pc ls st w ce sl := by
  have hl : len = 1 := hz.resolve_left (by intro q; cases q)
  subst hl
  exact zs_null hd (hK _ _ _ h)
theorem zx_iload {n : Nat} (hd : decode M.2.2.1 pc = .ok (.iload n, len)) (hz : zlenI (.iload n) = 0 ∨ len = zlenI (.iload n)) (hr : zres M.2.1 M.2.2.2.1 (.iload n) pc t tg v u N = true) (hnx : n0 + ce ≤ 4096) (hmc : ce ≤ mc ∧ sl ≤ ms) (hR : zRt Γ M F (d + 1) n0 mc ms ce sl Rt) (hK : ∀ ls st w, K ls st w → V Γ M F (d + 1) n0 mc ms (pc + len) ls st w ce sl) (hT : ∀ t ls st w, T t ls st w → V Γ M F (d + 1) n0 mc ms t ls st w ce sl) (h : zst Γ d M.2.2.2.2.1 (.iload n) t tg v u N K T Rt ls st (n0 + ce) w) : V Γ M F (d + 1) n0 mc ms pc ls st w ce sl := by
  have hl : len = 2 := hz.resolve_left (by intro q; cases q)
  subst hl
  obtain ⟨x, h1, h2⟩ := zI_of h
  exact zs_iload hd (by rw [z_d hr]; exact h1) (hK _ _ _ h2)
theorem zx_iload_n {n : Fin 4} (hd : decode M.2.2.1 pc = .ok (.iload_n n, len)) (hz : zlenI (.iload_n n) = 0 ∨ len = zlenI (.iload_n n)) (hr : zres M.2.1 M.2.2.2.1 (.iload_n n) pc t tg v u N = true) (hnx : n0 + ce ≤ 4096) (hmc : ce ≤ mc ∧ sl ≤ ms) (hR : zRt Γ M F (d + 1) n0 mc ms ce sl Rt) (hK : ∀ ls st w, K ls st w → V Γ M F (d + 1) n0 mc ms (pc + len) ls st w ce sl) (hT : ∀ t ls st w, T t ls st w → V Γ M F (d + 1) n0 mc ms t ls st w ce sl) (h : zst Γ d M.2.2.2.2.1 (.iload_n n) t tg v u N K T Rt ls st (n0 + ce) w) : V Γ M F (d + 1) n0 mc ms pc ls st w ce sl := by
  have hl : len = 1 := hz.resolve_left (by intro q; cases q)
  subst hl
  obtain ⟨x, h1, h2⟩ := zI_of h
  exact zs_iload_n hd (z_d hr) h1 (hK _ _ _ h2)
theorem zx_lload {n : Nat} (hd : decode M.2.2.1 pc = .ok (.lload n, len)) (hz : zlenI (.lload n) = 0 ∨ len = zlenI (.lload n)) (hr : zres M.2.1 M.2.2.2.1 (.lload n) pc t tg v u N = true) (hnx : n0 + ce ≤ 4096) (hmc : ce ≤ mc ∧ sl ≤ ms) (hR : zRt Γ M F (d + 1) n0 mc ms ce sl Rt) (hK : ∀ ls st w, K ls st w → V Γ M F (d + 1) n0 mc ms (pc + len) ls st w ce sl) (hT : ∀ t ls st w, T t ls st w → V Γ M F (d + 1) n0 mc ms t ls st w ce sl) (h : zst Γ d M.2.2.2.2.1 (.lload n) t tg v u N K T Rt ls st (n0 + ce) w) : V Γ M F (d + 1) n0 mc ms pc ls st w ce sl := by
  have hl : len = 2 := hz.resolve_left (by intro q; cases q)
  subst hl
  obtain ⟨x, h1, h2⟩ := zJ_of h
  exact zs_lload hd (by rw [z_d hr]; exact h1) (hK _ _ _ h2)
theorem zx_lload_n {n : Fin 4} (hd : decode M.2.2.1 pc = .ok (.lload_n n, len)) (hz : zlenI (.lload_n n) = 0 ∨ len = zlenI (.lload_n n)) (hr : zres M.2.1 M.2.2.2.1 (.lload_n n) pc t tg v u N = true) (hnx : n0 + ce ≤ 4096) (hmc : ce ≤ mc ∧ sl ≤ ms) (hR : zRt Γ M F (d + 1) n0 mc ms ce sl Rt) (hK : ∀ ls st w, K ls st w → V Γ M F (d + 1) n0 mc ms (pc + len) ls st w ce sl) (hT : ∀ t ls st w, T t ls st w → V Γ M F (d + 1) n0 mc ms t ls st w ce sl) (h : zst Γ d M.2.2.2.2.1 (.lload_n n) t tg v u N K T Rt ls st (n0 + ce) w) : V Γ M F (d + 1) n0 mc ms pc ls st w ce sl := by
  have hl : len = 1 := hz.resolve_left (by intro q; cases q)
  subst hl
  obtain ⟨x, h1, h2⟩ := zJ_of h
  exact zs_lload_n hd (z_d hr) h1 (hK _ _ _ h2)
theorem zx_aload {n : Nat} (hd : decode M.2.2.1 pc = .ok (.aload n, len)) (hz : zlenI (.aload n) = 0 ∨ len = zlenI (.aload n)) (hr : zres M.2.1 M.2.2.2.1 (.aload n) pc t tg v u N = true) (hnx : n0 + ce ≤ 4096) (hmc : ce ≤ mc ∧ sl ≤ ms) (hR : zRt Γ M F (d + 1) n0 mc ms ce sl Rt) (hK : ∀ ls st w, K ls st w → V Γ M F (d + 1) n0 mc ms (pc + len) ls st w ce sl) (hT : ∀ t ls st w, T t ls st w → V Γ M F (d + 1) n0 mc ms t ls st w ce sl) (h : zst Γ d M.2.2.2.2.1 (.aload n) t tg v u N K T Rt ls st (n0 + ce) w) : V Γ M F (d + 1) n0 mc ms pc ls st w ce sl := by
  have hl : len = 2 := hz.resolve_left (by intro q; cases q)
  subst hl
  dsimp only [zst] at h
  rcases zQ_of h with ⟨a, h1, h2⟩ | ⟨h1, h2⟩
  · exact zs_aload hd (by rw [z_d hr]; exact h1) (hK _ _ _ h2)
  · exact zs_aloadN hd (by rw [z_d hr]; exact h1) (hK _ _ _ h2)
theorem zx_aload_n {n : Fin 4} (hd : decode M.2.2.1 pc = .ok (.aload_n n, len)) (hz : zlenI (.aload_n n) = 0 ∨ len = zlenI (.aload_n n)) (hr : zres M.2.1 M.2.2.2.1 (.aload_n n) pc t tg v u N = true) (hnx : n0 + ce ≤ 4096) (hmc : ce ≤ mc ∧ sl ≤ ms) (hR : zRt Γ M F (d + 1) n0 mc ms ce sl Rt) (hK : ∀ ls st w, K ls st w → V Γ M F (d + 1) n0 mc ms (pc + len) ls st w ce sl) (hT : ∀ t ls st w, T t ls st w → V Γ M F (d + 1) n0 mc ms t ls st w ce sl) (h : zst Γ d M.2.2.2.2.1 (.aload_n n) t tg v u N K T Rt ls st (n0 + ce) w) : V Γ M F (d + 1) n0 mc ms pc ls st w ce sl := by
  have hl : len = 1 := hz.resolve_left (by intro q; cases q)
  subst hl
  dsimp only [zst] at h
  rcases zQ_of h with ⟨a, h1, h2⟩ | ⟨h1, h2⟩
  · exact zs_aload_n hd (z_d hr) h1 (hK _ _ _ h2)
  · exact zs_aload_nN hd (z_d hr) h1 (hK _ _ _ h2)
theorem zx_iinc {i : Nat} {n : Int} (hd : decode M.2.2.1 pc = .ok (.iinc i n, len)) (hz : zlenI (.iinc i n) = 0 ∨ len = zlenI (.iinc i n)) (hr : zres M.2.1 M.2.2.2.1 (.iinc i n) pc t tg v u N = true) (hnx : n0 + ce ≤ 4096) (hmc : ce ≤ mc ∧ sl ≤ ms) (hR : zRt Γ M F (d + 1) n0 mc ms ce sl Rt) (hK : ∀ ls st w, K ls st w → V Γ M F (d + 1) n0 mc ms (pc + len) ls st w ce sl) (hT : ∀ t ls st w, T t ls st w → V Γ M F (d + 1) n0 mc ms t ls st w ce sl) (h : zst Γ d M.2.2.2.2.1 (.iinc i n) t tg v u N K T Rt ls st (n0 + ce) w) : V Γ M F (d + 1) n0 mc ms pc ls st w ce sl := by
  have hl : len = 3 := hz.resolve_left (by intro q; cases q)
  subst hl
  obtain ⟨h3, h4⟩ := z_and hr
  obtain ⟨h5, h6⟩ := z_and h3
  obtain ⟨x, h1, h2⟩ := zI_of h
  have hi := z_d h5
  subst hi
  exact zs_iinc hd (z_d h6) h1 (z_d h4) (hK _ _ _ h2)
theorem zx_istore {n : Nat} (hd : decode M.2.2.1 pc = .ok (.istore n, len)) (hz : zlenI (.istore n) = 0 ∨ len = zlenI (.istore n)) (hr : zres M.2.1 M.2.2.2.1 (.istore n) pc t tg v u N = true) (hnx : n0 + ce ≤ 4096) (hmc : ce ≤ mc ∧ sl ≤ ms) (hR : zRt Γ M F (d + 1) n0 mc ms ce sl Rt) (hK : ∀ ls st w, K ls st w → V Γ M F (d + 1) n0 mc ms (pc + len) ls st w ce sl) (hT : ∀ t ls st w, T t ls st w → V Γ M F (d + 1) n0 mc ms t ls st w ce sl) (h : zst Γ d M.2.2.2.2.1 (.istore n) t tg v u N K T Rt ls st (n0 + ce) w) : V Γ M F (d + 1) n0 mc ms pc ls st w ce sl := by
  have hl : len = 2 := hz.resolve_left (by intro q; cases q)
  subst hl
  obtain ⟨h3, h4⟩ := z_and hr
  have hi := z_d h3
  subst hi
  dsimp only [zst] at h
  split at h
  · exact zs_istore hd (z_d h4) (hK _ _ _ h)
  · exact h.elim
theorem zx_istore_n {n : Fin 4} (hd : decode M.2.2.1 pc = .ok (.istore_n n, len)) (hz : zlenI (.istore_n n) = 0 ∨ len = zlenI (.istore_n n)) (hr : zres M.2.1 M.2.2.2.1 (.istore_n n) pc t tg v u N = true) (hnx : n0 + ce ≤ 4096) (hmc : ce ≤ mc ∧ sl ≤ ms) (hR : zRt Γ M F (d + 1) n0 mc ms ce sl Rt) (hK : ∀ ls st w, K ls st w → V Γ M F (d + 1) n0 mc ms (pc + len) ls st w ce sl) (hT : ∀ t ls st w, T t ls st w → V Γ M F (d + 1) n0 mc ms t ls st w ce sl) (h : zst Γ d M.2.2.2.2.1 (.istore_n n) t tg v u N K T Rt ls st (n0 + ce) w) : V Γ M F (d + 1) n0 mc ms pc ls st w ce sl := by
  have hl : len = 1 := hz.resolve_left (by intro q; cases q)
  subst hl
  obtain ⟨h3, h4⟩ := z_and hr
  dsimp only [zst] at h
  split at h
  · exact zs_istore_n hd (z_d h3) (z_d h4) (hK _ _ _ h)
  · exact h.elim
theorem zx_lstore {n : Nat} (hd : decode M.2.2.1 pc = .ok (.lstore n, len)) (hz : zlenI (.lstore n) = 0 ∨ len = zlenI (.lstore n)) (hr : zres M.2.1 M.2.2.2.1 (.lstore n) pc t tg v u N = true) (hnx : n0 + ce ≤ 4096) (hmc : ce ≤ mc ∧ sl ≤ ms) (hR : zRt Γ M F (d + 1) n0 mc ms ce sl Rt) (hK : ∀ ls st w, K ls st w → V Γ M F (d + 1) n0 mc ms (pc + len) ls st w ce sl) (hT : ∀ t ls st w, T t ls st w → V Γ M F (d + 1) n0 mc ms t ls st w ce sl) (h : zst Γ d M.2.2.2.2.1 (.lstore n) t tg v u N K T Rt ls st (n0 + ce) w) : V Γ M F (d + 1) n0 mc ms pc ls st w ce sl := by
  have hl : len = 2 := hz.resolve_left (by intro q; cases q)
  subst hl
  obtain ⟨h3, h4⟩ := z_and hr
  have hi := z_d h3
  subst hi
  dsimp only [zst] at h
  split at h
  · exact zs_lstore hd (z_d h4) (hK _ _ _ h)
  · exact h.elim
theorem zx_lstore_n {n : Fin 4} (hd : decode M.2.2.1 pc = .ok (.lstore_n n, len)) (hz : zlenI (.lstore_n n) = 0 ∨ len = zlenI (.lstore_n n)) (hr : zres M.2.1 M.2.2.2.1 (.lstore_n n) pc t tg v u N = true) (hnx : n0 + ce ≤ 4096) (hmc : ce ≤ mc ∧ sl ≤ ms) (hR : zRt Γ M F (d + 1) n0 mc ms ce sl Rt) (hK : ∀ ls st w, K ls st w → V Γ M F (d + 1) n0 mc ms (pc + len) ls st w ce sl) (hT : ∀ t ls st w, T t ls st w → V Γ M F (d + 1) n0 mc ms t ls st w ce sl) (h : zst Γ d M.2.2.2.2.1 (.lstore_n n) t tg v u N K T Rt ls st (n0 + ce) w) : V Γ M F (d + 1) n0 mc ms pc ls st w ce sl := by
  have hl : len = 1 := hz.resolve_left (by intro q; cases q)
  subst hl
  obtain ⟨h3, h4⟩ := z_and hr
  dsimp only [zst] at h
  split at h
  · exact zs_lstore_n hd (z_d h3) (z_d h4) (hK _ _ _ h)
  · exact h.elim
theorem zx_astore {n : Nat} (hd : decode M.2.2.1 pc = .ok (.astore n, len)) (hz : zlenI (.astore n) = 0 ∨ len = zlenI (.astore n)) (hr : zres M.2.1 M.2.2.2.1 (.astore n) pc t tg v u N = true) (hnx : n0 + ce ≤ 4096) (hmc : ce ≤ mc ∧ sl ≤ ms) (hR : zRt Γ M F (d + 1) n0 mc ms ce sl Rt) (hK : ∀ ls st w, K ls st w → V Γ M F (d + 1) n0 mc ms (pc + len) ls st w ce sl) (hT : ∀ t ls st w, T t ls st w → V Γ M F (d + 1) n0 mc ms t ls st w ce sl) (h : zst Γ d M.2.2.2.2.1 (.astore n) t tg v u N K T Rt ls st (n0 + ce) w) : V Γ M F (d + 1) n0 mc ms pc ls st w ce sl := by
  have hl : len = 2 := hz.resolve_left (by intro q; cases q)
  subst hl
  obtain ⟨h3, h4⟩ := z_and hr
  have hi := z_d h3
  subst hi
  dsimp only [zst] at h
  split at h
  · rcases zQ_of h with ⟨a, h1, h2⟩ | ⟨h1, h2⟩
    · cases h1
      exact zs_astore hd (z_d h4) (hK _ _ _ h2)
    · cases h1
      exact zs_astoreN hd (z_d h4) (hK _ _ _ h2)
  · exact h.elim
theorem zx_astore_n {n : Fin 4} (hd : decode M.2.2.1 pc = .ok (.astore_n n, len)) (hz : zlenI (.astore_n n) = 0 ∨ len = zlenI (.astore_n n)) (hr : zres M.2.1 M.2.2.2.1 (.astore_n n) pc t tg v u N = true) (hnx : n0 + ce ≤ 4096) (hmc : ce ≤ mc ∧ sl ≤ ms) (hR : zRt Γ M F (d + 1) n0 mc ms ce sl Rt) (hK : ∀ ls st w, K ls st w → V Γ M F (d + 1) n0 mc ms (pc + len) ls st w ce sl) (hT : ∀ t ls st w, T t ls st w → V Γ M F (d + 1) n0 mc ms t ls st w ce sl) (h : zst Γ d M.2.2.2.2.1 (.astore_n n) t tg v u N K T Rt ls st (n0 + ce) w) : V Γ M F (d + 1) n0 mc ms pc ls st w ce sl := by
  have hl : len = 1 := hz.resolve_left (by intro q; cases q)
  subst hl
  obtain ⟨h3, h4⟩ := z_and hr
  dsimp only [zst] at h
  split at h
  · rcases zQ_of h with ⟨a, h1, h2⟩ | ⟨h1, h2⟩
    · cases h1
      exact zs_astore_n hd (z_d h3) (z_d h4) (hK _ _ _ h2)
    · cases h1
      exact zs_astore_nN hd (z_d h3) (z_d h4) (hK _ _ _ h2)
  · exact h.elim
theorem zx_iadd  (hd : decode M.2.2.1 pc = .ok (.iadd, len)) (hz : zlenI (.iadd) = 0 ∨ len = zlenI (.iadd)) (hr : zres M.2.1 M.2.2.2.1 (.iadd) pc t tg v u N = true) (hnx : n0 + ce ≤ 4096) (hmc : ce ≤ mc ∧ sl ≤ ms) (hR : zRt Γ M F (d + 1) n0 mc ms ce sl Rt) (hK : ∀ ls st w, K ls st w → V Γ M F (d + 1) n0 mc ms (pc + len) ls st w ce sl) (hT : ∀ t ls st w, T t ls st w → V Γ M F (d + 1) n0 mc ms t ls st w ce sl) (h : zst Γ d M.2.2.2.2.1 (.iadd) t tg v u N K T Rt ls st (n0 + ce) w) : V Γ M F (d + 1) n0 mc ms pc ls st w ce sl := by
  have hl : len = 1 := hz.resolve_left (by intro q; cases q)
  subst hl
  dsimp only [zst] at h
  split at h
  · exact zs_iadd hd (hK _ _ _ h)
  · exact h.elim
theorem zx_isub  (hd : decode M.2.2.1 pc = .ok (.isub, len)) (hz : zlenI (.isub) = 0 ∨ len = zlenI (.isub)) (hr : zres M.2.1 M.2.2.2.1 (.isub) pc t tg v u N = true) (hnx : n0 + ce ≤ 4096) (hmc : ce ≤ mc ∧ sl ≤ ms) (hR : zRt Γ M F (d + 1) n0 mc ms ce sl Rt) (hK : ∀ ls st w, K ls st w → V Γ M F (d + 1) n0 mc ms (pc + len) ls st w ce sl) (hT : ∀ t ls st w, T t ls st w → V Γ M F (d + 1) n0 mc ms t ls st w ce sl) (h : zst Γ d M.2.2.2.2.1 (.isub) t tg v u N K T Rt ls st (n0 + ce) w) : V Γ M F (d + 1) n0 mc ms pc ls st w ce sl := by
  have hl : len = 1 := hz.resolve_left (by intro q; cases q)
  subst hl
  dsimp only [zst] at h
  split at h
  · exact zs_isub hd (hK _ _ _ h)
  · exact h.elim
theorem zx_imul  (hd : decode M.2.2.1 pc = .ok (.imul, len)) (hz : zlenI (.imul) = 0 ∨ len = zlenI (.imul)) (hr : zres M.2.1 M.2.2.2.1 (.imul) pc t tg v u N = true) (hnx : n0 + ce ≤ 4096) (hmc : ce ≤ mc ∧ sl ≤ ms) (hR : zRt Γ M F (d + 1) n0 mc ms ce sl Rt) (hK : ∀ ls st w, K ls st w → V Γ M F (d + 1) n0 mc ms (pc + len) ls st w ce sl) (hT : ∀ t ls st w, T t ls st w → V Γ M F (d + 1) n0 mc ms t ls st w ce sl) (h : zst Γ d M.2.2.2.2.1 (.imul) t tg v u N K T Rt ls st (n0 + ce) w) : V Γ M F (d + 1) n0 mc ms pc ls st w ce sl := by
  have hl : len = 1 := hz.resolve_left (by intro q; cases q)
  subst hl
  dsimp only [zst] at h
  split at h
  · exact zs_imul hd (hK _ _ _ h)
  · exact h.elim
theorem zx_iand  (hd : decode M.2.2.1 pc = .ok (.iand, len)) (hz : zlenI (.iand) = 0 ∨ len = zlenI (.iand)) (hr : zres M.2.1 M.2.2.2.1 (.iand) pc t tg v u N = true) (hnx : n0 + ce ≤ 4096) (hmc : ce ≤ mc ∧ sl ≤ ms) (hR : zRt Γ M F (d + 1) n0 mc ms ce sl Rt) (hK : ∀ ls st w, K ls st w → V Γ M F (d + 1) n0 mc ms (pc + len) ls st w ce sl) (hT : ∀ t ls st w, T t ls st w → V Γ M F (d + 1) n0 mc ms t ls st w ce sl) (h : zst Γ d M.2.2.2.2.1 (.iand) t tg v u N K T Rt ls st (n0 + ce) w) : V Γ M F (d + 1) n0 mc ms pc ls st w ce sl := by
  have hl : len = 1 := hz.resolve_left (by intro q; cases q)
  subst hl
  dsimp only [zst] at h
  split at h
  · exact zs_iand hd (hK _ _ _ h)
  · exact h.elim
theorem zx_ior  (hd : decode M.2.2.1 pc = .ok (.ior, len)) (hz : zlenI (.ior) = 0 ∨ len = zlenI (.ior)) (hr : zres M.2.1 M.2.2.2.1 (.ior) pc t tg v u N = true) (hnx : n0 + ce ≤ 4096) (hmc : ce ≤ mc ∧ sl ≤ ms) (hR : zRt Γ M F (d + 1) n0 mc ms ce sl Rt) (hK : ∀ ls st w, K ls st w → V Γ M F (d + 1) n0 mc ms (pc + len) ls st w ce sl) (hT : ∀ t ls st w, T t ls st w → V Γ M F (d + 1) n0 mc ms t ls st w ce sl) (h : zst Γ d M.2.2.2.2.1 (.ior) t tg v u N K T Rt ls st (n0 + ce) w) : V Γ M F (d + 1) n0 mc ms pc ls st w ce sl := by
  have hl : len = 1 := hz.resolve_left (by intro q; cases q)
  subst hl
  dsimp only [zst] at h
  split at h
  · exact zs_ior hd (hK _ _ _ h)
  · exact h.elim
theorem zx_ixor  (hd : decode M.2.2.1 pc = .ok (.ixor, len)) (hz : zlenI (.ixor) = 0 ∨ len = zlenI (.ixor)) (hr : zres M.2.1 M.2.2.2.1 (.ixor) pc t tg v u N = true) (hnx : n0 + ce ≤ 4096) (hmc : ce ≤ mc ∧ sl ≤ ms) (hR : zRt Γ M F (d + 1) n0 mc ms ce sl Rt) (hK : ∀ ls st w, K ls st w → V Γ M F (d + 1) n0 mc ms (pc + len) ls st w ce sl) (hT : ∀ t ls st w, T t ls st w → V Γ M F (d + 1) n0 mc ms t ls st w ce sl) (h : zst Γ d M.2.2.2.2.1 (.ixor) t tg v u N K T Rt ls st (n0 + ce) w) : V Γ M F (d + 1) n0 mc ms pc ls st w ce sl := by
  have hl : len = 1 := hz.resolve_left (by intro q; cases q)
  subst hl
  dsimp only [zst] at h
  split at h
  · exact zs_ixor hd (hK _ _ _ h)
  · exact h.elim
theorem zx_ishl  (hd : decode M.2.2.1 pc = .ok (.ishl, len)) (hz : zlenI (.ishl) = 0 ∨ len = zlenI (.ishl)) (hr : zres M.2.1 M.2.2.2.1 (.ishl) pc t tg v u N = true) (hnx : n0 + ce ≤ 4096) (hmc : ce ≤ mc ∧ sl ≤ ms) (hR : zRt Γ M F (d + 1) n0 mc ms ce sl Rt) (hK : ∀ ls st w, K ls st w → V Γ M F (d + 1) n0 mc ms (pc + len) ls st w ce sl) (hT : ∀ t ls st w, T t ls st w → V Γ M F (d + 1) n0 mc ms t ls st w ce sl) (h : zst Γ d M.2.2.2.2.1 (.ishl) t tg v u N K T Rt ls st (n0 + ce) w) : V Γ M F (d + 1) n0 mc ms pc ls st w ce sl := by
  have hl : len = 1 := hz.resolve_left (by intro q; cases q)
  subst hl
  dsimp only [zst] at h
  split at h
  · exact zs_ishl hd (hK _ _ _ h)
  · exact h.elim
theorem zx_ishr  (hd : decode M.2.2.1 pc = .ok (.ishr, len)) (hz : zlenI (.ishr) = 0 ∨ len = zlenI (.ishr)) (hr : zres M.2.1 M.2.2.2.1 (.ishr) pc t tg v u N = true) (hnx : n0 + ce ≤ 4096) (hmc : ce ≤ mc ∧ sl ≤ ms) (hR : zRt Γ M F (d + 1) n0 mc ms ce sl Rt) (hK : ∀ ls st w, K ls st w → V Γ M F (d + 1) n0 mc ms (pc + len) ls st w ce sl) (hT : ∀ t ls st w, T t ls st w → V Γ M F (d + 1) n0 mc ms t ls st w ce sl) (h : zst Γ d M.2.2.2.2.1 (.ishr) t tg v u N K T Rt ls st (n0 + ce) w) : V Γ M F (d + 1) n0 mc ms pc ls st w ce sl := by
  have hl : len = 1 := hz.resolve_left (by intro q; cases q)
  subst hl
  dsimp only [zst] at h
  split at h
  · exact zs_ishr hd (hK _ _ _ h)
  · exact h.elim
theorem zx_iushr  (hd : decode M.2.2.1 pc = .ok (.iushr, len)) (hz : zlenI (.iushr) = 0 ∨ len = zlenI (.iushr)) (hr : zres M.2.1 M.2.2.2.1 (.iushr) pc t tg v u N = true) (hnx : n0 + ce ≤ 4096) (hmc : ce ≤ mc ∧ sl ≤ ms) (hR : zRt Γ M F (d + 1) n0 mc ms ce sl Rt) (hK : ∀ ls st w, K ls st w → V Γ M F (d + 1) n0 mc ms (pc + len) ls st w ce sl) (hT : ∀ t ls st w, T t ls st w → V Γ M F (d + 1) n0 mc ms t ls st w ce sl) (h : zst Γ d M.2.2.2.2.1 (.iushr) t tg v u N K T Rt ls st (n0 + ce) w) : V Γ M F (d + 1) n0 mc ms pc ls st w ce sl := by
  have hl : len = 1 := hz.resolve_left (by intro q; cases q)
  subst hl
  dsimp only [zst] at h
  split at h
  · exact zs_iushr hd (hK _ _ _ h)
  · exact h.elim
theorem zx_ineg  (hd : decode M.2.2.1 pc = .ok (.ineg, len)) (hz : zlenI (.ineg) = 0 ∨ len = zlenI (.ineg)) (hr : zres M.2.1 M.2.2.2.1 (.ineg) pc t tg v u N = true) (hnx : n0 + ce ≤ 4096) (hmc : ce ≤ mc ∧ sl ≤ ms) (hR : zRt Γ M F (d + 1) n0 mc ms ce sl Rt) (hK : ∀ ls st w, K ls st w → V Γ M F (d + 1) n0 mc ms (pc + len) ls st w ce sl) (hT : ∀ t ls st w, T t ls st w → V Γ M F (d + 1) n0 mc ms t ls st w ce sl) (h : zst Γ d M.2.2.2.2.1 (.ineg) t tg v u N K T Rt ls st (n0 + ce) w) : V Γ M F (d + 1) n0 mc ms pc ls st w ce sl := by
  have hl : len = 1 := hz.resolve_left (by intro q; cases q)
  subst hl
  dsimp only [zst] at h
  split at h
  · exact zs_ineg hd (hK _ _ _ h)
  · exact h.elim
theorem zx_i2b  (hd : decode M.2.2.1 pc = .ok (.i2b, len)) (hz : zlenI (.i2b) = 0 ∨ len = zlenI (.i2b)) (hr : zres M.2.1 M.2.2.2.1 (.i2b) pc t tg v u N = true) (hnx : n0 + ce ≤ 4096) (hmc : ce ≤ mc ∧ sl ≤ ms) (hR : zRt Γ M F (d + 1) n0 mc ms ce sl Rt) (hK : ∀ ls st w, K ls st w → V Γ M F (d + 1) n0 mc ms (pc + len) ls st w ce sl) (hT : ∀ t ls st w, T t ls st w → V Γ M F (d + 1) n0 mc ms t ls st w ce sl) (h : zst Γ d M.2.2.2.2.1 (.i2b) t tg v u N K T Rt ls st (n0 + ce) w) : V Γ M F (d + 1) n0 mc ms pc ls st w ce sl := by
  have hl : len = 1 := hz.resolve_left (by intro q; cases q)
  subst hl
  dsimp only [zst] at h
  split at h
  · exact zs_i2b hd (hK _ _ _ h)
  · exact h.elim
theorem zx_i2s  (hd : decode M.2.2.1 pc = .ok (.i2s, len)) (hz : zlenI (.i2s) = 0 ∨ len = zlenI (.i2s)) (hr : zres M.2.1 M.2.2.2.1 (.i2s) pc t tg v u N = true) (hnx : n0 + ce ≤ 4096) (hmc : ce ≤ mc ∧ sl ≤ ms) (hR : zRt Γ M F (d + 1) n0 mc ms ce sl Rt) (hK : ∀ ls st w, K ls st w → V Γ M F (d + 1) n0 mc ms (pc + len) ls st w ce sl) (hT : ∀ t ls st w, T t ls st w → V Γ M F (d + 1) n0 mc ms t ls st w ce sl) (h : zst Γ d M.2.2.2.2.1 (.i2s) t tg v u N K T Rt ls st (n0 + ce) w) : V Γ M F (d + 1) n0 mc ms pc ls st w ce sl := by
  have hl : len = 1 := hz.resolve_left (by intro q; cases q)
  subst hl
  dsimp only [zst] at h
  split at h
  · exact zs_i2s hd (hK _ _ _ h)
  · exact h.elim
theorem zx_i2c  (hd : decode M.2.2.1 pc = .ok (.i2c, len)) (hz : zlenI (.i2c) = 0 ∨ len = zlenI (.i2c)) (hr : zres M.2.1 M.2.2.2.1 (.i2c) pc t tg v u N = true) (hnx : n0 + ce ≤ 4096) (hmc : ce ≤ mc ∧ sl ≤ ms) (hR : zRt Γ M F (d + 1) n0 mc ms ce sl Rt) (hK : ∀ ls st w, K ls st w → V Γ M F (d + 1) n0 mc ms (pc + len) ls st w ce sl) (hT : ∀ t ls st w, T t ls st w → V Γ M F (d + 1) n0 mc ms t ls st w ce sl) (h : zst Γ d M.2.2.2.2.1 (.i2c) t tg v u N K T Rt ls st (n0 + ce) w) : V Γ M F (d + 1) n0 mc ms pc ls st w ce sl := by
  have hl : len = 1 := hz.resolve_left (by intro q; cases q)
  subst hl
  dsimp only [zst] at h
  split at h
  · exact zs_i2c hd (hK _ _ _ h)
  · exact h.elim
theorem zx_i2l  (hd : decode M.2.2.1 pc = .ok (.i2l, len)) (hz : zlenI (.i2l) = 0 ∨ len = zlenI (.i2l)) (hr : zres M.2.1 M.2.2.2.1 (.i2l) pc t tg v u N = true) (hnx : n0 + ce ≤ 4096) (hmc : ce ≤ mc ∧ sl ≤ ms) (hR : zRt Γ M F (d + 1) n0 mc ms ce sl Rt) (hK : ∀ ls st w, K ls st w → V Γ M F (d + 1) n0 mc ms (pc + len) ls st w ce sl) (hT : ∀ t ls st w, T t ls st w → V Γ M F (d + 1) n0 mc ms t ls st w ce sl) (h : zst Γ d M.2.2.2.2.1 (.i2l) t tg v u N K T Rt ls st (n0 + ce) w) : V Γ M F (d + 1) n0 mc ms pc ls st w ce sl := by
  have hl : len = 1 := hz.resolve_left (by intro q; cases q)
  subst hl
  dsimp only [zst] at h
  split at h
  · exact zs_i2l hd (hK _ _ _ h)
  · exact h.elim
theorem zx_l2i  (hd : decode M.2.2.1 pc = .ok (.l2i, len)) (hz : zlenI (.l2i) = 0 ∨ len = zlenI (.l2i)) (hr : zres M.2.1 M.2.2.2.1 (.l2i) pc t tg v u N = true) (hnx : n0 + ce ≤ 4096) (hmc : ce ≤ mc ∧ sl ≤ ms) (hR : zRt Γ M F (d + 1) n0 mc ms ce sl Rt) (hK : ∀ ls st w, K ls st w → V Γ M F (d + 1) n0 mc ms (pc + len) ls st w ce sl) (hT : ∀ t ls st w, T t ls st w → V Γ M F (d + 1) n0 mc ms t ls st w ce sl) (h : zst Γ d M.2.2.2.2.1 (.l2i) t tg v u N K T Rt ls st (n0 + ce) w) : V Γ M F (d + 1) n0 mc ms pc ls st w ce sl := by
  have hl : len = 1 := hz.resolve_left (by intro q; cases q)
  subst hl
  dsimp only [zst] at h
  split at h
  · exact zs_l2i hd (hK _ _ _ h)
  · exact h.elim
theorem zx_ladd  (hd : decode M.2.2.1 pc = .ok (.ladd, len)) (hz : zlenI (.ladd) = 0 ∨ len = zlenI (.ladd)) (hr : zres M.2.1 M.2.2.2.1 (.ladd) pc t tg v u N = true) (hnx : n0 + ce ≤ 4096) (hmc : ce ≤ mc ∧ sl ≤ ms) (hR : zRt Γ M F (d + 1) n0 mc ms ce sl Rt) (hK : ∀ ls st w, K ls st w → V Γ M F (d + 1) n0 mc ms (pc + len) ls st w ce sl) (hT : ∀ t ls st w, T t ls st w → V Γ M F (d + 1) n0 mc ms t ls st w ce sl) (h : zst Γ d M.2.2.2.2.1 (.ladd) t tg v u N K T Rt ls st (n0 + ce) w) : V Γ M F (d + 1) n0 mc ms pc ls st w ce sl := by
  have hl : len = 1 := hz.resolve_left (by intro q; cases q)
  subst hl
  dsimp only [zst] at h
  split at h
  · exact zs_ladd hd (hK _ _ _ h)
  · exact h.elim
theorem zx_lsub  (hd : decode M.2.2.1 pc = .ok (.lsub, len)) (hz : zlenI (.lsub) = 0 ∨ len = zlenI (.lsub)) (hr : zres M.2.1 M.2.2.2.1 (.lsub) pc t tg v u N = true) (hnx : n0 + ce ≤ 4096) (hmc : ce ≤ mc ∧ sl ≤ ms) (hR : zRt Γ M F (d + 1) n0 mc ms ce sl Rt) (hK : ∀ ls st w, K ls st w → V Γ M F (d + 1) n0 mc ms (pc + len) ls st w ce sl) (hT : ∀ t ls st w, T t ls st w → V Γ M F (d + 1) n0 mc ms t ls st w ce sl) (h : zst Γ d M.2.2.2.2.1 (.lsub) t tg v u N K T Rt ls st (n0 + ce) w) : V Γ M F (d + 1) n0 mc ms pc ls st w ce sl := by
  have hl : len = 1 := hz.resolve_left (by intro q; cases q)
  subst hl
  dsimp only [zst] at h
  split at h
  · exact zs_lsub hd (hK _ _ _ h)
  · exact h.elim
theorem zx_lmul  (hd : decode M.2.2.1 pc = .ok (.lmul, len)) (hz : zlenI (.lmul) = 0 ∨ len = zlenI (.lmul)) (hr : zres M.2.1 M.2.2.2.1 (.lmul) pc t tg v u N = true) (hnx : n0 + ce ≤ 4096) (hmc : ce ≤ mc ∧ sl ≤ ms) (hR : zRt Γ M F (d + 1) n0 mc ms ce sl Rt) (hK : ∀ ls st w, K ls st w → V Γ M F (d + 1) n0 mc ms (pc + len) ls st w ce sl) (hT : ∀ t ls st w, T t ls st w → V Γ M F (d + 1) n0 mc ms t ls st w ce sl) (h : zst Γ d M.2.2.2.2.1 (.lmul) t tg v u N K T Rt ls st (n0 + ce) w) : V Γ M F (d + 1) n0 mc ms pc ls st w ce sl := by
  have hl : len = 1 := hz.resolve_left (by intro q; cases q)
  subst hl
  dsimp only [zst] at h
  split at h
  · exact zs_lmul hd (hK _ _ _ h)
  · exact h.elim
theorem zx_lcmp  (hd : decode M.2.2.1 pc = .ok (.lcmp, len)) (hz : zlenI (.lcmp) = 0 ∨ len = zlenI (.lcmp)) (hr : zres M.2.1 M.2.2.2.1 (.lcmp) pc t tg v u N = true) (hnx : n0 + ce ≤ 4096) (hmc : ce ≤ mc ∧ sl ≤ ms) (hR : zRt Γ M F (d + 1) n0 mc ms ce sl Rt) (hK : ∀ ls st w, K ls st w → V Γ M F (d + 1) n0 mc ms (pc + len) ls st w ce sl) (hT : ∀ t ls st w, T t ls st w → V Γ M F (d + 1) n0 mc ms t ls st w ce sl) (h : zst Γ d M.2.2.2.2.1 (.lcmp) t tg v u N K T Rt ls st (n0 + ce) w) : V Γ M F (d + 1) n0 mc ms pc ls st w ce sl := by
  have hl : len = 1 := hz.resolve_left (by intro q; cases q)
  subst hl
  dsimp only [zst] at h
  split at h
  · exact zs_lcmp hd (hK _ _ _ h)
  · exact h.elim
theorem zx_idiv  (hd : decode M.2.2.1 pc = .ok (.idiv, len)) (hz : zlenI (.idiv) = 0 ∨ len = zlenI (.idiv)) (hr : zres M.2.1 M.2.2.2.1 (.idiv) pc t tg v u N = true) (hnx : n0 + ce ≤ 4096) (hmc : ce ≤ mc ∧ sl ≤ ms) (hR : zRt Γ M F (d + 1) n0 mc ms ce sl Rt) (hK : ∀ ls st w, K ls st w → V Γ M F (d + 1) n0 mc ms (pc + len) ls st w ce sl) (hT : ∀ t ls st w, T t ls st w → V Γ M F (d + 1) n0 mc ms t ls st w ce sl) (h : zst Γ d M.2.2.2.2.1 (.idiv) t tg v u N K T Rt ls st (n0 + ce) w) : V Γ M F (d + 1) n0 mc ms pc ls st w ce sl := by
  have hl : len = 1 := hz.resolve_left (by intro q; cases q)
  subst hl
  dsimp only [zst] at h
  split at h
  · exact zs_idiv hd h.1 (hK _ _ _ h.2)
  · exact h.elim
theorem zx_irem  (hd : decode M.2.2.1 pc = .ok (.irem, len)) (hz : zlenI (.irem) = 0 ∨ len = zlenI (.irem)) (hr : zres M.2.1 M.2.2.2.1 (.irem) pc t tg v u N = true) (hnx : n0 + ce ≤ 4096) (hmc : ce ≤ mc ∧ sl ≤ ms) (hR : zRt Γ M F (d + 1) n0 mc ms ce sl Rt) (hK : ∀ ls st w, K ls st w → V Γ M F (d + 1) n0 mc ms (pc + len) ls st w ce sl) (hT : ∀ t ls st w, T t ls st w → V Γ M F (d + 1) n0 mc ms t ls st w ce sl) (h : zst Γ d M.2.2.2.2.1 (.irem) t tg v u N K T Rt ls st (n0 + ce) w) : V Γ M F (d + 1) n0 mc ms pc ls st w ce sl := by
  have hl : len = 1 := hz.resolve_left (by intro q; cases q)
  subst hl
  dsimp only [zst] at h
  split at h
  · exact zs_irem hd h.1 (hK _ _ _ h.2)
  · exact h.elim
theorem zx_ldiv  (hd : decode M.2.2.1 pc = .ok (.ldiv, len)) (hz : zlenI (.ldiv) = 0 ∨ len = zlenI (.ldiv)) (hr : zres M.2.1 M.2.2.2.1 (.ldiv) pc t tg v u N = true) (hnx : n0 + ce ≤ 4096) (hmc : ce ≤ mc ∧ sl ≤ ms) (hR : zRt Γ M F (d + 1) n0 mc ms ce sl Rt) (hK : ∀ ls st w, K ls st w → V Γ M F (d + 1) n0 mc ms (pc + len) ls st w ce sl) (hT : ∀ t ls st w, T t ls st w → V Γ M F (d + 1) n0 mc ms t ls st w ce sl) (h : zst Γ d M.2.2.2.2.1 (.ldiv) t tg v u N K T Rt ls st (n0 + ce) w) : V Γ M F (d + 1) n0 mc ms pc ls st w ce sl := by
  have hl : len = 1 := hz.resolve_left (by intro q; cases q)
  subst hl
  dsimp only [zst] at h
  split at h
  · exact zs_ldiv hd h.1 (hK _ _ _ h.2)
  · exact h.elim
theorem zx_lrem  (hd : decode M.2.2.1 pc = .ok (.lrem, len)) (hz : zlenI (.lrem) = 0 ∨ len = zlenI (.lrem)) (hr : zres M.2.1 M.2.2.2.1 (.lrem) pc t tg v u N = true) (hnx : n0 + ce ≤ 4096) (hmc : ce ≤ mc ∧ sl ≤ ms) (hR : zRt Γ M F (d + 1) n0 mc ms ce sl Rt) (hK : ∀ ls st w, K ls st w → V Γ M F (d + 1) n0 mc ms (pc + len) ls st w ce sl) (hT : ∀ t ls st w, T t ls st w → V Γ M F (d + 1) n0 mc ms t ls st w ce sl) (h : zst Γ d M.2.2.2.2.1 (.lrem) t tg v u N K T Rt ls st (n0 + ce) w) : V Γ M F (d + 1) n0 mc ms pc ls st w ce sl := by
  have hl : len = 1 := hz.resolve_left (by intro q; cases q)
  subst hl
  dsimp only [zst] at h
  split at h
  · exact zs_lrem hd h.1 (hK _ _ _ h.2)
  · exact h.elim
theorem zx_dup  (hd : decode M.2.2.1 pc = .ok (.dup, len)) (hz : zlenI (.dup) = 0 ∨ len = zlenI (.dup)) (hr : zres M.2.1 M.2.2.2.1 (.dup) pc t tg v u N = true) (hnx : n0 + ce ≤ 4096) (hmc : ce ≤ mc ∧ sl ≤ ms) (hR : zRt Γ M F (d + 1) n0 mc ms ce sl Rt) (hK : ∀ ls st w, K ls st w → V Γ M F (d + 1) n0 mc ms (pc + len) ls st w ce sl) (hT : ∀ t ls st w, T t ls st w → V Γ M F (d + 1) n0 mc ms t ls st w ce sl) (h : zst Γ d M.2.2.2.2.1 (.dup) t tg v u N K T Rt ls st (n0 + ce) w) : V Γ M F (d + 1) n0 mc ms pc ls st w ce sl := by
  have hl : len = 1 := hz.resolve_left (by intro q; cases q)
  subst hl
  dsimp only [zst] at h
  split at h
  · exact zs_dupi hd (hK _ _ _ h)
  · exact zs_dupr hd (hK _ _ _ h)
  · exact h.elim
theorem zx_dup2  (hd : decode M.2.2.1 pc = .ok (.dup2, len)) (hz : zlenI (.dup2) = 0 ∨ len = zlenI (.dup2)) (hr : zres M.2.1 M.2.2.2.1 (.dup2) pc t tg v u N = true) (hnx : n0 + ce ≤ 4096) (hmc : ce ≤ mc ∧ sl ≤ ms) (hR : zRt Γ M F (d + 1) n0 mc ms ce sl Rt) (hK : ∀ ls st w, K ls st w → V Γ M F (d + 1) n0 mc ms (pc + len) ls st w ce sl) (hT : ∀ t ls st w, T t ls st w → V Γ M F (d + 1) n0 mc ms t ls st w ce sl) (h : zst Γ d M.2.2.2.2.1 (.dup2) t tg v u N K T Rt ls st (n0 + ce) w) : V Γ M F (d + 1) n0 mc ms pc ls st w ce sl := by
  have hl : len = 1 := hz.resolve_left (by intro q; cases q)
  subst hl
  dsimp only [zst] at h
  split at h
  · exact zs_dup2 hd (hK _ _ _ h)
  · exact h.elim
theorem zx_pop  (hd : decode M.2.2.1 pc = .ok (.pop, len)) (hz : zlenI (.pop) = 0 ∨ len = zlenI (.pop)) (hr : zres M.2.1 M.2.2.2.1 (.pop) pc t tg v u N = true) (hnx : n0 + ce ≤ 4096) (hmc : ce ≤ mc ∧ sl ≤ ms) (hR : zRt Γ M F (d + 1) n0 mc ms ce sl Rt) (hK : ∀ ls st w, K ls st w → V Γ M F (d + 1) n0 mc ms (pc + len) ls st w ce sl) (hT : ∀ t ls st w, T t ls st w → V Γ M F (d + 1) n0 mc ms t ls st w ce sl) (h : zst Γ d M.2.2.2.2.1 (.pop) t tg v u N K T Rt ls st (n0 + ce) w) : V Γ M F (d + 1) n0 mc ms pc ls st w ce sl := by
  have hl : len = 1 := hz.resolve_left (by intro q; cases q)
  subst hl
  dsimp only [zst] at h
  split at h
  · exact zs_popi hd (hK _ _ _ h)
  · exact zs_popr hd (hK _ _ _ h)
  · exact h.elim
theorem zx_goto {o : Int} (hd : decode M.2.2.1 pc = .ok (.goto o, len)) (hz : zlenI (.goto o) = 0 ∨ len = zlenI (.goto o)) (hr : zres M.2.1 M.2.2.2.1 (.goto o) pc t tg v u N = true) (hnx : n0 + ce ≤ 4096) (hmc : ce ≤ mc ∧ sl ≤ ms) (hR : zRt Γ M F (d + 1) n0 mc ms ce sl Rt) (hK : ∀ ls st w, K ls st w → V Γ M F (d + 1) n0 mc ms (pc + len) ls st w ce sl) (hT : ∀ t ls st w, T t ls st w → V Γ M F (d + 1) n0 mc ms t ls st w ce sl) (h : zst Γ d M.2.2.2.2.1 (.goto o) t tg v u N K T Rt ls st (n0 + ce) w) : V Γ M F (d + 1) n0 mc ms pc ls st w ce sl := by
  have hl : len = 3 := hz.resolve_left (by intro q; cases q)
  subst hl
  exact zs_goto hd (z_d hr) (hT _ _ _ _ h)
theorem zx_ifCond {c : Jvm.ClassFile.Cond} {o : Int} (hd : decode M.2.2.1 pc = .ok (.ifCond c o, len)) (hz : zlenI (.ifCond c o) = 0 ∨ len = zlenI (.ifCond c o)) (hr : zres M.2.1 M.2.2.2.1 (.ifCond c o) pc t tg v u N = true) (hnx : n0 + ce ≤ 4096) (hmc : ce ≤ mc ∧ sl ≤ ms) (hR : zRt Γ M F (d + 1) n0 mc ms ce sl Rt) (hK : ∀ ls st w, K ls st w → V Γ M F (d + 1) n0 mc ms (pc + len) ls st w ce sl) (hT : ∀ t ls st w, T t ls st w → V Γ M F (d + 1) n0 mc ms t ls st w ce sl) (h : zst Γ d M.2.2.2.2.1 (.ifCond c o) t tg v u N K T Rt ls st (n0 + ce) w) : V Γ M F (d + 1) n0 mc ms pc ls st w ce sl := by
  have hl : len = 3 := hz.resolve_left (by intro q; cases q)
  subst hl
  dsimp only [zst] at h
  split at h
  · split at h
    · exact zs_if_eq hd (z_d hr) ⟨fun q => hT _ _ _ _ (h.1 q), fun q => hK _ _ _ (h.2 q)⟩
    · exact zs_if_ne hd (z_d hr) ⟨fun q => hT _ _ _ _ (h.1 q), fun q => hK _ _ _ (h.2 q)⟩
    · exact zs_if_lt hd (z_d hr) ⟨fun q => hT _ _ _ _ (h.1 q), fun q => hK _ _ _ (h.2 q)⟩
    · exact zs_if_ge hd (z_d hr) ⟨fun q => hT _ _ _ _ (h.1 q), fun q => hK _ _ _ (h.2 q)⟩
    · exact zs_if_gt hd (z_d hr) ⟨fun q => hT _ _ _ _ (h.1 q), fun q => hK _ _ _ (h.2 q)⟩
    · exact zs_if_le hd (z_d hr) ⟨fun q => hT _ _ _ _ (h.1 q), fun q => hK _ _ _ (h.2 q)⟩
  · exact h.elim
theorem zx_if_icmp {c : Jvm.ClassFile.Cond} {o : Int} (hd : decode M.2.2.1 pc = .ok (.if_icmp c o, len)) (hz : zlenI (.if_icmp c o) = 0 ∨ len = zlenI (.if_icmp c o)) (hr : zres M.2.1 M.2.2.2.1 (.if_icmp c o) pc t tg v u N = true) (hnx : n0 + ce ≤ 4096) (hmc : ce ≤ mc ∧ sl ≤ ms) (hR : zRt Γ M F (d + 1) n0 mc ms ce sl Rt) (hK : ∀ ls st w, K ls st w → V Γ M F (d + 1) n0 mc ms (pc + len) ls st w ce sl) (hT : ∀ t ls st w, T t ls st w → V Γ M F (d + 1) n0 mc ms t ls st w ce sl) (h : zst Γ d M.2.2.2.2.1 (.if_icmp c o) t tg v u N K T Rt ls st (n0 + ce) w) : V Γ M F (d + 1) n0 mc ms pc ls st w ce sl := by
  have hl : len = 3 := hz.resolve_left (by intro q; cases q)
  subst hl
  dsimp only [zst] at h
  split at h
  · split at h
    · exact zs_icmp_eq hd (z_d hr) ⟨fun q => hT _ _ _ _ (h.1 q), fun q => hK _ _ _ (h.2 q)⟩
    · exact zs_icmp_ne hd (z_d hr) ⟨fun q => hT _ _ _ _ (h.1 q), fun q => hK _ _ _ (h.2 q)⟩
    · exact zs_icmp_lt hd (z_d hr) ⟨fun q => hT _ _ _ _ (h.1 q), fun q => hK _ _ _ (h.2 q)⟩
    · exact zs_icmp_ge hd (z_d hr) ⟨fun q => hT _ _ _ _ (h.1 q), fun q => hK _ _ _ (h.2 q)⟩
    · exact zs_icmp_gt hd (z_d hr) ⟨fun q => hT _ _ _ _ (h.1 q), fun q => hK _ _ _ (h.2 q)⟩
    · exact zs_icmp_le hd (z_d hr) ⟨fun q => hT _ _ _ _ (h.1 q), fun q => hK _ _ _ (h.2 q)⟩
  · exact h.elim
theorem zx_ifnull {o : Int} (hd : decode M.2.2.1 pc = .ok (.ifnull o, len)) (hz : zlenI (.ifnull o) = 0 ∨ len = zlenI (.ifnull o)) (hr : zres M.2.1 M.2.2.2.1 (.ifnull o) pc t tg v u N = true) (hnx : n0 + ce ≤ 4096) (hmc : ce ≤ mc ∧ sl ≤ ms) (hR : zRt Γ M F (d + 1) n0 mc ms ce sl Rt) (hK : ∀ ls st w, K ls st w → V Γ M F (d + 1) n0 mc ms (pc + len) ls st w ce sl) (hT : ∀ t ls st w, T t ls st w → V Γ M F (d + 1) n0 mc ms t ls st w ce sl) (h : zst Γ d M.2.2.2.2.1 (.ifnull o) t tg v u N K T Rt ls st (n0 + ce) w) : V Γ M F (d + 1) n0 mc ms pc ls st w ce sl := by
  have hl : len = 3 := hz.resolve_left (by intro q; cases q)
  subst hl
  dsimp only [zst] at h
  split at h
  · exact zs_ifnull hd (hK _ _ _ h)
  · exact zs_ifnullN hd (z_d hr) (hT _ _ _ _ h)
  · exact h.elim
theorem zx_ifnonnull {o : Int} (hd : decode M.2.2.1 pc = .ok (.ifnonnull o, len)) (hz : zlenI (.ifnonnull o) = 0 ∨ len = zlenI (.ifnonnull o)) (hr : zres M.2.1 M.2.2.2.1 (.ifnonnull o) pc t tg v u N = true) (hnx : n0 + ce ≤ 4096) (hmc : ce ≤ mc ∧ sl ≤ ms) (hR : zRt Γ M F (d + 1) n0 mc ms ce sl Rt) (hK : ∀ ls st w, K ls st w → V Γ M F (d + 1) n0 mc ms (pc + len) ls st w ce sl) (hT : ∀ t ls st w, T t ls st w → V Γ M F (d + 1) n0 mc ms t ls st w ce sl) (h : zst Γ d M.2.2.2.2.1 (.ifnonnull o) t tg v u N K T Rt ls st (n0 + ce) w) : V Γ M F (d + 1) n0 mc ms pc ls st w ce sl := by
  have hl : len = 3 := hz.resolve_left (by intro q; cases q)
  subst hl
  dsimp only [zst] at h
  split at h
  · exact zs_ifnonnull hd (z_d hr) (hT _ _ _ _ h)
  · exact zs_ifnonnullN hd (hK _ _ _ h)
  · exact h.elim
theorem zsw_mono {f g : Nat → Prop} (hfg : ∀ a, f a → g a) {x : Int} : ∀ (l : List Nat) (c : Int), zsw f x c l → zsw g x c l := by
  intro l
  induction l with
  | nil => intro c _; trivial
  | cons b l ih => intro c h; exact ⟨fun q => hfg _ (h.1 q), ih _ h.2⟩
theorem zx_table {df lo hi : Int} {offs : Array Int} (hd : decode M.2.2.1 pc = .ok (.tableswitch df lo hi offs, len)) (hz : zlenI (.tableswitch df lo hi offs) = 0 ∨ len = zlenI (.tableswitch df lo hi offs)) (hr : zres M.2.1 M.2.2.2.1 (.tableswitch df lo hi offs) pc t tg v u N = true) (hnx : n0 + ce ≤ 4096) (hmc : ce ≤ mc ∧ sl ≤ ms) (hR : zRt Γ M F (d + 1) n0 mc ms ce sl Rt) (hK : ∀ ls st w, K ls st w → V Γ M F (d + 1) n0 mc ms (pc + len) ls st w ce sl) (hT : ∀ t ls st w, T t ls st w → V Γ M F (d + 1) n0 mc ms t ls st w ce sl) (h : zst Γ d M.2.2.2.2.1 (.tableswitch df lo hi offs) t tg v u N K T Rt ls st (n0 + ce) w) : V Γ M F (d + 1) n0 mc ms pc ls st w ce sl := by
  obtain ⟨h3, h4⟩ := z_and hr
  obtain ⟨h5, h6⟩ := z_and h3
  dsimp only [zst] at h
  split at h
  · exact zs_table hd (z_d h5) (z_d h6) (z_d h4) ⟨fun q => hT _ _ _ _ (h.1 q), zsw_mono (fun a q => hT _ _ _ _ q) _ _ h.2⟩
  · exact h.elim
theorem zty0 {ty : FieldType} (h : 0 = (match ty with | .int => 0 | .boolean => 3 | .long => 1 | _ => 2)) : ty = .int := by
  cases ty <;> first | rfl | cases h
theorem zty3 {ty : FieldType} (h : 3 = (match ty with | .int => 0 | .boolean => 3 | .long => 1 | _ => 2)) : ty = .boolean := by
  cases ty <;> first | rfl | cases h
theorem zty1 {ty : FieldType} (h : 1 = (match ty with | .int => 0 | .boolean => 3 | .long => 1 | _ => 2)) : ty = .long := by
  cases ty <;> first | rfl | cases h
theorem zf_i {a c k : Nat} (h : zY c k = .int) : zf Γ w a c k = .int (w.2.1 a k) := by unfold zf; rw [h]
theorem zf_z {a c k : Nat} (h : zY c k = .boolean) : zf Γ w a c k = .int (w.2.1 a k) := by unfold zf; rw [h]
theorem zf_l {a c k : Nat} (h : zY c k = .long) : zf Γ w a c k = .long (w.2.2 a k) := by unfold zf; rw [h]
theorem zf_r {a c k : Nat} (h : 2 = (match zY c k with | .int => 0 | .boolean => 3 | .long => 1 | _ => 2)) : zf Γ w a c k = zv Γ (zrv (w.1 a k)) := by
  rw [← zrv_map]
  unfold zf
  cases hy : zY c k <;> rw [hy] at h <;> first | rfl | cases h
theorem zx_getfield {i : Nat} (hd : decode M.2.2.1 pc = .ok (.getfield i, len)) (hz : zlenI (.getfield i) = 0 ∨ len = zlenI (.getfield i)) (hr : zres M.2.1 M.2.2.2.1 (.getfield i) pc t tg v u N = true) (hnx : n0 + ce ≤ 4096) (hmc : ce ≤ mc ∧ sl ≤ ms) (hR : zRt Γ M F (d + 1) n0 mc ms ce sl Rt) (hK : ∀ ls st w, K ls st w → V Γ M F (d + 1) n0 mc ms (pc + len) ls st w ce sl) (hT : ∀ t ls st w, T t ls st w → V Γ M F (d + 1) n0 mc ms t ls st w ce sl) (h : zst Γ d M.2.2.2.2.1 (.getfield i) t tg v u N K T Rt ls st (n0 + ce) w) : V Γ M F (d + 1) n0 mc ms pc ls st w ce sl := by
  have hl : len = 3 := hz.resolve_left (by intro q; cases q)
  subst hl
  obtain ⟨h1, h4⟩ := z_and hr
  obtain ⟨h2, h3⟩ := z_and h1
  have hk := z_d h2
  have hl0 := z_d h3
  have hty := z_d h4
  dsimp only [zst] at h
  split at h
  · obtain ⟨ho, h⟩ := h
    split at h
    · exact zs_get hd hk hl0 ho (v := .int (w.2.1 _ _)) (zf_i (zty0 hty)) (hK _ _ _ h)
    · exact zs_get hd hk hl0 ho (v := .int (w.2.1 _ _)) (zf_z (zty3 hty)) (hK _ _ _ h)
    · exact zs_get hd hk hl0 ho (v := .long (w.2.2 _ _)) (zf_l (zty1 hty)) (hK _ _ _ h)
    · exact zs_get hd hk hl0 ho (v := zrv (w.1 _ _)) (zf_r hty) (hK _ _ _ h)
    · exact h.elim
  · exact h.elim
theorem zx_putfield {i : Nat} (hd : decode M.2.2.1 pc = .ok (.putfield i, len)) (hz : zlenI (.putfield i) = 0 ∨ len = zlenI (.putfield i)) (hr : zres M.2.1 M.2.2.2.1 (.putfield i) pc t tg v u N = true) (hnx : n0 + ce ≤ 4096) (hmc : ce ≤ mc ∧ sl ≤ ms) (hR : zRt Γ M F (d + 1) n0 mc ms ce sl Rt) (hK : ∀ ls st w, K ls st w → V Γ M F (d + 1) n0 mc ms (pc + len) ls st w ce sl) (hT : ∀ t ls st w, T t ls st w → V Γ M F (d + 1) n0 mc ms t ls st w ce sl) (h : zst Γ d M.2.2.2.2.1 (.putfield i) t tg v u N K T Rt ls st (n0 + ce) w) : V Γ M F (d + 1) n0 mc ms pc ls st w ce sl := by
  have hl : len = 3 := hz.resolve_left (by intro q; cases q)
  subst hl
  cases tg with
  | nil =>
    have e : t = pc := z_d hr
    subst e
    exact hT _ _ _ _ h
  | cons k tl =>
    have hr : (decide (t < 12) && decide (k < zN t) && decide (zpl ((k :: tl).getD 2 0) = some (.fieldLink M.2.1 i (zT t k).1 (zT t k).2.1 (zT t k).2.2.1)) && decide ((k :: tl).getD 1 0 = (match zY t k with | .int => 0 | .boolean => 3 | .long => 1 | _ => 2)) && decide ((zT t k).2.2.2 = false)) = true := hr
    obtain ⟨h1, hfin⟩ := z_and hr
    obtain ⟨h1, h4⟩ := z_and h1
    obtain ⟨h1, h3⟩ := z_and h1
    obtain ⟨h1, h2⟩ := z_and h1
    have hk := z_d h2
    have hl0 := z_d h3
    have hty := z_d h4
    have hfin := z_d hfin
    have hb : ∀ x : Int32, (x = 0 ∨ x = 1) → narrow .boolean (.int x) = .int x ∧ fits .boolean (.int x) = true := fun x hx => by rcases hx with rfl | rfl <;> exact ⟨rfl, rfl⟩
    dsimp only [zst] at h
    split at h
    · obtain ⟨ho, h⟩ := h
      split at h
      · rename_i he
        cases he
        have e := zty0 hty
        exact zs_putg hd hk hl0 hfin ho (by rw [e]; rfl) (by rw [e]; rfl) rfl (zw_puti ho.2 (Or.inl e)) (hK _ _ _ h)
      · rename_i he
        cases he
        obtain ⟨hx, h⟩ := h
        have e := zty3 hty
        exact zs_putg hd hk hl0 hfin ho (by rw [e]; exact (hb _ hx).1) (by rw [e]; exact (hb _ hx).2) rfl (zw_puti ho.2 (Or.inr e)) (hK _ _ _ h)
      · exact h.elim
    · obtain ⟨ho, h⟩ := h
      split at h
      · rename_i he
        cases he
        have e := zty1 hty
        exact zs_putg hd hk hl0 hfin ho (by rw [e]; rfl) (by rw [e]; rfl) rfl (zw_putj ho.2 e) (hK _ _ _ h)
      · exact h.elim
    · exact h.elim
theorem zx_iaload  (hd : decode M.2.2.1 pc = .ok (.iaload, len)) (hz : zlenI (.iaload) = 0 ∨ len = zlenI (.iaload)) (hr : zres M.2.1 M.2.2.2.1 (.iaload) pc t tg v u N = true) (hnx : n0 + ce ≤ 4096) (hmc : ce ≤ mc ∧ sl ≤ ms) (hR : zRt Γ M F (d + 1) n0 mc ms ce sl Rt) (hK : ∀ ls st w, K ls st w → V Γ M F (d + 1) n0 mc ms (pc + len) ls st w ce sl) (hT : ∀ t ls st w, T t ls st w → V Γ M F (d + 1) n0 mc ms t ls st w ce sl) (h : zst Γ d M.2.2.2.2.1 (.iaload) t tg v u N K T Rt ls st (n0 + ce) w) : V Γ M F (d + 1) n0 mc ms pc ls st w ce sl := by
  have hl : len = 1 := hz.resolve_left (by intro q; cases q)
  subst hl
  dsimp only [zst] at h
  split at h
  · split at h
    · exact zs_iald hnx hd h.1 h.2.1 (hK _ _ _ h.2.2)
    · exact h.elim
  · split at h
    · obtain ⟨rfl, h1, h2⟩ := h
      exact zs_ialdA hd h1 (hK _ _ _ h2)
    · exact h.elim
  · split at h
    · obtain ⟨rfl, h1, h2⟩ := h
      exact zs_ialdX hd h1 (hK _ _ _ h2)
    · exact h.elim
theorem zx_iastore  (hd : decode M.2.2.1 pc = .ok (.iastore, len)) (hz : zlenI (.iastore) = 0 ∨ len = zlenI (.iastore)) (hr : zres M.2.1 M.2.2.2.1 (.iastore) pc t tg v u N = true) (hnx : n0 + ce ≤ 4096) (hmc : ce ≤ mc ∧ sl ≤ ms) (hR : zRt Γ M F (d + 1) n0 mc ms ce sl Rt) (hK : ∀ ls st w, K ls st w → V Γ M F (d + 1) n0 mc ms (pc + len) ls st w ce sl) (hT : ∀ t ls st w, T t ls st w → V Γ M F (d + 1) n0 mc ms t ls st w ce sl) (h : zst Γ d M.2.2.2.2.1 (.iastore) t tg v u N K T Rt ls st (n0 + ce) w) : V Γ M F (d + 1) n0 mc ms pc ls st w ce sl := by
  have hl : len = 1 := hz.resolve_left (by intro q; cases q)
  subst hl
  dsimp only [zst] at h
  split at h
  · exact zs_iast hnx hd h.1 h.2.1 (hK _ _ _ h.2.2)
  · exact h.elim
theorem zx_baload  (hd : decode M.2.2.1 pc = .ok (.baload, len)) (hz : zlenI (.baload) = 0 ∨ len = zlenI (.baload)) (hr : zres M.2.1 M.2.2.2.1 (.baload) pc t tg v u N = true) (hnx : n0 + ce ≤ 4096) (hmc : ce ≤ mc ∧ sl ≤ ms) (hR : zRt Γ M F (d + 1) n0 mc ms ce sl Rt) (hK : ∀ ls st w, K ls st w → V Γ M F (d + 1) n0 mc ms (pc + len) ls st w ce sl) (hT : ∀ t ls st w, T t ls st w → V Γ M F (d + 1) n0 mc ms t ls st w ce sl) (h : zst Γ d M.2.2.2.2.1 (.baload) t tg v u N K T Rt ls st (n0 + ce) w) : V Γ M F (d + 1) n0 mc ms pc ls st w ce sl := by
  have hl : len = 1 := hz.resolve_left (by intro q; cases q)
  subst hl
  dsimp only [zst] at h
  split at h
  · exact zs_bald hnx hd h.1 h.2.1 (hK _ _ _ h.2.2)
  · exact h.elim
theorem zx_bastore  (hd : decode M.2.2.1 pc = .ok (.bastore, len)) (hz : zlenI (.bastore) = 0 ∨ len = zlenI (.bastore)) (hr : zres M.2.1 M.2.2.2.1 (.bastore) pc t tg v u N = true) (hnx : n0 + ce ≤ 4096) (hmc : ce ≤ mc ∧ sl ≤ ms) (hR : zRt Γ M F (d + 1) n0 mc ms ce sl Rt) (hK : ∀ ls st w, K ls st w → V Γ M F (d + 1) n0 mc ms (pc + len) ls st w ce sl) (hT : ∀ t ls st w, T t ls st w → V Γ M F (d + 1) n0 mc ms t ls st w ce sl) (h : zst Γ d M.2.2.2.2.1 (.bastore) t tg v u N K T Rt ls st (n0 + ce) w) : V Γ M F (d + 1) n0 mc ms pc ls st w ce sl := by
  have hl : len = 1 := hz.resolve_left (by intro q; cases q)
  subst hl
  dsimp only [zst] at h
  split at h
  · exact zs_bast hnx hd h.1 h.2.1 h.2.2.1 (hK _ _ _ h.2.2.2)
  · exact h.elim
theorem zx_aaload  (hd : decode M.2.2.1 pc = .ok (.aaload, len)) (hz : zlenI (.aaload) = 0 ∨ len = zlenI (.aaload)) (hr : zres M.2.1 M.2.2.2.1 (.aaload) pc t tg v u N = true) (hnx : n0 + ce ≤ 4096) (hmc : ce ≤ mc ∧ sl ≤ ms) (hR : zRt Γ M F (d + 1) n0 mc ms ce sl Rt) (hK : ∀ ls st w, K ls st w → V Γ M F (d + 1) n0 mc ms (pc + len) ls st w ce sl) (hT : ∀ t ls st w, T t ls st w → V Γ M F (d + 1) n0 mc ms t ls st w ce sl) (h : zst Γ d M.2.2.2.2.1 (.aaload) t tg v u N K T Rt ls st (n0 + ce) w) : V Γ M F (d + 1) n0 mc ms pc ls st w ce sl := by
  have hl : len = 1 := hz.resolve_left (by intro q; cases q)
  subst hl
  dsimp only [zst] at h
  split at h
  · exact zs_aald hnx hd h.1 h.2.1 h.2.2.1 (hK _ _ _ h.2.2.2)
  · exact h.elim
theorem zx_arraylength  (hd : decode M.2.2.1 pc = .ok (.arraylength, len)) (hz : zlenI (.arraylength) = 0 ∨ len = zlenI (.arraylength)) (hr : zres M.2.1 M.2.2.2.1 (.arraylength) pc t tg v u N = true) (hnx : n0 + ce ≤ 4096) (hmc : ce ≤ mc ∧ sl ≤ ms) (hR : zRt Γ M F (d + 1) n0 mc ms ce sl Rt) (hK : ∀ ls st w, K ls st w → V Γ M F (d + 1) n0 mc ms (pc + len) ls st w ce sl) (hT : ∀ t ls st w, T t ls st w → V Γ M F (d + 1) n0 mc ms t ls st w ce sl) (h : zst Γ d M.2.2.2.2.1 (.arraylength) t tg v u N K T Rt ls st (n0 + ce) w) : V Γ M F (d + 1) n0 mc ms pc ls st w ce sl := by
  have hl : len = 1 := hz.resolve_left (by intro q; cases q)
  subst hl
  dsimp only [zst] at h
  split at h
  · split at h
    · obtain ⟨rfl, h1⟩ := h
      exact zs_alenX hd (hK _ _ _ h1)
    · exact h.elim
  · split at h
    · exact zs_alen hnx hd h.1 h.2.1 (hK _ _ _ h.2.2)
    · exact h.elim
theorem znr_of {tg : List Nat} {pl n r : Nat} (h : znr tg N = true) (e : tg = [pl, n, r]) : n = N.2.2.2.2.2.2 ∧ r = (match N.2.2.2.2.1 with | none => 0 | some _ => 1) := by
  subst e
  obtain ⟨h1, h2⟩ := z_and h
  exact ⟨z_d h1, z_d h2⟩
theorem znr_fin {r : Nat} {st' : List Value} (hr : r = (match N.2.2.2.2.1 with | none => 0 | some _ => 1)) (hK : ∀ ls st w, K ls st w → V Γ M F (d + 1) n0 mc ms (pc + 3) ls st w ce sl) (x : Value) (w' : mW) (hq : match r with | 0 => K ls st' w' | _ => K ls (x :: st') w') : V Γ M F (d + 1) n0 mc ms (pc + 3) ls (match N.2.2.2.2.1 with | none => st' | some _ => x :: st') w' (ce + 0) (sl + 0) := by
  subst hr
  cases hret : N.2.2.2.2.1 with
  | none => rw [hret] at hq; exact hK _ _ _ hq
  | some ty => rw [hret] at hq; exact hK _ _ _ hq
theorem zx_invokevirtual {i : Nat} (hd : decode M.2.2.1 pc = .ok (.invokevirtual i, len)) (hz : zlenI (.invokevirtual i) = 0 ∨ len = zlenI (.invokevirtual i)) (hr : zres M.2.1 M.2.2.2.1 (.invokevirtual i) pc t tg v u N = true) (hnx : n0 + ce ≤ 4096) (hmc : ce ≤ mc ∧ sl ≤ ms) (hR : zRt Γ M F (d + 1) n0 mc ms ce sl Rt) (hK : ∀ ls st w, K ls st w → V Γ M F (d + 1) n0 mc ms (pc + len) ls st w ce sl) (hT : ∀ t ls st w, T t ls st w → V Γ M F (d + 1) n0 mc ms t ls st w ce sl) (h : zst Γ d M.2.2.2.2.1 (.invokevirtual i) t tg v u N K T Rt ls st (n0 + ce) w) : V Γ M F (d + 1) n0 mc ms pc ls st w ce sl := by
  have hl : len = 3 := hz.resolve_left (by intro q; cases q)
  subst hl
  cases tg with
  | nil =>
    have e : t = pc := z_d hr
    subst e
    exact hT _ _ _ _ h
  | cons pl tl =>
    have hr : (decide (zpl pl = some (.methodLink M.2.1 i N.1)) && decide (N.2.2.2.2.2.1 = 1) && decide (t < 12) && decide (zR t = N.1.cls) && znr (pl :: tl) N) = true := hr
    obtain ⟨hr, h6⟩ := z_and hr
    obtain ⟨h1, h5⟩ := z_and hr
    obtain ⟨h1, h4⟩ := z_and h1
    obtain ⟨h2, h3⟩ := z_and h1
    dsimp only [zst] at h
    split at h
    · rename_i he
      cases he
    · rename_i he
      obtain ⟨en, er⟩ := znr_of h6 he
      cases he
      obtain ⟨hn, h⟩ := h
      obtain ⟨e1, e2⟩ := zt_split hn
      split at h
      · rename_i a st' hst
        obtain ⟨ho, hl4, hc⟩ := h
        rw [hst] at e1
        rw [← e1]
        exact zs_callV hd (z_d h2) (z_d h3) (z_d h5) ho hl4 (e2.trans en) (by simpa using hmc) hc (znr_fin er hK)
      · exact h.elim
    · exact h.elim
theorem zx_invokestatic {i : Nat} (hd : decode M.2.2.1 pc = .ok (.invokestatic i, len)) (hz : zlenI (.invokestatic i) = 0 ∨ len = zlenI (.invokestatic i)) (hr : zres M.2.1 M.2.2.2.1 (.invokestatic i) pc t tg v u N = true) (hnx : n0 + ce ≤ 4096) (hmc : ce ≤ mc ∧ sl ≤ ms) (hR : zRt Γ M F (d + 1) n0 mc ms ce sl Rt) (hK : ∀ ls st w, K ls st w → V Γ M F (d + 1) n0 mc ms (pc + len) ls st w ce sl) (hT : ∀ t ls st w, T t ls st w → V Γ M F (d + 1) n0 mc ms t ls st w ce sl) (h : zst Γ d M.2.2.2.2.1 (.invokestatic i) t tg v u N K T Rt ls st (n0 + ce) w) : V Γ M F (d + 1) n0 mc ms pc ls st w ce sl := by
  have hl : len = 3 := hz.resolve_left (by intro q; cases q)
  subst hl
  have hr2 : (if t = 9 then decide (zpl (tg.getD 0 0) = some (.methodLink M.2.1 i arraycopyName)) else if t = 6 then decide (zpl (tg.getD 0 0) = some (.methodLink M.2.1 i Lib.Math.min.name)) else if t = 7 then decide (zpl (tg.getD 0 0) = some (.methodLink M.2.1 i Lib.Math.max.name)) else if t = 8 then decide ((M.2.1, i, N.1) ∈ zNests) && decide (N.2.2.2.2.2.1 = 0) && znr tg N else decide (zpl (tg.getD 0 0) = some (.methodLink M.2.1 i N.1)) && decide (N.2.2.2.2.2.1 = 0) && znr tg N) = true := hr
  dsimp only [zst] at h
  split at h
  · rw [if_pos rfl] at hr2
    split at h
    · exact zs_copy hnx hd (z_d hr2) zcopy_ok h.1 h.2.1 h.2.2.1 h.2.2.2.1 (hK _ _ _ h.2.2.2.2)
    · exact h.elim
  · rw [if_neg (by decide), if_pos rfl] at hr2
    split at h
    · exact zs_mmin hd (z_d hr2) zmin_ok hmc h.1 (hK _ _ _ h.2)
    · exact h.elim
  · rw [if_neg (by decide), if_neg (by decide), if_pos rfl] at hr2
    split at h
    · exact zs_mmax hd (z_d hr2) zmax_ok hmc h.1 (hK _ _ _ h.2)
    · exact h.elim
  · rename_i ht ht6 ht7
    rw [if_neg ht, if_neg ht6, if_neg ht7] at hr2
    split at h
    · obtain ⟨hn, hl4, hc⟩ := h
      obtain ⟨e1, e2⟩ := zt_split hn
      rw [← e1]
      by_cases h8 : t = 8
      · rw [if_pos h8] at hr2
        obtain ⟨hr2, h6⟩ := z_and hr2
        obtain ⟨h2, h3⟩ := z_and hr2
        obtain ⟨en, er⟩ := znr_of h6 rfl
        exact zs_callSN hd (z_d h2) (z_d h3) hl4 (e2.trans en) (by simpa using hmc) hc (znr_fin er hK)
      · rw [if_neg h8] at hr2
        obtain ⟨hr2, h6⟩ := z_and hr2
        obtain ⟨h2, h3⟩ := z_and hr2
        obtain ⟨en, er⟩ := znr_of h6 rfl
        exact zs_callS hd (z_d h2) (z_d h3) hl4 (e2.trans en) (by simpa using hmc) hc (znr_fin er hK)
    · exact h.elim
theorem zx_ireturn  (hd : decode M.2.2.1 pc = .ok (.ireturn, len)) (hz : zlenI (.ireturn) = 0 ∨ len = zlenI (.ireturn)) (hr : zres M.2.1 M.2.2.2.1 (.ireturn) pc t tg v u N = true) (hnx : n0 + ce ≤ 4096) (hmc : ce ≤ mc ∧ sl ≤ ms) (hR : zRt Γ M F (d + 1) n0 mc ms ce sl Rt) (hK : ∀ ls st w, K ls st w → V Γ M F (d + 1) n0 mc ms (pc + len) ls st w ce sl) (hT : ∀ t ls st w, T t ls st w → V Γ M F (d + 1) n0 mc ms t ls st w ce sl) (h : zst Γ d M.2.2.2.2.1 (.ireturn) t tg v u N K T Rt ls st (n0 + ce) w) : V Γ M F (d + 1) n0 mc ms pc ls st w ce sl := by
  have hl : len = 1 := hz.resolve_left (by intro q; cases q)
  subst hl
  dsimp only [zst] at h
  split at h
  · exact hR.1 _ _ _ _ hd h.1 h.2
  · exact h.elim
theorem zx_lreturn  (hd : decode M.2.2.1 pc = .ok (.lreturn, len)) (hz : zlenI (.lreturn) = 0 ∨ len = zlenI (.lreturn)) (hr : zres M.2.1 M.2.2.2.1 (.lreturn) pc t tg v u N = true) (hnx : n0 + ce ≤ 4096) (hmc : ce ≤ mc ∧ sl ≤ ms) (hR : zRt Γ M F (d + 1) n0 mc ms ce sl Rt) (hK : ∀ ls st w, K ls st w → V Γ M F (d + 1) n0 mc ms (pc + len) ls st w ce sl) (hT : ∀ t ls st w, T t ls st w → V Γ M F (d + 1) n0 mc ms t ls st w ce sl) (h : zst Γ d M.2.2.2.2.1 (.lreturn) t tg v u N K T Rt ls st (n0 + ce) w) : V Γ M F (d + 1) n0 mc ms pc ls st w ce sl := by
  have hl : len = 1 := hz.resolve_left (by intro q; cases q)
  subst hl
  dsimp only [zst] at h
  split at h
  · exact hR.2.1 _ _ _ _ hd h.1 h.2
  · exact h.elim
theorem zx_areturn  (hd : decode M.2.2.1 pc = .ok (.areturn, len)) (hz : zlenI (.areturn) = 0 ∨ len = zlenI (.areturn)) (hr : zres M.2.1 M.2.2.2.1 (.areturn) pc t tg v u N = true) (hnx : n0 + ce ≤ 4096) (hmc : ce ≤ mc ∧ sl ≤ ms) (hR : zRt Γ M F (d + 1) n0 mc ms ce sl Rt) (hK : ∀ ls st w, K ls st w → V Γ M F (d + 1) n0 mc ms (pc + len) ls st w ce sl) (hT : ∀ t ls st w, T t ls st w → V Γ M F (d + 1) n0 mc ms t ls st w ce sl) (h : zst Γ d M.2.2.2.2.1 (.areturn) t tg v u N K T Rt ls st (n0 + ce) w) : V Γ M F (d + 1) n0 mc ms pc ls st w ce sl := by
  have hl : len = 1 := hz.resolve_left (by intro q; cases q)
  subst hl
  dsimp only [zst] at h
  split at h
  · exact hR.2.2.1 _ _ _ _ hd h.1 (Or.inl ⟨_, rfl⟩) h.2
  · exact hR.2.2.1 _ _ _ _ hd h.1 (Or.inr rfl) h.2
  · exact h.elim
theorem zx_return_  (hd : decode M.2.2.1 pc = .ok (.return_, len)) (hz : zlenI (.return_) = 0 ∨ len = zlenI (.return_)) (hr : zres M.2.1 M.2.2.2.1 (.return_) pc t tg v u N = true) (hnx : n0 + ce ≤ 4096) (hmc : ce ≤ mc ∧ sl ≤ ms) (hR : zRt Γ M F (d + 1) n0 mc ms ce sl Rt) (hK : ∀ ls st w, K ls st w → V Γ M F (d + 1) n0 mc ms (pc + len) ls st w ce sl) (hT : ∀ t ls st w, T t ls st w → V Γ M F (d + 1) n0 mc ms t ls st w ce sl) (h : zst Γ d M.2.2.2.2.1 (.return_) t tg v u N K T Rt ls st (n0 + ce) w) : V Γ M F (d + 1) n0 mc ms pc ls st w ce sl := by
  have hl : len = 1 := hz.resolve_left (by intro q; cases q)
  subst hl
  dsimp only [zst] at h
  split at h
  · exact hR.2.2.2 _ _ _ hd h.1 h.2
  · exact h.elim
end ZX
