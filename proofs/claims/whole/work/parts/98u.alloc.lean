/-! What a constructor does: a new object, a new row, a reference put; Object.<init>; a constructor's call. -/
def zNestI : List (String × Nat × MethodName) := [(RX10, 9, yX6_init), (RX10, 33, yX7_init), (RX10, 40, yX4_init), (RX4, 11, yX9_init), (RX4, 20, yX8_init), (RX3, 11, yX0_init), (RX1, 11, yX6_init), (RX1, 24, yX0_init), (RX10, 73, yX0_init), (RX10, 78, yX8_init), (RX10, 79, yX5_init)]
/-- what the outer heap's knowledge says of nest mates and of rows of objects -/
def zGI (Γ : mG) : Prop := ∀ (s : State) (H : Heap), gE Γ s H → (∀ q ∈ zNestI, va_Nw (.methodLinkNest q.1 q.2.1 q.2.2 "LaidByArgument") s) ∧ ∀ C, C = RX0 ∨ C = RX5 ∨ C = RX8 → va_AO C s
/-- nothing is written there -/
def zDef (w : mW) (a : Nat) : Prop := (∀ k, w.1 a k = none) ∧ (∀ k, w.2.1 a k = 0) ∧ ∀ k, w.2.2 a k = 0
/-- its type's default is what an unwritten place holds -/
def zyk (t : FieldType) : Bool := match t with
  | .int => true
  | .boolean => true
  | .long => true
  | .object _ => true
  | .array _ => true
  | _ => false
theorem zY_k : ∀ c, c < 12 → ∀ k, k < zN c → zyk (zY c k) = true := by decide +kernel
theorem zf_def {Γ : mG} {w : mW} {a c k : Nat} (h : zDef w a) (hk : zyk (zY c k) = true) : zf Γ w a c k = defaultValue (zY c k) := by
  unfold zf
  rw [h.1, h.2.1, h.2.2]
  revert hk
  cases zY c k <;> intro hk <;> first | rfl | cases hk
section ALC
variable {Γ : mG} {M : mM} {F : mF} {d n0 mc ms pc ce sl : Nat} {ls st : List Value} {w : mW}
theorem zq_new {n q : Nat} {E : va_E} {H : Heap} (hP : va_P (gG Γ) zC (zw Γ n w ++ [(q, E)]) H) (hD : va_D (zA Γ) (zw Γ n w ++ [(q, E)])) (hz : H.size ≤ gB Γ + n + 1) : q = gB Γ + n := by
  have hat : (zw Γ n w ++ [(q, E)])[n]? = some (q, E) := by
    rw [List.getElem?_append_right (by rw [zw_len]; exact Nat.le_refl _), zw_len, Nat.sub_self]
    rfl
  have hlt := (hP n _ hat).lt
  have hge : gB Γ ≤ q := hD.2 n _ hat
  have hlt : q < H.size := hlt
  by_cases hq : q = gB Γ + n
  · exact hq
  · exfalso
    have hj : q - gB Γ < n := by omega
    have hat2 : (zw Γ n w ++ [(q, E)])[q - gB Γ]? = some (gB Γ + (q - gB Γ), ze Γ w (q - gB Γ)) := by
      rw [List.getElem?_append_left (by rw [zw_len]; exact hj), zw_at hj]
    have := hD.1 _ _ _ _ hat hat2 (by show q = gB Γ + (q - gB Γ); omega)
    omega
theorem zw_succ {n : Nat} {E : va_E} (hE : ze Γ w n = E) : zw Γ n w ++ [(gB Γ + n, E)] = zw Γ (n + 1) w := by
  unfold zw
  rw [List.range_succ, List.map_append, ← hE]
  rfl
theorem zs_new {i c pl pi pn : Nat} (hd : decode M.2.2.1 pc = .ok (.new i, 3)) (hc : c < 12) (hl0 : zpl pl = some (.classLink M.2.1 i (zR c))) (hi0 : zpl pi = some (.instantiable (zR c) (zN c))) (hn0 : zpl pn = some (.initialized (zR c))) (hL : zL (n0 + ce) = (10 + c, zN c)) (hdef : zDef w (n0 + ce)) (hmc : ce + 1 ≤ mc ∧ sl + zN c ≤ ms)
    (h : V Γ M F d n0 mc ms (pc + 3) ls (.ref (n0 + ce) :: st) w (ce + 1) (sl + zN c)) : V Γ M F d n0 mc ms pc ls st w ce sl := fun p e R s m args below meth c0 hC H locs lsA hP hS hl => by
  obtain ⟨hx, hb, hml, hrt, hown, hts, hlk, hnm, hK, hE, hGE, hsz, hrm, hfr, hlo⟩ := id hC
  have ho : ze Γ w (n0 + ce) = .inr (c, (List.range (zN c)).map (zf Γ w (n0 + ce) c)) := by
    rw [ze_obj (c := c) (by rw [hL]), hL]
  refine va_new (ci := c) (C := zR c) (T := zT c) (N := zN c) (fs := (List.range (zN c)).map (zf Γ w (n0 + ce) c)) hx hb hts (zu_in c hc) (zY c) (zY_ok c hc) hown (hts _ (zTw_of hl0 rfl)) (hts _ (zTw_of hi0 rfl)) (hts _ (zTw_of hn0 rfl)) hK hP zw_D hS (fun q hq => by show gB Γ ≤ q; omega) (zC_of hc) (fun j hj => ?_) (by omega) (by omega) hd (fun q H1 hP1 hD1 hS1 => ?_)
  · have := ze_fields (Γ := Γ) (w := w) (a := n0 + ce) (c := c) hj
    show defaultValue (zY c j) = ((List.range (zN c)).map (zf Γ w (n0 + ce) c)).getD j .null
    rw [List.getD_eq_getElem?_getD, this, ← zf_def hdef (zY_k c hc j hj)]
    rfl
  · refine W.sz fun hz => ?_
    have hq := zq_new hP1 hD1 (by omega)
    subst hq
    rw [zw_succ ho] at hP1
    have hk := h p e R s m args below meth c0 hC H1 locs lsA hP1 hS1 hl
    have hlt : n0 + ce < 4096 := by
      have : n0 + ce < 82 := by
        rcases Nat.lt_or_ge (n0 + ce) 82 with z | z
        · exact z
        · exfalso
          have e : zL (n0 + ce) = (0, 0) := by
            unfold zL
            rw [List.getD_eq_getElem?_getD, List.getElem?_eq_none (by show 82 ≤ n0 + ce; exact z)]
            rfl
          rw [e] at hL
          have := congrArg Prod.fst hL
          simp at this
          omega
      omega
    rw [List.map_cons, zv_ref hlt] at hk
    exact hk
theorem zs_newa {n : Int32} {N t pl : Nat} {at0 : ArrayType} {ty : FieldType} (hd : decode M.2.2.1 pc = .ok (.newarray at0, 2)) (hty : newarray.typeOf at0 = ty) (hl0 : zpl pl = some (.arrayClass (newarray.typeOf at0))) (ht : (t = 0 ∧ ty = .int) ∨ (t = 1 ∧ ty = .boolean)) (hL : zL (n0 + ce) = (t, N)) (hnx : n0 + ce < 82) (hn : ¬ n < 0) (hN : n.toNatClampNeg = N) (hN2 : N ≤ 4096) (hdef : zDef w (n0 + ce)) (hmc : ce + 1 ≤ mc ∧ sl + N ≤ ms)
    (h : V Γ M F d n0 mc ms (pc + 2) ls (.ref (n0 + ce) :: st) w (ce + 1) (sl + N)) : V Γ M F d n0 mc ms pc ls (.int n :: st) w ce sl := fun p e R s m args below meth c0 hC H locs lsA hP hS hl => by
  obtain ⟨hx, hb, hml, hrt, hown, hts, hlk, hnm, hK, hE, hGE, hsz, hrm, hfr, hlo⟩ := id hC
  have ht2 : t < 2 := by rcases ht with z | z <;> omega
  have ho : ze Γ w (n0 + ce) = .inl (gA Γ t, (N, .inl (fun _ => 0))) := by
    rw [ze_row (t := t) (by rw [hL]) ht2, hL]
    have e : w.2.1 (n0 + ce) = fun _ => 0 := funext hdef.2.1
    rw [e]
  have hb4 : N * componentBytes ty ≤ 536870912 := by
    rcases ht with ⟨-, rfl⟩ | ⟨-, rfl⟩
    · show N * 4 ≤ 536870912
      omega
    · show N * 1 ≤ 536870912
      omega
  refine va_newa (ty := ty) (N' := N) (a0 := (N, .inl (fun _ => 0))) hx hb (hts _ (zTw_of hl0 rfl)) hty hK hP zw_D hS (fun q hq => by show gB Γ ≤ q; omega) (fun cA => ?_) hn hN hb4 (by omega) (by omega) hd (fun q cA H1 hK1 hP1 hD1 hS1 => ?_)
  · rcases ht with ⟨-, rfl⟩ | ⟨-, rfl⟩ <;> rfl
  · refine W.sz fun hz => ?_
    have hq := zq_new hP1 hD1 (by omega)
    subst hq
    have hcA : cA = gA Γ t := by
      obtain ⟨t0, t1, -, -, -⟩ := zty_at Γ
      have h5 := (hK1.2 5 (cA, ty) rfl).2
      rcases ht with ⟨rfl, rfl⟩ | ⟨rfl, rfl⟩
      · have h0 := (hK.2 0 _ t0).2
        exact Option.some.inj (h5.symm.trans h0)
      · have h0 := (hK.2 1 _ t1).2
        exact Option.some.inj (h5.symm.trans h0)
    subst hcA
    rw [zw_succ ho] at hP1
    have hk := h p e R s m args below meth c0 hC H1 locs lsA hP1 hS1 hl
    rw [List.map_cons, zv_ref (by omega)] at hk
    exact hk
theorem zs_newq {n : Int32} {N t i pl : Nat} {C : String} (hG : zGI Γ) (hd : decode M.2.2.1 pc = .ok (.anewarray i, 3)) (hl0 : zpl pl = some (.classLink M.2.1 i C)) (ht : (t = 2 ∧ C = RX0) ∨ (t = 3 ∧ C = RX5) ∨ (t = 4 ∧ C = RX8)) (hL : zL (n0 + ce) = (t, N)) (hnx : n0 + ce < 82) (hn : ¬ n < 0) (hN : n.toNatClampNeg = N) (hN2 : N ≤ 4096) (hdef : zDef w (n0 + ce)) (hmc : ce + 1 ≤ mc ∧ sl + N ≤ ms)
    (h : V Γ M F d n0 mc ms (pc + 3) ls (.ref (n0 + ce) :: st) w (ce + 1) (sl + N)) : V Γ M F d n0 mc ms pc ls (.int n :: st) w ce sl := fun p e R s m args below meth c0 hC H locs lsA hP hS hl => by
  obtain ⟨hx, hb, hml, hrt, hown, hts, hlk, hnm, hK, hE, hGE, hsz, hrm, hfr, hlo⟩ := id hC
  have ho : ze Γ w (n0 + ce) = .inl (gA Γ t, (N, .inr (.inr (.inr (.inr (fun _ => none)))))) := by
    rw [ze_refs (t := t) (by rw [hL]) (by omega) (by omega), hL]
    have e : (fun j => (w.1 (n0 + ce) j).map (zl Γ)) = fun _ => none := funext (fun j => by rw [hdef.1 j]; rfl)
    rw [e]
  refine va_newq (C := C) (N' := N) hx hb hown (hts _ (zTw_of hl0 rfl)) ((hG _ _ hE).2 C (by rcases ht with z | z | z <;> simp [z.2])) hK hP zw_D hS (fun q hq => by show gB Γ ≤ q; omega) hn hN (by omega) (by omega) (by omega) hd (fun q cA H1 hK1 hP1 hD1 hS1 => ?_)
  refine W.sz fun hz => ?_
  have hq := zq_new hP1 hD1 (by omega)
  subst hq
  have hcA : cA = gA Γ t := by
    obtain ⟨-, -, t2, t3, t4⟩ := zty_at Γ
    obtain ⟨-, -, -, -, -, h5⟩ := (hK1.2 5 (cA, .object C) rfl).2
    rcases ht with ⟨rfl, rfl⟩ | ⟨rfl, rfl⟩ | ⟨rfl, rfl⟩
    · obtain ⟨-, -, -, -, -, h0⟩ := (hK.2 2 _ t2).2
      exact Option.some.inj (h5.symm.trans h0)
    · obtain ⟨-, -, -, -, -, h0⟩ := (hK.2 3 _ t3).2
      exact Option.some.inj (h5.symm.trans h0)
    · obtain ⟨-, -, -, -, -, h0⟩ := (hK.2 4 _ t4).2
      exact Option.some.inj (h5.symm.trans h0)
  subst hcA
  rw [zw_succ ho] at hP1
  have hk := h p e R s m args below meth c0 hC H1 locs lsA hP1 hS1 hl
  rw [List.map_cons, zv_ref (by omega)] at hk
  exact hk
theorem sr_1 {a k b j : Nat} {x : Option Nat} : (sr w a k x).1 b j = if b = a ∧ j = k then x else w.1 b j := rfl
theorem sr_2 {a k : Nat} {x : Option Nat} : (sr w a k x).2 = w.2 := rfl
theorem zw_putr {nx a c k b : Nat} (h : (zL a).1 = 10 + c) (hy : ∀ (w' : mW) , zf Γ w' a c k = va_rf ((w'.1 a k).map (zl Γ))) (hb : b < 4096) : (zw Γ nx w).set a (gB Γ + a, .inr (c, ((List.range (zL a).2).map (zf Γ w a c)).set k (.ref (gB Γ + b)))) = zw Γ nx (sr w a k (some b)) := by
  refine zw_upd (fun b2 hb2 => ze_congr (fun j => ?_) (fun j => rfl) (fun j => rfl)) ?_
  · show (if b2 = a ∧ j = k then some b else w.1 b2 j) = _
    rw [if_neg (fun q => hb2 q.1)]
  · rw [ze_obj h]
    congr 2
    refine (ze_put (w := w) (w' := sr w a k (some b)) ?_ (fun j hj => zf_congr ?_ rfl rfl)).symm
    · rw [hy, sr_1, if_pos ⟨rfl, rfl⟩]
      show Value.ref (zl Γ b) = _
      unfold zl
      rw [if_pos hb]
    · show (if a = a ∧ j = k then some b else w.1 a j) = _
      rw [if_neg (fun q => hj q.2)]
theorem zs_putR {i c k pl a b : Nat} (hd : decode M.2.2.1 pc = .ok (.putfield i, 3)) (hk : k < zN c) (hl0 : zpl pl = some (.fieldLink M.2.1 i (zT c k).1 (zT c k).2.1 (zT c k).2.2.1)) (hfin : (zT c k).2.2.2 = true) (hnm : M.1.name = "<init>") (hdecl : (zT c k).1 = M.2.1) (ho : zOb (n0 + ce) a c) (hb4 : b < 4096) (hn : narrow (zY c k) (.ref (gB Γ + b)) = .ref (gB Γ + b)) (hf : fits (zY c k) (.ref (gB Γ + b)) = true) (hy : ∀ (w' : mW) , zf Γ w' a c k = va_rf ((w'.1 a k).map (zl Γ)))
    (h : V Γ M F d n0 mc ms (pc + 3) ls st (sr w a k (some b)) ce sl) : V Γ M F d n0 mc ms pc ls (.ref b :: .ref a :: st) w ce sl := fun p e R s m args below meth c0 hC H locs lsA hP hS hl => by
  obtain ⟨hN, hc⟩ := zOb_n ho
  have ha : a < 4096 := Nat.lt_trans (zOb_lt ho) (by decide)
  rw [List.map_cons, List.map_cons, zv_ref ha, zv_ref hb4]
  refine va_putF (D := gG Γ) (ci := c) (C := zR c) (T := zT c) (N := zN c) (v := .ref (gB Γ + b)) (ty := zY c k) hC.1 hC.2.1 hC.2.2.2.2.2.1 (zu_in c hc) (zY c) (zY_ok c hc) (zT_nm c hc) hC.2.2.2.2.1 hC.2.2.2.2.2.2.2.2.1 hP zw_D hS a (zOb_at ho) (zC_of hc) k hk (hC.2.2.2.2.2.1 _ (zTw_of hl0 rfl)) (fun _ h9 => h9) hfin (hC.2.2.2.2.2.2.2.1.trans hnm) hdecl (zY_ok c hc k hk) hn hf (by simp; omega) hd (fun H1 locs1 hP1 hD1 hS1 => ?_)
  rw [zw_putr ho.2 hy hb4] at hP1
  exact h p e R s m args below meth c0 hC H1 locs1 lsA hP1 hS1 hl
theorem zs_astq {a b c t : Nat} {i : Int32} (hnx : n0 + ce ≤ 82) (hd : decode M.2.2.1 pc = .ok (.aastore, 1)) (ho : zAr (n0 + ce) a t) (ht : (t = 2 ∧ c = 0) ∨ (t = 3 ∧ c = 5) ∨ (t = 4 ∧ c = 8)) (hob : zOb (n0 + ce) b c) (hi : vp_in i (zL a).2)
    (h : V Γ M F d n0 mc ms (pc + 1) ls st (sr w a i.toNatClampNeg (some b)) ce sl) : V Γ M F d n0 mc ms pc ls (.ref b :: .int i :: .ref a :: st) w ce sl := fun p e R s m args below meth c0 hC H locs lsA hP hS hl => by
  have h1 := ho.1
  have h2 := hob.1
  have ht2 : 2 ≤ t ∧ t ≤ 4 := by rcases ht with z | z | z <;> omega
  obtain ⟨-, -, t2, t3, t4⟩ := zty_at Γ
  have hq : (zty Γ)[t]? = some (gA Γ t, .object (zR c)) := by
    rcases ht with ⟨rfl, rfl⟩ | ⟨rfl, rfl⟩ | ⟨rfl, rfl⟩
    · exact t2
    · exact t3
    · exact t4
  have hcc : c < 12 := by rcases ht with z | z | z <;> omega
  rw [List.map_cons, List.map_cons, List.map_cons, zv_ref (show a < 4096 by omega), zv_ref (show b < 4096 by omega)]
  refine va_astq (D := gG Γ) (r := (zR c, zT c, zN c)) hC.1 hC.2.1 hC.2.2.2.2.2.2.2.2.1 hP zw_D hS a t b c (zAr_refs ho ht2.1 ht2.2) hq (zOb_at hob) (zC_of hcc) hi hd (fun H1 locs1 hP1 hD1 hS1 => ?_)
  have ee : (zw Γ (n0 + ce) w).set a (gB Γ + a, .inl (gA Γ t, (zL a).2, .inr (.inr (.inr (.inr (va_up (fun j => (w.1 a j).map (zl Γ)) i.toNatClampNeg (some (gB Γ + b)))))))) = zw Γ (n0 + ce) (sr w a i.toNatClampNeg (some b)) := by
    refine zw_upd (fun b2 hb2 => ze_congr (fun j => ?_) (fun j => rfl) (fun j => rfl)) ?_
    · show (if b2 = a ∧ j = i.toNatClampNeg then some b else w.1 b2 j) = _
      rw [if_neg (fun q => hb2 q.1)]
    · rw [ze_refs ho.2 ht2.1 (by omega)]
      congr 7
      funext j
      unfold va_up
      rw [sr_1]
      by_cases hj : j = i.toNatClampNeg
      · rw [if_pos ⟨rfl, hj⟩, if_pos hj]
        show some (zl Γ b) = _
        unfold zl
        rw [if_pos (by omega)]
      · rw [if_neg (fun q => hj q.2), if_neg hj]
  rw [ee] at hP1
  exact h p e R s m args below meth c0 hC H1 locs1 lsA hP1 hS1 hl
theorem zs_obj {i pl a : Nat} (hd : decode M.2.2.1 pc = .ok (.invokespecial i, 3)) (hl0 : zpl pl = some (.methodLink M.2.1 i Lib.objectInit)) (h : V Γ M F (d + 1) n0 mc ms (pc + 3) ls [] w ce sl) : V Γ M F (d + 1) n0 mc ms pc ls [.ref a] w ce sl := fun p e R s m args below meth c0 hC H locs lsA hP hS hl => by
  obtain ⟨hx, hb, hml, hrt, hown, hts, hlk, hnm, hK, hE, hGE, hsz, hrm, hfr, hlo⟩ := id hC
  refine W.objInit (idx := i) hx hb hown (hts _ (zTw_of hl0 rfl)) (hts _ (zTw_of (i := 1027) (by decide +kernel) rfl)) (hts _ (zTw_of (i := 1028) (by decide +kernel) rfl)) rfl (hl.1.trans hml.symm) (rest := []) rfl hd (by omega) (by show 2 * 0 + 0 + 12 ≤ R.locals; omega) ?_
  exact h p e R s m args below meth c0 hC H locs lsA hP hS hl
theorem zs_init {i pl pv a mc' ms' : Nat} {N : mM} {as st' : List Value} {Q : Value → mW → Prop} (hd : decode M.2.2.1 pc = .ok (.invokespecial i, 3)) (hl0 : zpl pl = some (.methodLink M.2.1 i N.1)) (hv0 : zpl pv = some (.instanceMethod N.1)) (hr : N.2.2.2.2.1 = none) (hk : N.1.name = "<init>") (ha : a < 4096) (hst : st'.length ≤ 4) (has : as.length = N.2.2.2.2.2.2) (hmc : ce + mc' ≤ mc ∧ sl + ms' ≤ ms)
    (hc : Call Γ d mc' ms' N (.ref a :: as) (n0 + ce) w Q) (h : ∀ x w', Q x w' → V Γ M F (d + 1) n0 mc ms (pc + 3) ls st' w' (ce + mc') (sl + ms')) : V Γ M F (d + 1) n0 mc ms pc ls (as.reverse ++ .ref a :: st') w ce sl := fun p e R s m args below meth c0 hC H locs lsA hP hS hl => by
  obtain ⟨hx, hb, hml, hrt, hown, hts, hlk, hnm, hK, hE, hGE, hsz, hrm, hfr, hlo⟩ := id hC
  obtain ⟨hN, hcM⟩ := hc
  obtain ⟨hN1, hN2, hN3, hN4, -, -⟩ := id hN
  refine W.sz fun hz => ?_
  have hH := zH_size hsz hP hS hz
  have hMet := hcM { frames := d, cells := mc', slots := ms', locals := 64 * d } rfl rfl (Nat.le_refl _) (Nat.le_refl _)
  have est : (as.reverse ++ .ref a :: st').map (zv Γ) = (as.map (zv Γ)).reverse ++ .ref (gB Γ + a) :: st'.map (zv Γ) := by
    rw [List.map_append, List.map_reverse, List.map_cons, zv_ref ha]
  rw [est]
  have eas : (Value.ref a :: as).map (zv Γ) = .ref (gB Γ + a) :: as.map (zv Γ) := by rw [List.map_cons, zv_ref ha]
  have hzw : zws N = .code N.1 N.2.2.1 N.2.2.2.1 none :: zTw := by unfold zws; rw [hr]
  refine zs_back (N := N) (Q := Q) (a := #[]) hC hH hS hl (va_runI (As := as.map (zv Γ)) (n := N.2.2.2.2.2.2) ⟨hx, hb, hml, hown, hts⟩ hMet (cwI _ hts (goodIn_zTw (zws_in hN)) hzw rfl rfl (hts _ hN2) (hts _ (zTw_of hl0 rfl)) (hts _ (zTw_of hv0 rfl)) hk ⟨hN3.1, hN3.2.1, hN3.2.2⟩ ⟨hfr, by show 8 + (N.2.2.2.1 + 11) + 64 * d ≤ R.locals; omega⟩) ⟨zPre.blind, fun U hU hW => ?_⟩ rfl (by rw [List.length_map]; exact has) hl.1 rfl (lv_room (zv_rest st' hst)) hd ⟨Nat.le_trans hmc.1 hrm.1, Nat.le_trans hmc.2 hrm.2⟩) (fun x w' q => by rw [hr]; exact h x w' q)
  refine ⟨by rw [eas], by rw [hU]; exact hH, by rw [hU]; exact hP, va_K.moved hW.alike hK, ?_, hGE⟩
  rw [hU]
  exact hGE.1 s U H hW (hGE.2.1 s s.heap H hS.2.1 hE)
theorem zs_initN {i pv a mc' ms' : Nat} {N : mM} {as st' : List Value} {Q : Value → mW → Prop} (hG : zGI Γ) (hd : decode M.2.2.1 pc = .ok (.invokespecial i, 3)) (hl0 : (M.2.1, i, N.1) ∈ zNestI) (hv0 : zpl pv = some (.instanceMethod N.1)) (hr : N.2.2.2.2.1 = none) (hk : N.1.name = "<init>") (ha : a < 4096) (hst : st'.length ≤ 4) (has : as.length = N.2.2.2.2.2.2) (hmc : ce + mc' ≤ mc ∧ sl + ms' ≤ ms)
    (hc : Call Γ d mc' ms' N (.ref a :: as) (n0 + ce) w Q) (h : ∀ x w', Q x w' → V Γ M F (d + 1) n0 mc ms (pc + 3) ls st' w' (ce + mc') (sl + ms')) : V Γ M F (d + 1) n0 mc ms pc ls (as.reverse ++ .ref a :: st') w ce sl := fun p e R s m args below meth c0 hC H locs lsA hP hS hl => by
  obtain ⟨hx, hb, hml, hrt, hown, hts, hlk, hnm, hK, hE, hGE, hsz, hrm, hfr, hlo⟩ := id hC
  obtain ⟨hN, hcM⟩ := hc
  obtain ⟨hN1, hN2, hN3, hN4, -, -⟩ := id hN
  refine W.sz fun hz => ?_
  have hH := zH_size hsz hP hS hz
  have hMet := hcM { frames := d, cells := mc', slots := ms', locals := 64 * d } rfl rfl (Nat.le_refl _) (Nat.le_refl _)
  have est : (as.reverse ++ .ref a :: st').map (zv Γ) = (as.map (zv Γ)).reverse ++ .ref (gB Γ + a) :: st'.map (zv Γ) := by
    rw [List.map_append, List.map_reverse, List.map_cons, zv_ref ha]
  rw [est]
  have eas : (Value.ref a :: as).map (zv Γ) = .ref (gB Γ + a) :: as.map (zv Γ) := by rw [List.map_cons, zv_ref ha]
  have hzw : zws N = .code N.1 N.2.2.1 N.2.2.2.1 none :: zTw := by unfold zws; rw [hr]
  have hnest := (hG _ _ hE).1 _ hl0
  refine zs_back (N := N) (Q := Q) (a := #[]) hC hH hS hl (va_runIN (host := "LaidByArgument") (As := as.map (zv Γ)) (n := N.2.2.2.2.2.2) ⟨hx, hb, hml, hown, hts⟩ hMet ⟨va_cnB _ hts (goodIn_zTw (zws_in hN)) hzw rfl rfl hnest (hts _ hN2) ⟨hN3.1, hN3.2.1, hN3.2.2⟩ ⟨hfr, by show 8 + (N.2.2.2.1 + 11) + 64 * d ≤ R.locals; omega⟩, hk, hts _ (zTw_of hv0 rfl)⟩ ⟨zPre.blind, fun U hU hW => ?_⟩ rfl (by rw [List.length_map]; exact has) hl.1 rfl (lv_room (zv_rest st' hst)) hd ⟨Nat.le_trans hmc.1 hrm.1, Nat.le_trans hmc.2 hrm.2⟩) (fun x w' q => by rw [hr]; exact h x w' q)
  refine ⟨by rw [eas], by rw [hU]; exact hH, by rw [hU]; exact hP, va_K.moved hW.alike hK, ?_, hGE⟩
  rw [hU]
  exact hGE.1 s U H hW (hGE.2.1 s s.heap H hS.2.1 hE)
/-- the world where it isn't made yet may be another -/
theorem zw_cong {n : Nat} {w' : mW} (h : ∀ a, a < n → ∀ k, w'.1 a k = w.1 a k ∧ w'.2.1 a k = w.2.1 a k ∧ w'.2.2 a k = w.2.2 a k) : zw Γ n w' = zw Γ n w := by
  unfold zw
  refine List.map_congr_left (fun a ha => ?_)
  have ha := h a (List.mem_range.mp ha)
  rw [ze_congr (fun j => (ha j).1) (fun j => (ha j).2.1) (fun j => (ha j).2.2)]
theorem V.cong {w' : mW} (hw : ∀ a, a < n0 + ce → ∀ k, w'.1 a k = w.1 a k ∧ w'.2.1 a k = w.2.1 a k ∧ w'.2.2 a k = w.2.2 a k) (h : V Γ M F d n0 mc ms pc ls st w' ce sl) : V Γ M F d n0 mc ms pc ls st w ce sl := fun p e R s m args below meth c0 hC H locs lsA hP hS hl => h p e R s m args below meth c0 hC H locs lsA (by rw [zw_cong hw]; exact hP) hS hl
end ALC
