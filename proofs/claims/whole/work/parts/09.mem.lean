/-! Fields, rows, calls at a walk in the fixed world. -/
theorem zu_0 : u_ws (zR 0) (zT 0) (zN 0) = [1158, 1160, 1162, 1164].filterMap zpl := by decide +kernel
theorem zu_1 : u_ws (zR 1) (zT 1) (zN 1) = [1201, 1203, 1205, 1207, 1209, 1211].filterMap zpl := by decide +kernel
theorem zu_2 : u_ws (zR 2) (zT 2) (zN 2) = [1052, 1054, 1056].filterMap zpl := by decide +kernel
theorem zu_3 : u_ws (zR 3) (zT 3) (zN 3) = [1172, 1174, 1176, 1178, 1180].filterMap zpl := by decide +kernel
theorem zu_4 : u_ws (zR 4) (zT 4) (zN 4) = [1121, 1123, 1125].filterMap zpl := by decide +kernel
theorem zu_5 : u_ws (zR 5) (zT 5) (zN 5) = [1224, 1226, 1228].filterMap zpl := by decide +kernel
theorem zu_6 : u_ws (zR 6) (zT 6) (zN 6) = [1037, 1039].filterMap zpl := by decide +kernel
theorem zu_7 : u_ws (zR 7) (zT 7) (zN 7) = [1069, 1071].filterMap zpl := by decide +kernel
theorem zu_8 : u_ws (zR 8) (zT 8) (zN 8) = [1111, 1113, 1115].filterMap zpl := by decide +kernel
theorem zu_9 : u_ws (zR 9) (zT 9) (zN 9) = [1091, 1093, 1095, 1097, 1099].filterMap zpl := by decide +kernel
theorem zu_10 : u_ws (zR 10) (zT 10) (zN 10) = [3032, 3034, 3036, 3038, 3040, 3042, 3044, 3046, 3048, 3050, 3052, 3054, 3056, 3058].filterMap zpl := by decide +kernel
theorem zu_11 : u_ws (zR 11) (zT 11) (zN 11) = [5082, 5084, 5086, 5088, 5090, 5092, 5094, 5096, 5098, 5100, 5102, 5104, 5106, 5108, 5110, 5112, 5114, 5116, 5118, 5120, 5122, 5124, 5126, 5128, 5130, 5132, 5134, 5136, 5138, 5140, 5142, 5144, 5146, 5148, 5150, 5152, 5154, 5156, 5158, 5160, 5162, 5164, 5166, 5168, 5170, 5172].filterMap zpl := by decide +kernel
theorem zu_g : ∀ c, c < 12 → (u_ws (zR c) (zT c) (zN c)).all goodWord = true := by decide +kernel
theorem zu_of {c : Nat} {ps : List Nat} (hc : c < 12) (h : u_ws (zR c) (zT c) (zN c) = ps.filterMap zpl) : ∀ w ∈ u_ws (zR c) (zT c) (zN c), w ∈ zTw := by
  intro w hw
  have hg := List.all_eq_true.mp (zu_g c hc) w hw
  rw [h] at hw
  obtain ⟨i, -, hi⟩ := List.mem_filterMap.mp hw
  exact zTw_of hi hg
theorem zu_in : ∀ c, c < 12 → ∀ w ∈ u_ws (zR c) (zT c) (zN c), w ∈ zTw := fun c hc => match c, hc with
  | 0, h => zu_of h zu_0
  | 1, h => zu_of h zu_1
  | 2, h => zu_of h zu_2
  | 3, h => zu_of h zu_3
  | 4, h => zu_of h zu_4
  | 5, h => zu_of h zu_5
  | 6, h => zu_of h zu_6
  | 7, h => zu_of h zu_7
  | 8, h => zu_of h zu_8
  | 9, h => zu_of h zu_9
  | 10, h => zu_of h zu_10
  | 11, h => zu_of h zu_11
theorem zC_of {c : Nat} (h : c < 12) : zC[c]? = some (zR c, zT c, zN c) := zC_at c h
theorem zty_at (Γ : mG) : (zty Γ)[0]? = some (gA Γ 0, .int) ∧ (zty Γ)[1]? = some (gA Γ 1, .boolean) ∧ (zty Γ)[2]? = some (gA Γ 2, .object RX0) ∧ (zty Γ)[3]? = some (gA Γ 3, .object RX5) ∧ (zty Γ)[4]? = some (gA Γ 4, .object RX8) := ⟨rfl, rfl, rfl, rfl, rfl⟩
section ZM
variable {Γ : mG} {M : mM} {F : mF} {d n0 mc ms pc ce sl : Nat} {ls st : List Value} {w : mW}
theorem zv_ref {Γ : mG} {a : Nat} (h : a < 4096) : zv Γ (.ref a) = .ref (gB Γ + a) := by
  show Value.ref (zl Γ a) = _
  unfold zl
  rw [if_pos h]
theorem zOb_lt {nx a c : Nat} (h : zOb nx a c) : a < 82 := by
  have h2 := h.2
  rcases Nat.lt_or_ge a 82 with q | q
  · exact q
  · exfalso
    have e : zL a = (0, 0) := by
      unfold zL
      rw [List.getD_eq_getElem?_getD, List.getElem?_eq_none (by show 82 ≤ a; exact q)]
      rfl
    rw [e] at h2
    simp at h2
    omega
theorem zOb_n {nx a c : Nat} (h : zOb nx a c) : (zL a).2 = zN c ∧ c < 12 := by
  have h1 := zl_len a (zOb_lt h) (by rw [h.2]; omega)
  rw [h.2, Nat.add_sub_cancel_left] at h1
  exact h1
theorem zOb_at {a c : Nat} (h : zOb (n0 + ce) a c) : (zw Γ (n0 + ce) w)[a]? = some (gB Γ + a, .inr (c, (List.range (zL a).2).map (zf Γ w a c))) := by
  rw [zw_at h.1, ze_obj h.2]
theorem zs_get {i c k pl a : Nat} (hd : decode M.2.2.1 pc = .ok (.getfield i, 3)) (hk : k < zN c) (hl0 : zpl pl = some (.fieldLink M.2.1 i (zT c k).1 (zT c k).2.1 (zT c k).2.2.1)) (ho : zOb (n0 + ce) a c) {v : Value} (hv : zf Γ w a c k = zv Γ v)
    (h : V Γ M F d n0 mc ms (pc + 3) ls (v :: st) w ce sl) : V Γ M F d n0 mc ms pc ls (.ref a :: st) w ce sl := fun p e R s m args below meth c0 hC H locs lsA hP hS hl => by
  obtain ⟨hN, hc⟩ := zOb_n ho
  have ha : a < 4096 := Nat.lt_trans (zOb_lt ho) (by decide)
  rw [List.map_cons, zv_ref ha]
  refine va_get (D := gG Γ) (ci := c) (C := zR c) (T := zT c) (N := zN c) (v := zv Γ v) hC.1 hC.2.1 hC.2.2.2.2.2.1 (zu_in c hc) hC.2.2.2.2.1 hC.2.2.2.2.2.2.2.2.1 hP a (zOb_at ho) (zC_of hc) k hk (hC.2.2.2.2.2.1 _ (zTw_of hl0 rfl)) (fun _ h9 => h9) ?_ hd (h p e R s m args below meth c0 hC H locs lsA hP hS hl)
  rw [ze_fields (by omega), hv]
theorem zs_putg {i c k pl a : Nat} {v : Value} {w' : mW} (hd : decode M.2.2.1 pc = .ok (.putfield i, 3)) (hk : k < zN c) (hl0 : zpl pl = some (.fieldLink M.2.1 i (zT c k).1 (zT c k).2.1 (zT c k).2.2.1)) (hfin : (zT c k).2.2.2 = false) (ho : zOb (n0 + ce) a c) (hn : narrow (zY c k) v = v) (hf : fits (zY c k) v = true) (hz : zv Γ v = v)
    (hw : (zw Γ (n0 + ce) w).set a (gB Γ + a, .inr (c, ((List.range (zL a).2).map (zf Γ w a c)).set k v)) = zw Γ (n0 + ce) w')
    (h : V Γ M F d n0 mc ms (pc + 3) ls st w' ce sl) : V Γ M F d n0 mc ms pc ls (v :: .ref a :: st) w ce sl := fun p e R s m args below meth c0 hC H locs lsA hP hS hl => by
  obtain ⟨hN, hc⟩ := zOb_n ho
  have ha : a < 4096 := Nat.lt_trans (zOb_lt ho) (by decide)
  rw [List.map_cons, List.map_cons, zv_ref ha, hz]
  refine va_put (D := gG Γ) (ci := c) (C := zR c) (T := zT c) (N := zN c) (v := v) (ty := zY c k) hC.1 hC.2.1 hC.2.2.2.2.2.1 (zu_in c hc) (zY c) (zY_ok c hc) (zT_nm c hc) hC.2.2.2.2.1 hC.2.2.2.2.2.2.2.2.1 hP zw_D hS a (zOb_at ho) (zC_of hc) k hk (hC.2.2.2.2.2.1 _ (zTw_of hl0 rfl)) (fun _ h9 => h9) hfin (zY_ok c hc k hk) hn hf (by simp; omega) hd (fun H1 locs1 hP1 hD1 hS1 => ?_)
  rw [hw] at hP1
  exact h p e R s m args below meth c0 hC H1 locs1 lsA hP1 hS1 hl
theorem zAr_lt {a t : Nat} (h : a < n0 + ce) (hn : n0 + ce ≤ 82) : a < 4096 := by omega
theorem zAr_at {a t : Nat} (h : zAr (n0 + ce) a t) (ht : t < 2) : (zw Γ (n0 + ce) w)[a]? = some (gB Γ + a, .inl (gA Γ t, ((zL a).2, .inl (w.2.1 a)))) := by
  rw [zw_at h.1, ze_row h.2 ht]
theorem zAr_refs {a t : Nat} (h : zAr (n0 + ce) a t) (h2 : 2 ≤ t) (ht : t ≤ 4) : (zw Γ (n0 + ce) w)[a]? = some (gB Γ + a, .inl (gA Γ t, ((zL a).2, .inr (.inr (.inr (.inr (fun j => (w.1 a j).map (zl Γ)))))))) := by
  rw [zw_at h.1, ze_refs h.2 h2 (by omega)]
theorem zs_iald {a : Nat} {i : Int32} (hnx : n0 + ce ≤ 4096) (hd : decode M.2.2.1 pc = .ok (.iaload, 1)) (ho : zAr (n0 + ce) a 0) (hi : vp_in i (zL a).2) (h : V Γ M F d n0 mc ms (pc + 1) ls (.int (w.2.1 a i.toNatClampNeg) :: st) w ce sl) : V Γ M F d n0 mc ms pc ls (.int i :: .ref a :: st) w ce sl := fun p e R s m args below meth c0 hC H locs lsA hP hS hl => by
  have h1 := ho.1
  rw [List.map_cons, List.map_cons, zv_ref (show a < 4096 by omega)]
  exact va_iald (D := gG Γ) hC.1 hC.2.1 hC.2.2.2.2.2.2.2.2.1 hP a 0 (zAr_at ho (by decide)) rfl hi hd (h p e R s m args below meth c0 hC H locs lsA hP hS hl)
theorem zs_bald {a : Nat} {i : Int32} (hnx : n0 + ce ≤ 4096) (hd : decode M.2.2.1 pc = .ok (.baload, 1)) (ho : zAr (n0 + ce) a 1) (hi : vp_in i (zL a).2) (h : V Γ M F d n0 mc ms (pc + 1) ls (.int (w.2.1 a i.toNatClampNeg) :: st) w ce sl) : V Γ M F d n0 mc ms pc ls (.int i :: .ref a :: st) w ce sl := fun p e R s m args below meth c0 hC H locs lsA hP hS hl => by
  have h1 := ho.1
  rw [List.map_cons, List.map_cons, zv_ref (show a < 4096 by omega)]
  exact va_zald (D := gG Γ) hC.1 hC.2.1 hC.2.2.2.2.2.2.2.2.1 hP a 1 (zAr_at ho (by decide)) rfl hi hd (h p e R s m args below meth c0 hC H locs lsA hP hS hl)
theorem zs_iast {a : Nat} {i x : Int32} (hnx : n0 + ce ≤ 4096) (hd : decode M.2.2.1 pc = .ok (.iastore, 1)) (ho : zAr (n0 + ce) a 0) (hi : vp_in i (zL a).2) (h : V Γ M F d n0 mc ms (pc + 1) ls st (si w a i.toNatClampNeg x) ce sl) : V Γ M F d n0 mc ms pc ls (.int x :: .int i :: .ref a :: st) w ce sl := fun p e R s m args below meth c0 hC H locs lsA hP hS hl => by
  have h1 := ho.1
  rw [List.map_cons, List.map_cons, List.map_cons, zv_ref (show a < 4096 by omega)]
  refine va_iast (D := gG Γ) hC.1 hC.2.1 hC.2.2.2.2.2.2.2.2.1 hP zw_D hS a 0 (zAr_at ho (by decide)) rfl hi hd (fun H1 locs1 hP1 hD1 hS1 => ?_)
  rw [zw_row ho.2 (by decide), sa_upd] at hP1
  exact h p e R s m args below meth c0 hC H1 locs1 lsA hP1 hS1 hl
theorem zs_bast {a : Nat} {i x : Int32} (hnx : n0 + ce ≤ 4096) (hd : decode M.2.2.1 pc = .ok (.bastore, 1)) (ho : zAr (n0 + ce) a 1) (hi : vp_in i (zL a).2) (hx : x = 0 ∨ x = 1) (h : V Γ M F d n0 mc ms (pc + 1) ls st (si w a i.toNatClampNeg x) ce sl) : V Γ M F d n0 mc ms pc ls (.int x :: .int i :: .ref a :: st) w ce sl := fun p e R s m args below meth c0 hC H locs lsA hP hS hl => by
  have h1 := ho.1
  have hb : vp_nar .boolean x = x := by rcases hx with rfl | rfl <;> decide
  rw [List.map_cons, List.map_cons, List.map_cons, zv_ref (show a < 4096 by omega)]
  refine va_zast (D := gG Γ) hC.1 hC.2.1 hC.2.2.2.2.2.2.2.2.1 hP zw_D hS a 1 (zAr_at ho (by decide)) rfl hi hd (fun H1 locs1 hP1 hD1 hS1 => ?_)
  rw [hb, zw_row ho.2 (by decide), sa_upd] at hP1
  exact h p e R s m args below meth c0 hC H1 locs1 lsA hP1 hS1 hl
theorem zrv_map (r : Option Nat) : va_rf (r.map (zl Γ)) = zv Γ (zrv r) := by cases r <;> rfl
theorem zs_aald {a t : Nat} {i : Int32} (hnx : n0 + ce ≤ 4096) (hd : decode M.2.2.1 pc = .ok (.aaload, 1)) (ho : zAr (n0 + ce) a t) (ht : 2 ≤ t ∧ t ≤ 4) (hi : vp_in i (zL a).2) (h : V Γ M F d n0 mc ms (pc + 1) ls (zrv (w.1 a i.toNatClampNeg) :: st) w ce sl) : V Γ M F d n0 mc ms pc ls (.int i :: .ref a :: st) w ce sl := fun p e R s m args below meth c0 hC H locs lsA hP hS hl => by
  have h1 := ho.1
  have hk := h p e R s m args below meth c0 hC H locs lsA hP hS hl
  rw [List.map_cons, ← zrv_map] at hk
  rw [List.map_cons, List.map_cons, zv_ref (show a < 4096 by omega)]
  obtain ⟨-, -, t2, t3, t4⟩ := zty_at Γ
  have hq : ∃ C, (zty Γ)[t]? = some (gA Γ t, .object C) := by
    rcases (show t = 2 ∨ t = 3 ∨ t = 4 by omega) with rfl | rfl | rfl
    · exact ⟨_, t2⟩
    · exact ⟨_, t3⟩
    · exact ⟨_, t4⟩
  obtain ⟨C, hq⟩ := hq
  exact va_aldq (D := gG Γ) hC.1 hC.2.1 hC.2.2.2.2.2.2.2.2.1 hP a t (zAr_refs ho ht.1 ht.2) hq hi hd hk
theorem zs_alen {a t : Nat} (hnx : n0 + ce ≤ 4096) (hd : decode M.2.2.1 pc = .ok (.arraylength, 1)) (ho : zAr (n0 + ce) a t) (ht : t ≤ 4) (h : V Γ M F d n0 mc ms (pc + 1) ls (.int (Int32.ofNat (zL a).2) :: st) w ce sl) : V Γ M F d n0 mc ms pc ls (.ref a :: st) w ce sl := fun p e R s m args below meth c0 hC H locs lsA hP hS hl => by
  have h1 := ho.1
  rw [List.map_cons, zv_ref (show a < 4096 by omega)]
  obtain ⟨t0, t1, t2, t3, t4⟩ := zty_at Γ
  by_cases h2 : t < 2
  · rcases (show t = 0 ∨ t = 1 by omega) with rfl | rfl
    · exact va_alen (D := gG Γ) hC.1 hC.2.1 hC.2.2.2.2.2.2.2.2.1 hP a 0 (zAr_at ho (by decide)) t0 rfl hd (h p e R s m args below meth c0 hC H locs lsA hP hS hl)
    · exact va_alen (D := gG Γ) hC.1 hC.2.1 hC.2.2.2.2.2.2.2.2.1 hP a 1 (zAr_at ho (by decide)) t1 rfl hd (h p e R s m args below meth c0 hC H locs lsA hP hS hl)
  · have hz := zAr_refs (Γ := Γ) (w := w) ho (by omega) ht
    rcases (show t = 2 ∨ t = 3 ∨ t = 4 by omega) with rfl | rfl | rfl
    · exact va_alen (D := gG Γ) hC.1 hC.2.1 hC.2.2.2.2.2.2.2.2.1 hP a 2 hz t2 rfl hd (h p e R s m args below meth c0 hC H locs lsA hP hS hl)
    · exact va_alen (D := gG Γ) hC.1 hC.2.1 hC.2.2.2.2.2.2.2.2.1 hP a 3 hz t3 rfl hd (h p e R s m args below meth c0 hC H locs lsA hP hS hl)
    · exact va_alen (D := gG Γ) hC.1 hC.2.1 hC.2.2.2.2.2.2.2.2.1 hP a 4 hz t4 rfl hd (h p e R s m args below meth c0 hC H locs lsA hP hS hl)
theorem zl_out {Γ : mG} {k : Nat} : zl Γ (4096 + k) = gS Γ k := by
  unfold zl
  rw [if_neg (by omega), Nat.add_sub_cancel_left]
theorem zs_ialdA {i : Int32} (hd : decode M.2.2.1 pc = .ok (.iaload, 1)) (hi : vp_in i 6) (h : V Γ M F d n0 mc ms (pc + 1) ls (.int (zAB i.toNatClampNeg) :: st) w ce sl) : V Γ M F d n0 mc ms pc ls (.int i :: .ref 4110 :: st) w ce sl := fun p e R s m args below meth c0 hC H locs lsA hP hS hl => by
  have hq := hC.2.2.2.2.2.2.2.2.2.2.1.2.2.2.1 _ _ hC.2.2.2.2.2.2.2.2.2.1
  have est : (List.map (zv Γ) (.int i :: .ref 4110 :: st)) = .int i :: .ref (gS Γ 14) :: st.map (zv Γ) := by
    rw [List.map_cons, List.map_cons]
    show _ :: Value.ref (zl Γ (4096 + 14)) :: _ = _
    rw [zl_out]
    rfl
  rw [est]
  exact va_ti (f := fun i => .int (zAB i)) hC.1 hC.2.1 hq.1 hS hi rfl hd (h p e R s m args below meth c0 hC H locs lsA hP hS hl)
theorem zs_ialdX {i : Int32} (hd : decode M.2.2.1 pc = .ok (.iaload, 1)) (hi : vp_in i (gN Γ)) (h : V Γ M F d n0 mc ms (pc + 1) ls (.int (gX Γ i.toNatClampNeg) :: st) w ce sl) : V Γ M F d n0 mc ms pc ls (.int i :: .ref 4111 :: st) w ce sl := fun p e R s m args below meth c0 hC H locs lsA hP hS hl => by
  have hq := hC.2.2.2.2.2.2.2.2.2.2.1.2.2.2.1 _ _ hC.2.2.2.2.2.2.2.2.2.1
  have est : (List.map (zv Γ) (.int i :: .ref 4111 :: st)) = .int i :: .ref (gS Γ 15) :: st.map (zv Γ) := by
    rw [List.map_cons, List.map_cons]
    show _ :: Value.ref (zl Γ (4096 + 15)) :: _ = _
    rw [zl_out]
    rfl
  rw [est]
  exact va_sld hC.1 hC.2.1 hq.2.2.1 hq.2.2.2.1 hq.2.2.2.2 hS hi hd (h p e R s m args below meth c0 hC H locs lsA hP hS hl)
theorem zs_alenX (hd : decode M.2.2.1 pc = .ok (.arraylength, 1)) (h : V Γ M F d n0 mc ms (pc + 1) ls (.int (Int32.ofNat (gN Γ)) :: st) w ce sl) : V Γ M F d n0 mc ms pc ls (.ref 4111 :: st) w ce sl := fun p e R s m args below meth c0 hC H locs lsA hP hS hl => by
  have hq := hC.2.2.2.2.2.2.2.2.2.2.1.2.2.2.1 _ _ hC.2.2.2.2.2.2.2.2.2.1
  have est : (List.map (zv Γ) (.ref 4111 :: st)) = .ref (gS Γ 15) :: st.map (zv Γ) := by
    rw [List.map_cons]
    show Value.ref (zl Γ (4096 + 15)) :: _ = _
    rw [zl_out]
  rw [est]
  exact va_slen hC.1 hC.2.1 hq.2.2.1 hq.2.2.2.1 hq.2.2.2.2 hS hd (h p e R s m args below meth c0 hC H locs lsA hP hS hl)
theorem zs_statA {i pl : Nat} (hd : decode M.2.2.1 pc = .ok (.getstatic i, 3)) (hl0 : zpl pl = some (.fieldLink M.2.1 i "LaidByArgument" "ABOVE" "[I")) (h : V Γ M F d n0 mc ms (pc + 3) ls (.ref 4110 :: st) w ce sl) : V Γ M F d n0 mc ms pc ls st w ce sl := fun p e R s m args below meth c0 hC H locs lsA hP hS hl => by
  have hq := hC.2.2.2.2.2.2.2.2.2.2.1.2.2.2.1 _ _ hC.2.2.2.2.2.2.2.2.2.1
  have hk := h p e R s m args below meth c0 hC H locs lsA hP hS hl
  have est : (List.map (zv Γ) (.ref 4110 :: st)) = .ref (gS Γ 14) :: st.map (zv Γ) := by
    rw [List.map_cons]
    show Value.ref (zl Γ (4096 + 14)) :: _ = _
    rw [zl_out]
  rw [est] at hk
  exact va_gets hC.1 hC.2.1 hq.2.1 hS hC.2.2.2.2.1 (hC.2.2.2.2.2.1 _ (zTw_of hl0 rfl)) (fun _ h9 => h9) hd hk
end ZM
