section ZY
variable {Γ : mG} {M : mM} {F : mF} {d n0 mc ms pc ce sl len t : Nat} {tg : List Nat} {v : Int32} {u : Int64} {N : mM} {K : List Value → List Value → mW → Prop} {T : Nat → List Value → List Value → mW → Prop} {Rt : Value → mW → Prop} {ls st : List Value} {w : mW}
theorem zst_sound {I : Instr} (hd : decode M.2.2.1 pc = .ok (I, len)) (hz : zlenI I = 0 ∨ len = zlenI I) (hr : zres M.2.1 M.2.2.2.1 I pc t tg v u N = true) (hnx : n0 + ce ≤ 4096) (hmc : ce ≤ mc ∧ sl ≤ ms) (hR : zRt Γ M F (d + 1) n0 mc ms ce sl Rt) (hK : ∀ ls st w, K ls st w → V Γ M F (d + 1) n0 mc ms (pc + len) ls st w ce sl) (hT : ∀ t ls st w, T t ls st w → V Γ M F (d + 1) n0 mc ms t ls st w ce sl) (h : zst Γ d M.2.2.2.2.1 I t tg v u N K T Rt ls st (n0 + ce) w) : V Γ M F (d + 1) n0 mc ms pc ls st w ce sl := by
  cases I with
  | iconst a0 => exact zx_iconst hd hz hr hnx hmc hR hK hT h
  | bipush a0 => exact zx_bipush hd hz hr hnx hmc hR hK hT h
  | sipush a0 => exact zx_sipush hd hz hr hnx hmc hR hK hT h
  | lconst a0 => exact zx_lconst hd hz hr hnx hmc hR hK hT h
  | ldc a0 => exact zx_ldc hd hz hr hnx hmc hR hK hT h
  | ldc_w a0 => exact zx_ldcw hd hz hr hnx hmc hR hK hT h
  | ldc2_w a0 => exact zx_ldc2 hd hz hr hnx hmc hR hK hT h
  | aconst_null  => exact zx_null hd hz hr hnx hmc hR hK hT h
  | iload a0 => exact zx_iload hd hz hr hnx hmc hR hK hT h
  | iload_n a0 => exact zx_iload_n hd hz hr hnx hmc hR hK hT h
  | lload a0 => exact zx_lload hd hz hr hnx hmc hR hK hT h
  | lload_n a0 => exact zx_lload_n hd hz hr hnx hmc hR hK hT h
  | aload a0 => exact zx_aload hd hz hr hnx hmc hR hK hT h
  | aload_n a0 => exact zx_aload_n hd hz hr hnx hmc hR hK hT h
  | iinc a0 a1 => exact zx_iinc hd hz hr hnx hmc hR hK hT h
  | istore a0 => exact zx_istore hd hz hr hnx hmc hR hK hT h
  | istore_n a0 => exact zx_istore_n hd hz hr hnx hmc hR hK hT h
  | astore a0 => exact zx_astore hd hz hr hnx hmc hR hK hT h
  | astore_n a0 => exact zx_astore_n hd hz hr hnx hmc hR hK hT h
  | lstore a0 => exact zx_lstore hd hz hr hnx hmc hR hK hT h
  | lstore_n a0 => exact zx_lstore_n hd hz hr hnx hmc hR hK hT h
  | ifCond a0 a1 => exact zx_ifCond hd hz hr hnx hmc hR hK hT h
  | if_icmp a0 a1 => exact zx_if_icmp hd hz hr hnx hmc hR hK hT h
  | ifnull a0 => exact zx_ifnull hd hz hr hnx hmc hR hK hT h
  | ifnonnull a0 => exact zx_ifnonnull hd hz hr hnx hmc hR hK hT h
  | goto a0 => exact zx_goto hd hz hr hnx hmc hR hK hT h
  | tableswitch a0 a1 a2 a3 => exact zx_table hd hz hr hnx hmc hR hK hT h
  | getfield a0 => exact zx_getfield hd hz hr hnx hmc hR hK hT h
  | putfield a0 => exact zx_putfield hd hz hr hnx hmc hR hK hT h
  | invokevirtual a0 => exact zx_invokevirtual hd hz hr hnx hmc hR hK hT h
  | invokestatic a0 => exact zx_invokestatic hd hz hr hnx hmc hR hK hT h
  | iadd  => exact zx_iadd hd hz hr hnx hmc hR hK hT h
  | isub  => exact zx_isub hd hz hr hnx hmc hR hK hT h
  | imul  => exact zx_imul hd hz hr hnx hmc hR hK hT h
  | iand  => exact zx_iand hd hz hr hnx hmc hR hK hT h
  | ior  => exact zx_ior hd hz hr hnx hmc hR hK hT h
  | ixor  => exact zx_ixor hd hz hr hnx hmc hR hK hT h
  | ishl  => exact zx_ishl hd hz hr hnx hmc hR hK hT h
  | ishr  => exact zx_ishr hd hz hr hnx hmc hR hK hT h
  | iushr  => exact zx_iushr hd hz hr hnx hmc hR hK hT h
  | ineg  => exact zx_ineg hd hz hr hnx hmc hR hK hT h
  | i2b  => exact zx_i2b hd hz hr hnx hmc hR hK hT h
  | i2s  => exact zx_i2s hd hz hr hnx hmc hR hK hT h
  | i2c  => exact zx_i2c hd hz hr hnx hmc hR hK hT h
  | i2l  => exact zx_i2l hd hz hr hnx hmc hR hK hT h
  | l2i  => exact zx_l2i hd hz hr hnx hmc hR hK hT h
  | ladd  => exact zx_ladd hd hz hr hnx hmc hR hK hT h
  | lsub  => exact zx_lsub hd hz hr hnx hmc hR hK hT h
  | lmul  => exact zx_lmul hd hz hr hnx hmc hR hK hT h
  | lcmp  => exact zx_lcmp hd hz hr hnx hmc hR hK hT h
  | idiv  => exact zx_idiv hd hz hr hnx hmc hR hK hT h
  | irem  => exact zx_irem hd hz hr hnx hmc hR hK hT h
  | ldiv  => exact zx_ldiv hd hz hr hnx hmc hR hK hT h
  | lrem  => exact zx_lrem hd hz hr hnx hmc hR hK hT h
  | dup  => exact zx_dup hd hz hr hnx hmc hR hK hT h
  | dup2  => exact zx_dup2 hd hz hr hnx hmc hR hK hT h
  | pop  => exact zx_pop hd hz hr hnx hmc hR hK hT h
  | iaload  => exact zx_iaload hd hz hr hnx hmc hR hK hT h
  | iastore  => exact zx_iastore hd hz hr hnx hmc hR hK hT h
  | baload  => exact zx_baload hd hz hr hnx hmc hR hK hT h
  | bastore  => exact zx_bastore hd hz hr hnx hmc hR hK hT h
  | aaload  => exact zx_aaload hd hz hr hnx hmc hR hK hT h
  | arraylength  => exact zx_arraylength hd hz hr hnx hmc hR hK hT h
  | ireturn  => exact zx_ireturn hd hz hr hnx hmc hR hK hT h
  | lreturn  => exact zx_lreturn hd hz hr hnx hmc hR hK hT h
  | areturn  => exact zx_areturn hd hz hr hnx hmc hR hK hT h
  | return_  => exact zx_return_ hd hz hr hnx hmc hR hK hT h
  | _ =>
    have e : t = pc := z_d hr
    subst e
    exact hT _ _ _ _ h
/-- a block: from its first instruction on, till a jump (T: the walk at the target) or a return -/
def zbl (Γ : mG) (M : mM) (F : mF) (d n0 mc ms ce sl nx : Nat) (rt : Option FieldType) (Rt : Value → mW → Prop) : List mE → List Value → List Value → mW → Prop
  | [] => fun _ _ _ => False
  | q :: cs => fun ls st w => zst Γ d rt q.2.1 q.2.2.2.1 q.2.2.2.2.1 q.2.2.2.2.2.1 q.2.2.2.2.2.2.1 q.2.2.2.2.2.2.2 (zbl Γ M F d n0 mc ms ce sl nx rt Rt cs) (fun t ls st w => V Γ M F (d + 1) n0 mc ms t ls st w ce sl) Rt ls st nx w
/-- the code is as it says -/
def zok (own : String) (b : ByteArray) (ml : Nat) : List mE → Bool
  | [] => true
  | q :: cs => zOK own b ml q && (match cs with
    | [] => true
    | r :: _ => decide (q.1 + q.2.2.1 = r.1)) && zok own b ml cs
theorem zbl_sound (hnx : n0 + ce ≤ 4096) (hmc : ce ≤ mc ∧ sl ≤ ms) (hR : zRt Γ M F (d + 1) n0 mc ms ce sl Rt) : ∀ (cs : List mE), zok M.2.1 M.2.2.1 M.2.2.2.1 cs = true → ∀ (q : mE) (cs' : List mE), cs = q :: cs' → ∀ ls st w, zbl Γ M F d n0 mc ms ce sl (n0 + ce) M.2.2.2.2.1 Rt cs ls st w → V Γ M F (d + 1) n0 mc ms q.1 ls st w ce sl := by
  intro cs
  induction cs with
  | nil => intro _ q cs' h; cases h
  | cons r cs ih =>
    intro hok q cs' he ls st w h
    cases he
    unfold zok at hok
    obtain ⟨h1, h2⟩ := z_and hok
    obtain ⟨h1, h3⟩ := z_and h1
    obtain ⟨g1, g2, g3⟩ := zOK_dec h1
    refine zst_sound (K := zbl Γ M F d n0 mc ms ce sl (n0 + ce) M.2.2.2.2.1 Rt cs) g1 g2 g3 hnx hmc hR (fun ls st w hk => ?_) (fun t ls st w ht => ht) h
    cases cs with
    | nil => exact hk.elim
    | cons r2 cs2 =>
      have e : r.1 + r.2.2.1 = r2.1 := z_d h3
      rw [e]
      exact ih h2 r2 cs2 rfl ls st w hk
/-- the code from a place on -/
def zat (pc : Nat) : List mE → List mE
  | [] => []
  | q :: cs => if q.1 = pc then q :: cs else zat pc cs
theorem zat_ok {own : String} {b : ByteArray} {ml pc : Nat} : ∀ (cs : List mE), zok own b ml cs = true → zok own b ml (zat pc cs) = true := by
  intro cs
  induction cs with
  | nil => intro h; exact h
  | cons q cs ih =>
    intro h
    unfold zat
    by_cases hq : q.1 = pc
    · rw [if_pos hq]; exact h
    · rw [if_neg hq]
      unfold zok at h
      exact ih (z_and h).2
theorem zat_pc {pc : Nat} : ∀ (cs : List mE) (q : mE) (cs' : List mE), zat pc cs = q :: cs' → q.1 = pc := by
  intro cs
  induction cs with
  | nil => intro q cs' h; cases h
  | cons r cs ih =>
    intro q cs' h
    unfold zat at h
    by_cases hq : r.1 = pc
    · rw [if_pos hq] at h; cases h; exact hq
    · rw [if_neg hq] at h; exact ih q cs' h
/-- a walk goes on at a place of the code -/
theorem V.at {cs : List mE} (pc : Nat) (hok : zok M.2.1 M.2.2.1 M.2.2.2.1 cs = true) (hnx : n0 + ce ≤ 4096) (hmc : ce ≤ mc ∧ sl ≤ ms) (hR : zRt Γ M F (d + 1) n0 mc ms ce sl Rt) (h : zbl Γ M F d n0 mc ms ce sl (n0 + ce) M.2.2.2.2.1 Rt (zat pc cs) ls st w) : V Γ M F (d + 1) n0 mc ms pc ls st w ce sl := by
  cases hz : zat pc cs with
  | nil => rw [hz] at h; exact h.elim
  | cons q cs' =>
    have e := zat_pc _ _ _ hz
    rw [← e]
    rw [hz] at h
    exact zbl_sound hnx hmc hR _ (by rw [← hz]; exact zat_ok cs hok) q cs' rfl ls st w h
/-- of a method that makes nothing, in the world of all cells -/
theorem V.run {cs : List mE} {Q : Value → mW → Prop} {pc : Nat} (rt : Option FieldType) (hok : zok M.2.1 M.2.2.1 M.2.2.2.1 cs = true) (hrt : M.2.2.2.2.1 = rt) (h : zbl Γ M (zF Γ M 82 0 0 Q) d 82 0 0 0 0 82 rt Q (zat pc cs) ls st w) : V Γ M (zF Γ M 82 0 0 Q) (d + 1) 82 0 0 pc ls st w 0 0 :=
  V.at pc hok (by decide) ⟨Nat.le_refl _, Nat.le_refl _⟩ (zRt_m ⟨rfl, Nat.le_refl _⟩) (by rw [hrt]; exact h)
end ZY
