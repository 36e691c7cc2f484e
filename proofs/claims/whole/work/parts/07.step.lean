/-! One instruction: what it asks, and where it goes on. -/
/-- place, instruction, length, first number, further numbers, an int, a long, a method -/
abbrev mE : Type := Nat × Instr × Nat × Nat × List Nat × Int32 × Int64 × mM
def zM0 : mM := (⟨"", "", ""⟩, "", ⟨#[]⟩, 0, none, 0, 0)
def zOb (nx a c : Nat) : Prop := a < nx ∧ (zL a).1 = 10 + c
def zAr (nx a t : Nat) : Prop := a < nx ∧ (zL a).1 = t
def zsw (f : Nat → Prop) (x : Int) : Int → List Nat → Prop
  | _, [] => True
  | c, a :: l => (x = c → f a) ∧ zsw f x (c + 1) l
def zI (ls : List Value) (i : Nat) (f : Int32 → Prop) : Prop := match ls[i]? with
  | some (.int x) => f x
  | _ => False
def zJ (ls : List Value) (i : Nat) (f : Int64 → Prop) : Prop := match ls[i]? with
  | some (.long x) => f x
  | _ => False
def zQ (v : Option Value) (f : Value → Prop) : Prop := match v with
  | some (.ref a) => f (.ref a)
  | some .null => f .null
  | _ => False
def zrv (r : Option Nat) : Value := match r with
  | some a => .ref a
  | none => .null
def zRfT (rt : Option FieldType) : Prop := match rt with
  | some (.object _) => True
  | _ => False
def zNar (rt : Option FieldType) (x : Int32) : Prop := match rt with
  | some .int => True
  | some .boolean => x = 0 ∨ x = 1
  | _ => False
/-- number of parameters, and whether it answers -/
def znr (tg : List Nat) (N : mM) : Bool := decide (tg.getD 1 0 = N.2.2.2.2.2.2) && decide (tg.getD 2 0 = (match N.2.2.2.2.1 with | none => 0 | some _ => 1))
/-- the code and tables behind an instruction -/
def zres (own : String) (ml : Nat) (I : Instr) (pc t : Nat) (tg : List Nat) (v : Int32) (u : Int64) (N : mM) : Bool := match I with
  | .iconst n => decide (Int32.ofInt n = v)
  | .bipush n => decide ((Int8.ofInt n).toInt32 = v)
  | .sipush n => decide ((Int16.ofInt n).toInt32 = v)
  | .lconst n => decide (Int64.ofNat (n : Nat) = u)
  | .iinc i n => decide (i = t) && decide (Int32.ofInt n = v) && decide (t < ml)
  | .ldc i => (match tg with
    | [] => decide (t = pc)
    | pl :: _ => decide (zpl pl = some (.constant own i v)))
  | .ldc_w i => (match tg with
    | [] => decide (t = pc)
    | pl :: _ => decide (zpl pl = some (.constant own i v)))
  | .ldc2_w i => decide (zpl (tg.getD 0 0) = some (.constantLong own i u))
  | .iload i => decide (i = t)
  | .iload_n i => decide ((i : Nat) = t)
  | .aload i => decide (i = t)
  | .aload_n i => decide ((i : Nat) = t)
  | .lload i => decide (i = t)
  | .lload_n i => decide ((i : Nat) = t)
  | .istore i => decide (i = t) && decide (t < ml)
  | .istore_n i => decide ((i : Nat) = t) && decide (t < ml)
  | .astore i => decide (i = t) && decide (t < ml)
  | .astore_n i => decide ((i : Nat) = t) && decide (t < ml)
  | .lstore i => decide (i = t) && decide (t + 1 < ml)
  | .lstore_n i => decide ((i : Nat) = t) && decide (t + 1 < ml)
  | .goto o => decide ((pc : Int) + o = (t : Int))
  | .ifCond _ o => decide ((pc : Int) + o = (t : Int))
  | .if_icmp _ o => decide ((pc : Int) + o = (t : Int))
  | .ifnull o => decide ((pc : Int) + o = (t : Int))
  | .ifnonnull o => decide ((pc : Int) + o = (t : Int))
  | .tableswitch df lo hi offs => decide ((pc : Int) + df = (t : Int)) && decide (tg.map (fun (a : Nat) => (a : Int)) = offs.toList.map (fun a => (pc : Int) + a)) && decide (hi = lo + offs.toList.length - 1)
  | .getfield i => decide (tg.getD 0 0 < zN t) && decide (zpl (tg.getD 2 0) = some (.fieldLink own i (zT t (tg.getD 0 0)).1 (zT t (tg.getD 0 0)).2.1 (zT t (tg.getD 0 0)).2.2.1)) && decide (tg.getD 1 0 = (match zY t (tg.getD 0 0) with | .int => 0 | .boolean => 3 | .long => 1 | _ => 2))
  | .putfield i => (match tg with
    | [] => decide (t = pc)
    | _ => decide (t < 12) && decide (tg.getD 0 0 < zN t) && decide (zpl (tg.getD 2 0) = some (.fieldLink own i (zT t (tg.getD 0 0)).1 (zT t (tg.getD 0 0)).2.1 (zT t (tg.getD 0 0)).2.2.1)) && decide (tg.getD 1 0 = (match zY t (tg.getD 0 0) with | .int => 0 | .boolean => 3 | .long => 1 | _ => 2)) && decide ((zT t (tg.getD 0 0)).2.2.2 = false))
  | .invokevirtual i => (match tg with
    | [] => decide (t = pc)
    | pl :: _ => decide (zpl pl = some (.methodLink own i N.1)) && decide (N.2.2.2.2.2.1 = 1) && decide (t < 12) && decide (zR t = N.1.cls) && znr tg N)
  | .invokestatic i => if t = 9 then decide (zpl (tg.getD 0 0) = some (.methodLink own i arraycopyName)) else if t = 6 then decide (zpl (tg.getD 0 0) = some (.methodLink own i Lib.Math.min.name)) else if t = 7 then decide (zpl (tg.getD 0 0) = some (.methodLink own i Lib.Math.max.name)) else if t = 8 then decide ((own, i, N.1) ∈ zNests) && decide (N.2.2.2.2.2.1 = 0) && znr tg N else decide (zpl (tg.getD 0 0) = some (.methodLink own i N.1)) && decide (N.2.2.2.2.2.1 = 0) && znr tg N
  | .iaload => true
  | .aaload => true
  | .arraylength => true
  | _ => decide (t = pc)
def zlenI : Instr → Nat
  | .iconst _ | .lconst _ | .iload_n _ | .aload_n _ | .lload_n _ | .istore_n _ | .astore_n _ | .lstore_n _ => 1
  | .bipush _ | .iload _ | .aload _ | .lload _ | .istore _ | .astore _ | .lstore _ | .ldc _ | .newarray _ => 2
  | .sipush _ | .iinc _ _ | .ldc2_w _ | .ldc_w _ | .goto _ | .ifCond _ _ | .if_icmp _ _ | .ifnull _ | .ifnonnull _ | .getfield _ | .putfield _ | .invokevirtual _ | .invokestatic _ | .getstatic _ | .invokespecial _ | .new _ | .anewarray _ => 3
  | .tableswitch _ _ _ _ => 0
  | _ => 1
def zOK (own : String) (b : ByteArray) (ml : Nat) (q : mE) : Bool :=
  (match decode b q.1 with
    | .ok (I, n) => decide (I = q.2.1) && decide (n = q.2.2.1)
    | .error _ => false) && (decide (zlenI q.2.1 = 0) || decide (q.2.2.1 = zlenI q.2.1)) && zres own ml q.2.1 q.1 q.2.2.2.1 q.2.2.2.2.1 q.2.2.2.2.2.1 q.2.2.2.2.2.2.1 q.2.2.2.2.2.2.2
theorem zOK_dec {own : String} {b : ByteArray} {ml : Nat} {q : mE} (h : zOK own b ml q = true) : decode b q.1 = .ok (q.2.1, q.2.2.1) ∧ (zlenI q.2.1 = 0 ∨ q.2.2.1 = zlenI q.2.1) ∧ zres own ml q.2.1 q.1 q.2.2.2.1 q.2.2.2.2.1 q.2.2.2.2.2.1 q.2.2.2.2.2.2.1 q.2.2.2.2.2.2.2 = true := by
  unfold zOK at h
  rw [Bool.and_eq_true, Bool.and_eq_true] at h
  obtain ⟨⟨h1, h2⟩, h3⟩ := h
  refine ⟨?_, ?_, h3⟩
  · cases hd : decode b q.1 with
    | error e => rw [hd] at h1; cases h1
    | ok r =>
      obtain ⟨I, n⟩ := r
      rw [hd] at h1
      dsimp only at h1
      rw [Bool.and_eq_true] at h1
      rw [of_decide_eq_true h1.1, of_decide_eq_true h1.2]
  · rw [Bool.or_eq_true] at h2
    exact h2.imp of_decide_eq_true of_decide_eq_true

def zst (Γ : mG) (d : Nat) (rt : Option FieldType) (I : Instr) (t : Nat) (tg : List Nat) (v : Int32) (u : Int64) (N : mM) (K : List Value → List Value → mW → Prop) (T : Nat → List Value → List Value → mW → Prop) (Rt : Value → mW → Prop) (ls st : List Value) (nx : Nat) (w : mW) : Prop := match I with
  | .iconst _ => K ls (.int v :: st) w
  | .bipush _ => K ls (.int v :: st) w
  | .sipush _ => K ls (.int v :: st) w
  | .lconst _ => K ls (.long u :: st) w
  | .ldc _ => (match tg with
    | [] => T t ls st w
    | _ :: _ => K ls (.int v :: st) w)
  | .ldc_w _ => (match tg with
    | [] => T t ls st w
    | _ :: _ => K ls (.int v :: st) w)
  | .ldc2_w _ => K ls (.long u :: st) w
  | .aconst_null => K ls (.null :: st) w
  | .iload _ => zI ls t (fun x => K ls (.int x :: st) w)
  | .iload_n _ => zI ls t (fun x => K ls (.int x :: st) w)
  | .lload _ => zJ ls t (fun x => K ls (.long x :: st) w)
  | .lload_n _ => zJ ls t (fun x => K ls (.long x :: st) w)
  | .aload _ => zQ ls[t]? (fun x => K ls (x :: st) w)
  | .aload_n _ => zQ ls[t]? (fun x => K ls (x :: st) w)
  | .iinc _ _ => zI ls t (fun x => K (z1 ls t (.int (x + v))) st w)
  | .istore _ => (match st with
    | .int x :: st => K (z1 ls t (.int x)) st w
    | _ => False)
  | .istore_n _ => (match st with
    | .int x :: st => K (z1 ls t (.int x)) st w
    | _ => False)
  | .astore _ => (match st with
    | x :: st => zQ (some x) (fun x => K (z1 ls t x) st w)
    | _ => False)
  | .astore_n _ => (match st with
    | x :: st => zQ (some x) (fun x => K (z1 ls t x) st w)
    | _ => False)
  | .lstore _ => (match st with
    | .long x :: st => K (z2 ls t (.long x)) st w
    | _ => False)
  | .lstore_n _ => (match st with
    | .long x :: st => K (z2 ls t (.long x)) st w
    | _ => False)
  | .iadd => (match st with
    | .int y :: .int x :: st => K ls (.int (x + y) :: st) w
    | _ => False)
  | .isub => (match st with
    | .int y :: .int x :: st => K ls (.int (x - y) :: st) w
    | _ => False)
  | .imul => (match st with
    | .int y :: .int x :: st => K ls (.int (x * y) :: st) w
    | _ => False)
  | .iand => (match st with
    | .int y :: .int x :: st => K ls (.int (x &&& y) :: st) w
    | _ => False)
  | .ior => (match st with
    | .int y :: .int x :: st => K ls (.int (x ||| y) :: st) w
    | _ => False)
  | .ixor => (match st with
    | .int y :: .int x :: st => K ls (.int (x ^^^ y) :: st) w
    | _ => False)
  | .ishl => (match st with
    | .int y :: .int x :: st => K ls (.int (x <<< (y &&& 31)) :: st) w
    | _ => False)
  | .ishr => (match st with
    | .int y :: .int x :: st => K ls (.int (x >>> (y &&& 31)) :: st) w
    | _ => False)
  | .iushr => (match st with
    | .int y :: .int x :: st => K ls (.int ((x.toUInt32 >>> (y.toUInt32 &&& Int32.toUInt32 31)).toInt32) :: st) w
    | _ => False)
  | .idiv => (match st with
    | .int y :: .int x :: st => ¬ y = 0 ∧ K ls (.int (x / y) :: st) w
    | _ => False)
  | .irem => (match st with
    | .int y :: .int x :: st => ¬ y = 0 ∧ K ls (.int (x - x / y * y) :: st) w
    | _ => False)
  | .ineg => (match st with
    | .int x :: st => K ls (.int (-x) :: st) w
    | _ => False)
  | .i2b => (match st with
    | .int x :: st => K ls (.int (x.toInt8.toInt32) :: st) w
    | _ => False)
  | .i2s => (match st with
    | .int x :: st => K ls (.int (x.toInt16.toInt32) :: st) w
    | _ => False)
  | .i2c => (match st with
    | .int x :: st => K ls (.int ((x.toUInt32 % 65536).toInt32) :: st) w
    | _ => False)
  | .i2l => (match st with
    | .int x :: st => K ls (.long (x.toInt64) :: st) w
    | _ => False)
  | .l2i => (match st with
    | .long x :: st => K ls (.int (x.toInt32) :: st) w
    | _ => False)
  | .ladd => (match st with
    | .long y :: .long x :: st => K ls (.long (x + y) :: st) w
    | _ => False)
  | .lsub => (match st with
    | .long y :: .long x :: st => K ls (.long (x - y) :: st) w
    | _ => False)
  | .lmul => (match st with
    | .long y :: .long x :: st => K ls (.long (x * y) :: st) w
    | _ => False)
  | .ldiv => (match st with
    | .long y :: .long x :: st => ¬ y = 0 ∧ K ls (.long (x / y) :: st) w
    | _ => False)
  | .lrem => (match st with
    | .long y :: .long x :: st => ¬ y = 0 ∧ K ls (.long (x - x / y * y) :: st) w
    | _ => False)
  | .lcmp => (match st with
    | .long y :: .long x :: st => K ls (.int (lg_cmp x y) :: st) w
    | _ => False)
  | .dup => (match st with
    | .int x :: st => K ls (.int x :: .int x :: st) w
    | .ref x :: st => K ls (.ref x :: .ref x :: st) w
    | _ => False)
  | .dup2 => (match st with
    | .int x :: .ref y :: st => K ls (.int x :: .ref y :: .int x :: .ref y :: st) w
    | _ => False)
  | .pop => (match st with
    | .int _ :: st => K ls st w
    | .ref _ :: st => K ls st w
    | _ => False)
  | .goto _ => T t ls st w
  | .ifCond c _ => (match st with
    | .int x :: st => (match c with
      | .eq => (x = 0 → T t ls st w) ∧ (¬ x = 0 → K ls st w)
      | .ne => (¬ x = 0 → T t ls st w) ∧ (x = 0 → K ls st w)
      | .lt => (x < 0 → T t ls st w) ∧ (¬ x < 0 → K ls st w)
      | .ge => (0 ≤ x → T t ls st w) ∧ (¬ 0 ≤ x → K ls st w)
      | .gt => (0 < x → T t ls st w) ∧ (¬ 0 < x → K ls st w)
      | .le => (x ≤ 0 → T t ls st w) ∧ (¬ x ≤ 0 → K ls st w))
    | _ => False)
  | .if_icmp c _ => (match st with
    | .int y :: .int x :: st => (match c with
      | .eq => (x = y → T t ls st w) ∧ (¬ x = y → K ls st w)
      | .ne => (¬ x = y → T t ls st w) ∧ (x = y → K ls st w)
      | .lt => (x < y → T t ls st w) ∧ (¬ x < y → K ls st w)
      | .ge => (y ≤ x → T t ls st w) ∧ (¬ y ≤ x → K ls st w)
      | .gt => (y < x → T t ls st w) ∧ (¬ y < x → K ls st w)
      | .le => (x ≤ y → T t ls st w) ∧ (¬ x ≤ y → K ls st w))
    | _ => False)
  | .ifnull _ => (match st with
    | .ref _ :: st => K ls st w
    | .null :: st => T t ls st w
    | _ => False)
  | .ifnonnull _ => (match st with
    | .ref _ :: st => T t ls st w
    | .null :: st => K ls st w
    | _ => False)
  | .tableswitch _ lo hi _ => (match st with
    | .int x :: st => (x.toInt < lo ∨ hi < x.toInt → T t ls st w) ∧ zsw (fun t => T t ls st w) x.toInt lo tg
    | _ => False)
  | .getfield _ => (match st with
    | .ref a :: st => zOb nx a t ∧ (match tg with
      | [k, 0, _] => K ls (.int (w.2.1 a k) :: st) w
      | [k, 3, _] => K ls (.int (w.2.1 a k) :: st) w
      | [k, 1, _] => K ls (.long (w.2.2 a k) :: st) w
      | [k, 2, _] => K ls (zrv (w.1 a k) :: st) w
      | _ => False)
    | _ => False)
  | .putfield _ => (match tg with
    | [] => T t ls st w
    | _ => (match st with
    | .int x :: .ref a :: st => zOb nx a t ∧ (match tg with
      | [k, 0, _] => K ls st (si w a k x)
      | [k, 3, _] => (x = 0 ∨ x = 1) ∧ K ls st (si w a k x)
      | _ => False)
    | .long x :: .ref a :: st => zOb nx a t ∧ (match tg with
      | [k, 1, _] => K ls st (sj w a k x)
      | _ => False)
    | _ => False))
  | .iaload => (match t with
    | 0 => (match st with
      | .int i :: .ref a :: st => zAr nx a 0 ∧ vp_in i (zL a).2 ∧ K ls (.int (w.2.1 a i.toNatClampNeg) :: st) w
      | _ => False)
    | 1 => (match st with
      | .int i :: .ref a :: st => a = 4110 ∧ vp_in i 6 ∧ K ls (.int (zAB i.toNatClampNeg) :: st) w
      | _ => False)
    | _ => (match st with
      | .int i :: .ref a :: st => a = 4111 ∧ vp_in i (gN Γ) ∧ K ls (.int (gX Γ i.toNatClampNeg) :: st) w
      | _ => False))
  | .iastore => (match st with
    | .int x :: .int i :: .ref a :: st => zAr nx a 0 ∧ vp_in i (zL a).2 ∧ K ls st (si w a i.toNatClampNeg x)
    | _ => False)
  | .baload => (match st with
    | .int i :: .ref a :: st => zAr nx a 1 ∧ vp_in i (zL a).2 ∧ K ls (.int (w.2.1 a i.toNatClampNeg) :: st) w
    | _ => False)
  | .bastore => (match st with
    | .int x :: .int i :: .ref a :: st => zAr nx a 1 ∧ vp_in i (zL a).2 ∧ (x = 0 ∨ x = 1) ∧ K ls st (si w a i.toNatClampNeg x)
    | _ => False)
  | .aaload => (match st with
    | .int i :: .ref a :: st => zAr nx a t ∧ (2 ≤ t ∧ t ≤ 4) ∧ vp_in i (zL a).2 ∧ K ls (zrv (w.1 a i.toNatClampNeg) :: st) w
    | _ => False)
  | .arraylength => (match t with
    | 5 => (match st with
      | .ref a :: st => a = 4111 ∧ K ls (.int (Int32.ofNat (gN Γ)) :: st) w
      | _ => False)
    | _ => (match st with
      | .ref a :: st => zAr nx a t ∧ t ≤ 4 ∧ K ls (.int (Int32.ofNat (zL a).2) :: st) w
      | _ => False))
  | .invokevirtual _ => (match tg with
    | [] => T t ls st w
    | [_, n, r] => n ≤ st.length ∧ (match st.drop n with
      | .ref a :: st' => zOb nx a t ∧ st'.length ≤ 4 ∧ Call Γ d 0 0 N (.ref a :: (st.take n).reverse) nx w (fun x w => match r with
        | 0 => K ls st' w
        | _ => K ls (x :: st') w)
      | _ => False)
    | _ => False)
  | .invokestatic _ => (match t with
    | 9 => (match st with
      | .int n :: .int dp :: .ref b :: .int sp :: .ref a :: st => zAr nx a 0 ∧ zAr nx b 0 ∧ (0 ≤ sp ∧ 0 ≤ dp ∧ 0 ≤ n ∧ sp.toNatClampNeg + n.toNatClampNeg ≤ (zL a).2 ∧ dp.toNatClampNeg + n.toNatClampNeg ≤ (zL b).2) ∧ st.length ≤ 4 ∧ K ls st (sa w b (va_cpy (w.2.1 a) (w.2.1 b) sp.toNatClampNeg dp.toNatClampNeg n.toNatClampNeg))
      | _ => False)
    | 6 => (match st with
      | .int y :: .int x :: st => st.length ≤ 4 ∧ K ls (.int (if y < x then y else x) :: st) w
      | _ => False)
    | 7 => (match st with
      | .int y :: .int x :: st => st.length ≤ 4 ∧ K ls (.int (if x < y then y else x) :: st) w
      | _ => False)
    | _ => (match tg with
      | [_, n, r] => n ≤ st.length ∧ (st.drop n).length ≤ 4 ∧ Call Γ d 0 0 N (st.take n).reverse nx w (fun x w => match r with
        | 0 => K ls (st.drop n) w
        | _ => K ls (x :: st.drop n) w)
      | _ => False))
  | .ireturn => (match st with
    | [.int x] => zNar rt x ∧ Rt (.int x) w
    | _ => False)
  | .lreturn => (match st with
    | [.long x] => rt = some .long ∧ Rt (.long x) w
    | _ => False)
  | .areturn => (match st with
    | [.ref a] => zRfT rt ∧ Rt (.ref a) w
    | [.null] => zRfT rt ∧ Rt .null w
    | _ => False)
  | .return_ => (match st with
    | [] => rt = none ∧ Rt .null w
    | _ => False)
  | _ => T t ls st w
