/-! The step, case by case: each by computation. -/
section ZQ
variable {Γ : mG} {M : mM} {F : mF} {d n0 mc ms ce sl nx t pl n1 n2 n3 : Nat} {rt : Option FieldType} {tg : List Nat} {v : Int32} {u : Int64} {N : mM} {K : List Value → List Value → mW → Prop} {T : Nat → List Value → List Value → mW → Prop} {Rt : Value → mW → Prop} {ls st : List Value} {w : mW}
theorem zbl_c {q : mE} {cs : List mE} : zbl Γ M F d n0 mc ms ce sl nx rt Rt (q :: cs) ls st w = (zst Γ d rt q.2.1 q.2.2.2.1 q.2.2.2.2.1 q.2.2.2.2.2.1 q.2.2.2.2.2.2.1 q.2.2.2.2.2.2.2 (zbl Γ M F d n0 mc ms ce sl nx rt Rt cs) (fun t ls st w => V Γ M F (d + 1) n0 mc ms t ls st w ce sl) Rt ls st nx w) := rfl
theorem zq_iconst {n : Int} : zst Γ d rt (.iconst n) t tg v u N K T Rt ls (st) nx w = (K ls (.int v :: st) w) := rfl
theorem zq_bipush {n : Int} : zst Γ d rt (.bipush n) t tg v u N K T Rt ls (st) nx w = (K ls (.int v :: st) w) := rfl
theorem zq_sipush {n : Int} : zst Γ d rt (.sipush n) t tg v u N K T Rt ls (st) nx w = (K ls (.int v :: st) w) := rfl
theorem zq_lconst {n : Fin 2} : zst Γ d rt (.lconst n) t tg v u N K T Rt ls (st) nx w = (K ls (.long u :: st) w) := rfl
theorem zq_ldc {n : Nat} : zst Γ d rt (.ldc n) t (pl :: tg) v u N K T Rt ls (st) nx w = (K ls (.int v :: st) w) := rfl
theorem zq_ldcS {n : Nat} : zst Γ d rt (.ldc n) t [] v u N K T Rt ls (st) nx w = (T t ls st w) := rfl
theorem zq_ldcw {n : Nat} : zst Γ d rt (.ldc_w n) t (pl :: tg) v u N K T Rt ls (st) nx w = (K ls (.int v :: st) w) := rfl
theorem zq_ldc2 {n : Nat} : zst Γ d rt (.ldc2_w n) t tg v u N K T Rt ls (st) nx w = (K ls (.long u :: st) w) := rfl
theorem zq_null  : zst Γ d rt (.aconst_null) t tg v u N K T Rt ls (st) nx w = (K ls (.null :: st) w) := rfl
theorem zq_iload {n : Nat} : zst Γ d rt (.iload n) t tg v u N K T Rt ls (st) nx w = (zI ls t (fun x => K ls (.int x :: st) w)) := rfl
theorem zq_iload_n {n : Fin 4} : zst Γ d rt (.iload_n n) t tg v u N K T Rt ls (st) nx w = (zI ls t (fun x => K ls (.int x :: st) w)) := rfl
theorem zq_lload {n : Nat} : zst Γ d rt (.lload n) t tg v u N K T Rt ls (st) nx w = (zJ ls t (fun x => K ls (.long x :: st) w)) := rfl
theorem zq_lload_n {n : Fin 4} : zst Γ d rt (.lload_n n) t tg v u N K T Rt ls (st) nx w = (zJ ls t (fun x => K ls (.long x :: st) w)) := rfl
theorem zq_aload {n : Nat} : zst Γ d rt (.aload n) t tg v u N K T Rt ls (st) nx w = (zQ ls[t]? (fun x => K ls (x :: st) w)) := rfl
theorem zq_aload_n {n : Fin 4} : zst Γ d rt (.aload_n n) t tg v u N K T Rt ls (st) nx w = (zQ ls[t]? (fun x => K ls (x :: st) w)) := rfl
theorem zq_iinc {i : Nat} {n : Int} : zst Γ d rt (.iinc i n) t tg v u N K T Rt ls (st) nx w = (zI ls t (fun x => K (z1 ls t (.int (x + v))) st w)) := rfl
theorem zq_istore {n : Nat} {x : Int32} : zst Γ d rt (.istore n) t tg v u N K T Rt ls (.int x :: st) nx w = (K (z1 ls t (.int x)) st w) := rfl
theorem zq_istore_n {n : Fin 4} {x : Int32} : zst Γ d rt (.istore_n n) t tg v u N K T Rt ls (.int x :: st) nx w = (K (z1 ls t (.int x)) st w) := rfl
theorem zq_astorer {n : Nat} {a : Nat} : zst Γ d rt (.astore n) t tg v u N K T Rt ls (.ref a :: st) nx w = (K (z1 ls t (.ref a)) st w) := rfl
theorem zq_astore_nr {n : Fin 4} {a : Nat} : zst Γ d rt (.astore_n n) t tg v u N K T Rt ls (.ref a :: st) nx w = (K (z1 ls t (.ref a)) st w) := rfl
theorem zq_astore0 {n : Nat}  : zst Γ d rt (.astore n) t tg v u N K T Rt ls (.null :: st) nx w = (K (z1 ls t (.null)) st w) := rfl
theorem zq_astore_n0 {n : Fin 4}  : zst Γ d rt (.astore_n n) t tg v u N K T Rt ls (.null :: st) nx w = (K (z1 ls t (.null)) st w) := rfl
theorem zq_lstore {n : Nat} {x : Int64} : zst Γ d rt (.lstore n) t tg v u N K T Rt ls (.long x :: st) nx w = (K (z2 ls t (.long x)) st w) := rfl
theorem zq_lstore_n {n : Fin 4} {x : Int64} : zst Γ d rt (.lstore_n n) t tg v u N K T Rt ls (.long x :: st) nx w = (K (z2 ls t (.long x)) st w) := rfl
theorem zq_iadd {x y : Int32} : zst Γ d rt (.iadd) t tg v u N K T Rt ls (.int y :: .int x :: st) nx w = (K ls (.int (x + y) :: st) w) := rfl
theorem zq_isub {x y : Int32} : zst Γ d rt (.isub) t tg v u N K T Rt ls (.int y :: .int x :: st) nx w = (K ls (.int (x - y) :: st) w) := rfl
theorem zq_imul {x y : Int32} : zst Γ d rt (.imul) t tg v u N K T Rt ls (.int y :: .int x :: st) nx w = (K ls (.int (x * y) :: st) w) := rfl
theorem zq_iand {x y : Int32} : zst Γ d rt (.iand) t tg v u N K T Rt ls (.int y :: .int x :: st) nx w = (K ls (.int (x &&& y) :: st) w) := rfl
theorem zq_ior {x y : Int32} : zst Γ d rt (.ior) t tg v u N K T Rt ls (.int y :: .int x :: st) nx w = (K ls (.int (x ||| y) :: st) w) := rfl
theorem zq_ixor {x y : Int32} : zst Γ d rt (.ixor) t tg v u N K T Rt ls (.int y :: .int x :: st) nx w = (K ls (.int (x ^^^ y) :: st) w) := rfl
theorem zq_ishl {x y : Int32} : zst Γ d rt (.ishl) t tg v u N K T Rt ls (.int y :: .int x :: st) nx w = (K ls (.int (x <<< (y &&& 31)) :: st) w) := rfl
theorem zq_ishr {x y : Int32} : zst Γ d rt (.ishr) t tg v u N K T Rt ls (.int y :: .int x :: st) nx w = (K ls (.int (x >>> (y &&& 31)) :: st) w) := rfl
theorem zq_iushr {x y : Int32} : zst Γ d rt (.iushr) t tg v u N K T Rt ls (.int y :: .int x :: st) nx w = (K ls (.int ((x.toUInt32 >>> (y.toUInt32 &&& Int32.toUInt32 31)).toInt32) :: st) w) := rfl
theorem zq_idiv {x y : Int32} : zst Γ d rt (.idiv) t tg v u N K T Rt ls (.int y :: .int x :: st) nx w = (¬ y = 0 ∧ K ls (.int (x / y) :: st) w) := rfl
theorem zq_irem {x y : Int32} : zst Γ d rt (.irem) t tg v u N K T Rt ls (.int y :: .int x :: st) nx w = (¬ y = 0 ∧ K ls (.int (x - x / y * y) :: st) w) := rfl
theorem zq_ineg {x : Int32} : zst Γ d rt (.ineg) t tg v u N K T Rt ls (.int x :: st) nx w = (K ls (.int (-x) :: st) w) := rfl
theorem zq_i2b {x : Int32} : zst Γ d rt (.i2b) t tg v u N K T Rt ls (.int x :: st) nx w = (K ls (.int (x.toInt8.toInt32) :: st) w) := rfl
theorem zq_i2s {x : Int32} : zst Γ d rt (.i2s) t tg v u N K T Rt ls (.int x :: st) nx w = (K ls (.int (x.toInt16.toInt32) :: st) w) := rfl
theorem zq_i2c {x : Int32} : zst Γ d rt (.i2c) t tg v u N K T Rt ls (.int x :: st) nx w = (K ls (.int ((x.toUInt32 % 65536).toInt32) :: st) w) := rfl
theorem zq_i2l {x : Int32} : zst Γ d rt (.i2l) t tg v u N K T Rt ls (.int x :: st) nx w = (K ls (.long (x.toInt64) :: st) w) := rfl
theorem zq_l2i {x : Int64} : zst Γ d rt (.l2i) t tg v u N K T Rt ls (.long x :: st) nx w = (K ls (.int (x.toInt32) :: st) w) := rfl
theorem zq_ladd {x y : Int64} : zst Γ d rt (.ladd) t tg v u N K T Rt ls (.long y :: .long x :: st) nx w = (K ls (.long (x + y) :: st) w) := rfl
theorem zq_lsub {x y : Int64} : zst Γ d rt (.lsub) t tg v u N K T Rt ls (.long y :: .long x :: st) nx w = (K ls (.long (x - y) :: st) w) := rfl
theorem zq_lmul {x y : Int64} : zst Γ d rt (.lmul) t tg v u N K T Rt ls (.long y :: .long x :: st) nx w = (K ls (.long (x * y) :: st) w) := rfl
theorem zq_ldiv {x y : Int64} : zst Γ d rt (.ldiv) t tg v u N K T Rt ls (.long y :: .long x :: st) nx w = (¬ y = 0 ∧ K ls (.long (x / y) :: st) w) := rfl
theorem zq_lrem {x y : Int64} : zst Γ d rt (.lrem) t tg v u N K T Rt ls (.long y :: .long x :: st) nx w = (¬ y = 0 ∧ K ls (.long (x - x / y * y) :: st) w) := rfl
theorem zq_lcmp {x y : Int64} : zst Γ d rt (.lcmp) t tg v u N K T Rt ls (.long y :: .long x :: st) nx w = (K ls (.int (lg_cmp x y) :: st) w) := rfl
theorem zq_dupi {x : Int32} : zst Γ d rt (.dup) t tg v u N K T Rt ls (.int x :: st) nx w = (K ls (.int x :: .int x :: st) w) := rfl
theorem zq_dupr {x : Nat} : zst Γ d rt (.dup) t tg v u N K T Rt ls (.ref x :: st) nx w = (K ls (.ref x :: .ref x :: st) w) := rfl
theorem zq_dup2 {x : Int32} {y : Nat} : zst Γ d rt (.dup2) t tg v u N K T Rt ls (.int x :: .ref y :: st) nx w = (K ls (.int x :: .ref y :: .int x :: .ref y :: st) w) := rfl
theorem zq_popi {x : Int32} : zst Γ d rt (.pop) t tg v u N K T Rt ls (.int x :: st) nx w = (K ls st w) := rfl
theorem zq_popr {x : Nat} : zst Γ d rt (.pop) t tg v u N K T Rt ls (.ref x :: st) nx w = (K ls st w) := rfl
theorem zq_goto {o : Int} : zst Γ d rt (.goto o) t tg v u N K T Rt ls (st) nx w = (T t ls st w) := rfl
theorem zq_if_eq {o : Int} {x : Int32} : zst Γ d rt (.ifCond .eq o) t tg v u N K T Rt ls (.int x :: st) nx w = ((x = 0 → T t ls st w) ∧ (¬ x = 0 → K ls st w)) := rfl
theorem zq_if_ne {o : Int} {x : Int32} : zst Γ d rt (.ifCond .ne o) t tg v u N K T Rt ls (.int x :: st) nx w = ((¬ x = 0 → T t ls st w) ∧ (x = 0 → K ls st w)) := rfl
theorem zq_if_lt {o : Int} {x : Int32} : zst Γ d rt (.ifCond .lt o) t tg v u N K T Rt ls (.int x :: st) nx w = ((x < 0 → T t ls st w) ∧ (¬ x < 0 → K ls st w)) := rfl
theorem zq_if_ge {o : Int} {x : Int32} : zst Γ d rt (.ifCond .ge o) t tg v u N K T Rt ls (.int x :: st) nx w = ((0 ≤ x → T t ls st w) ∧ (¬ 0 ≤ x → K ls st w)) := rfl
theorem zq_if_gt {o : Int} {x : Int32} : zst Γ d rt (.ifCond .gt o) t tg v u N K T Rt ls (.int x :: st) nx w = ((0 < x → T t ls st w) ∧ (¬ 0 < x → K ls st w)) := rfl
theorem zq_if_le {o : Int} {x : Int32} : zst Γ d rt (.ifCond .le o) t tg v u N K T Rt ls (.int x :: st) nx w = ((x ≤ 0 → T t ls st w) ∧ (¬ x ≤ 0 → K ls st w)) := rfl
theorem zq_icmp_eq {o : Int} {x y : Int32} : zst Γ d rt (.if_icmp .eq o) t tg v u N K T Rt ls (.int y :: .int x :: st) nx w = ((x = y → T t ls st w) ∧ (¬ x = y → K ls st w)) := rfl
theorem zq_icmp_ne {o : Int} {x y : Int32} : zst Γ d rt (.if_icmp .ne o) t tg v u N K T Rt ls (.int y :: .int x :: st) nx w = ((¬ x = y → T t ls st w) ∧ (x = y → K ls st w)) := rfl
theorem zq_icmp_lt {o : Int} {x y : Int32} : zst Γ d rt (.if_icmp .lt o) t tg v u N K T Rt ls (.int y :: .int x :: st) nx w = ((x < y → T t ls st w) ∧ (¬ x < y → K ls st w)) := rfl
theorem zq_icmp_ge {o : Int} {x y : Int32} : zst Γ d rt (.if_icmp .ge o) t tg v u N K T Rt ls (.int y :: .int x :: st) nx w = ((y ≤ x → T t ls st w) ∧ (¬ y ≤ x → K ls st w)) := rfl
theorem zq_icmp_gt {o : Int} {x y : Int32} : zst Γ d rt (.if_icmp .gt o) t tg v u N K T Rt ls (.int y :: .int x :: st) nx w = ((y < x → T t ls st w) ∧ (¬ y < x → K ls st w)) := rfl
theorem zq_icmp_le {o : Int} {x y : Int32} : zst Γ d rt (.if_icmp .le o) t tg v u N K T Rt ls (.int y :: .int x :: st) nx w = ((x ≤ y → T t ls st w) ∧ (¬ x ≤ y → K ls st w)) := rfl
theorem zq_ifnullr {o : Int} {x : Nat} : zst Γ d rt (.ifnull o) t tg v u N K T Rt ls (.ref x :: st) nx w = (K ls st w) := rfl
theorem zq_ifnull0 {o : Int} : zst Γ d rt (.ifnull o) t tg v u N K T Rt ls (.null :: st) nx w = (T t ls st w) := rfl
theorem zq_ifnonnullr {o : Int} {x : Nat} : zst Γ d rt (.ifnonnull o) t tg v u N K T Rt ls (.ref x :: st) nx w = (T t ls st w) := rfl
theorem zq_ifnonnull0 {o : Int} : zst Γ d rt (.ifnonnull o) t tg v u N K T Rt ls (.null :: st) nx w = (K ls st w) := rfl
theorem zq_table {df lo hi : Int} {offs : Array Int} {x : Int32} : zst Γ d rt (.tableswitch df lo hi offs) t tg v u N K T Rt ls (.int x :: st) nx w = ((x.toInt < lo ∨ hi < x.toInt → T t ls st w) ∧ zsw (fun t => T t ls st w) x.toInt lo tg) := rfl
theorem zq_get0 {i a : Nat} : zst Γ d rt (.getfield i) t [n1, 0, pl] v u N K T Rt ls (.ref a :: st) nx w = (zOb nx a t ∧ K ls (.int (w.2.1 a n1) :: st) w) := rfl
theorem zq_get3 {i a : Nat} : zst Γ d rt (.getfield i) t [n1, 3, pl] v u N K T Rt ls (.ref a :: st) nx w = (zOb nx a t ∧ K ls (.int (w.2.1 a n1) :: st) w) := rfl
theorem zq_get1 {i a : Nat} : zst Γ d rt (.getfield i) t [n1, 1, pl] v u N K T Rt ls (.ref a :: st) nx w = (zOb nx a t ∧ K ls (.long (w.2.2 a n1) :: st) w) := rfl
theorem zq_get2 {i a : Nat} : zst Γ d rt (.getfield i) t [n1, 2, pl] v u N K T Rt ls (.ref a :: st) nx w = (zOb nx a t ∧ K ls (zrv (w.1 a n1) :: st) w) := rfl
theorem zq_put0 {i a : Nat} {x : Int32} : zst Γ d rt (.putfield i) t [n1, 0, pl] v u N K T Rt ls (.int x :: .ref a :: st) nx w = (zOb nx a t ∧ K ls st (si w a n1 x)) := rfl
theorem zq_put3 {i a : Nat} {x : Int32} : zst Γ d rt (.putfield i) t [n1, 3, pl] v u N K T Rt ls (.int x :: .ref a :: st) nx w = (zOb nx a t ∧ (x = 0 ∨ x = 1) ∧ K ls st (si w a n1 x)) := rfl
theorem zq_put1 {i a : Nat} {x : Int64} : zst Γ d rt (.putfield i) t [n1, 1, pl] v u N K T Rt ls (.long x :: .ref a :: st) nx w = (zOb nx a t ∧ K ls st (sj w a n1 x)) := rfl
theorem zq_putS {i : Nat} : zst Γ d rt (.putfield i) t [] v u N K T Rt ls (st) nx w = (T t ls st w) := rfl
theorem zq_iald0 {i : Int32} {a : Nat} : zst Γ d rt (.iaload) 0 tg v u N K T Rt ls (.int i :: .ref a :: st) nx w = (zAr nx a 0 ∧ vp_in i (zL a).2 ∧ K ls (.int (w.2.1 a i.toNatClampNeg) :: st) w) := rfl
theorem zq_iald1 {i : Int32} {a : Nat} : zst Γ d rt (.iaload) 1 tg v u N K T Rt ls (.int i :: .ref a :: st) nx w = (a = 4110 ∧ vp_in i 6 ∧ K ls (.int (zAB i.toNatClampNeg) :: st) w) := rfl
theorem zq_iald2 {i : Int32} {a : Nat} : zst Γ d rt (.iaload) 2 tg v u N K T Rt ls (.int i :: .ref a :: st) nx w = (a = 4111 ∧ vp_in i (gN Γ) ∧ K ls (.int (gX Γ i.toNatClampNeg) :: st) w) := rfl
theorem zq_iast {i x : Int32} {a : Nat} : zst Γ d rt (.iastore) t tg v u N K T Rt ls (.int x :: .int i :: .ref a :: st) nx w = (zAr nx a 0 ∧ vp_in i (zL a).2 ∧ K ls st (si w a i.toNatClampNeg x)) := rfl
theorem zq_bald {i : Int32} {a : Nat} : zst Γ d rt (.baload) t tg v u N K T Rt ls (.int i :: .ref a :: st) nx w = (zAr nx a 1 ∧ vp_in i (zL a).2 ∧ K ls (.int (w.2.1 a i.toNatClampNeg) :: st) w) := rfl
theorem zq_bast {i x : Int32} {a : Nat} : zst Γ d rt (.bastore) t tg v u N K T Rt ls (.int x :: .int i :: .ref a :: st) nx w = (zAr nx a 1 ∧ vp_in i (zL a).2 ∧ (x = 0 ∨ x = 1) ∧ K ls st (si w a i.toNatClampNeg x)) := rfl
theorem zq_aald {i : Int32} {a : Nat} : zst Γ d rt (.aaload) t tg v u N K T Rt ls (.int i :: .ref a :: st) nx w = (zAr nx a t ∧ (2 ≤ t ∧ t ≤ 4) ∧ vp_in i (zL a).2 ∧ K ls (zrv (w.1 a i.toNatClampNeg) :: st) w) := rfl
theorem zq_alen5 {a : Nat} : zst Γ d rt (.arraylength) 5 tg v u N K T Rt ls (.ref a :: st) nx w = (a = 4111 ∧ K ls (.int (Int32.ofNat (gN Γ)) :: st) w) := rfl
theorem zq_alen0 {a : Nat} : zst Γ d rt (.arraylength) 0 tg v u N K T Rt ls (.ref a :: st) nx w = (zAr nx a 0 ∧ 0 ≤ 4 ∧ K ls (.int (Int32.ofNat (zL a).2) :: st) w) := rfl
theorem zq_alen1 {a : Nat} : zst Γ d rt (.arraylength) 1 tg v u N K T Rt ls (.ref a :: st) nx w = (zAr nx a 1 ∧ 1 ≤ 4 ∧ K ls (.int (Int32.ofNat (zL a).2) :: st) w) := rfl
theorem zq_alen2 {a : Nat} : zst Γ d rt (.arraylength) 2 tg v u N K T Rt ls (.ref a :: st) nx w = (zAr nx a 2 ∧ 2 ≤ 4 ∧ K ls (.int (Int32.ofNat (zL a).2) :: st) w) := rfl
theorem zq_alen3 {a : Nat} : zst Γ d rt (.arraylength) 3 tg v u N K T Rt ls (.ref a :: st) nx w = (zAr nx a 3 ∧ 3 ≤ 4 ∧ K ls (.int (Int32.ofNat (zL a).2) :: st) w) := rfl
theorem zq_alen4 {a : Nat} : zst Γ d rt (.arraylength) 4 tg v u N K T Rt ls (.ref a :: st) nx w = (zAr nx a 4 ∧ 4 ≤ 4 ∧ K ls (.int (Int32.ofNat (zL a).2) :: st) w) := rfl
theorem zq_ivS {i : Nat} : zst Γ d rt (.invokevirtual i) t [] v u N K T Rt ls (st) nx w = (T t ls st w) := rfl
theorem zq_iv0_0 {i a : Nat} : zst Γ d rt (.invokevirtual i) t [pl, 0, 0] v u N K T Rt ls (.ref a :: st) nx w = (0 ≤ List.length (.ref a :: st) ∧ zOb nx a t ∧ st.length ≤ 4 ∧ Call Γ d 0 0 N (.ref a :: []) nx w (fun x w => K ls st w)) := rfl
theorem zq_iv0_1 {i a : Nat} : zst Γ d rt (.invokevirtual i) t [pl, 0, 1] v u N K T Rt ls (.ref a :: st) nx w = (0 ≤ List.length (.ref a :: st) ∧ zOb nx a t ∧ st.length ≤ 4 ∧ Call Γ d 0 0 N (.ref a :: []) nx w (fun x w => K ls (x :: st) w)) := rfl
theorem zq_iv1_0 {x0 : Value} {i a : Nat} : zst Γ d rt (.invokevirtual i) t [pl, 1, 0] v u N K T Rt ls (x0 :: .ref a :: st) nx w = (1 ≤ List.length (x0 :: .ref a :: st) ∧ zOb nx a t ∧ st.length ≤ 4 ∧ Call Γ d 0 0 N (.ref a :: [x0]) nx w (fun x w => K ls st w)) := rfl
theorem zq_iv1_1 {x0 : Value} {i a : Nat} : zst Γ d rt (.invokevirtual i) t [pl, 1, 1] v u N K T Rt ls (x0 :: .ref a :: st) nx w = (1 ≤ List.length (x0 :: .ref a :: st) ∧ zOb nx a t ∧ st.length ≤ 4 ∧ Call Γ d 0 0 N (.ref a :: [x0]) nx w (fun x w => K ls (x :: st) w)) := rfl
theorem zq_iv2_0 {x0 x1 : Value} {i a : Nat} : zst Γ d rt (.invokevirtual i) t [pl, 2, 0] v u N K T Rt ls (x1 :: x0 :: .ref a :: st) nx w = (2 ≤ List.length (x1 :: x0 :: .ref a :: st) ∧ zOb nx a t ∧ st.length ≤ 4 ∧ Call Γ d 0 0 N (.ref a :: [x0, x1]) nx w (fun x w => K ls st w)) := rfl
theorem zq_iv2_1 {x0 x1 : Value} {i a : Nat} : zst Γ d rt (.invokevirtual i) t [pl, 2, 1] v u N K T Rt ls (x1 :: x0 :: .ref a :: st) nx w = (2 ≤ List.length (x1 :: x0 :: .ref a :: st) ∧ zOb nx a t ∧ st.length ≤ 4 ∧ Call Γ d 0 0 N (.ref a :: [x0, x1]) nx w (fun x w => K ls (x :: st) w)) := rfl
theorem zq_iv3_0 {x0 x1 x2 : Value} {i a : Nat} : zst Γ d rt (.invokevirtual i) t [pl, 3, 0] v u N K T Rt ls (x2 :: x1 :: x0 :: .ref a :: st) nx w = (3 ≤ List.length (x2 :: x1 :: x0 :: .ref a :: st) ∧ zOb nx a t ∧ st.length ≤ 4 ∧ Call Γ d 0 0 N (.ref a :: [x0, x1, x2]) nx w (fun x w => K ls st w)) := rfl
theorem zq_iv3_1 {x0 x1 x2 : Value} {i a : Nat} : zst Γ d rt (.invokevirtual i) t [pl, 3, 1] v u N K T Rt ls (x2 :: x1 :: x0 :: .ref a :: st) nx w = (3 ≤ List.length (x2 :: x1 :: x0 :: .ref a :: st) ∧ zOb nx a t ∧ st.length ≤ 4 ∧ Call Γ d 0 0 N (.ref a :: [x0, x1, x2]) nx w (fun x w => K ls (x :: st) w)) := rfl
theorem zq_iv4_0 {x0 x1 x2 x3 : Value} {i a : Nat} : zst Γ d rt (.invokevirtual i) t [pl, 4, 0] v u N K T Rt ls (x3 :: x2 :: x1 :: x0 :: .ref a :: st) nx w = (4 ≤ List.length (x3 :: x2 :: x1 :: x0 :: .ref a :: st) ∧ zOb nx a t ∧ st.length ≤ 4 ∧ Call Γ d 0 0 N (.ref a :: [x0, x1, x2, x3]) nx w (fun x w => K ls st w)) := rfl
theorem zq_iv4_1 {x0 x1 x2 x3 : Value} {i a : Nat} : zst Γ d rt (.invokevirtual i) t [pl, 4, 1] v u N K T Rt ls (x3 :: x2 :: x1 :: x0 :: .ref a :: st) nx w = (4 ≤ List.length (x3 :: x2 :: x1 :: x0 :: .ref a :: st) ∧ zOb nx a t ∧ st.length ≤ 4 ∧ Call Γ d 0 0 N (.ref a :: [x0, x1, x2, x3]) nx w (fun x w => K ls (x :: st) w)) := rfl
theorem zq_iv5_0 {x0 x1 x2 x3 x4 : Value} {i a : Nat} : zst Γ d rt (.invokevirtual i) t [pl, 5, 0] v u N K T Rt ls (x4 :: x3 :: x2 :: x1 :: x0 :: .ref a :: st) nx w = (5 ≤ List.length (x4 :: x3 :: x2 :: x1 :: x0 :: .ref a :: st) ∧ zOb nx a t ∧ st.length ≤ 4 ∧ Call Γ d 0 0 N (.ref a :: [x0, x1, x2, x3, x4]) nx w (fun x w => K ls st w)) := rfl
theorem zq_iv5_1 {x0 x1 x2 x3 x4 : Value} {i a : Nat} : zst Γ d rt (.invokevirtual i) t [pl, 5, 1] v u N K T Rt ls (x4 :: x3 :: x2 :: x1 :: x0 :: .ref a :: st) nx w = (5 ≤ List.length (x4 :: x3 :: x2 :: x1 :: x0 :: .ref a :: st) ∧ zOb nx a t ∧ st.length ≤ 4 ∧ Call Γ d 0 0 N (.ref a :: [x0, x1, x2, x3, x4]) nx w (fun x w => K ls (x :: st) w)) := rfl
theorem zq_iv6_0 {x0 x1 x2 x3 x4 x5 : Value} {i a : Nat} : zst Γ d rt (.invokevirtual i) t [pl, 6, 0] v u N K T Rt ls (x5 :: x4 :: x3 :: x2 :: x1 :: x0 :: .ref a :: st) nx w = (6 ≤ List.length (x5 :: x4 :: x3 :: x2 :: x1 :: x0 :: .ref a :: st) ∧ zOb nx a t ∧ st.length ≤ 4 ∧ Call Γ d 0 0 N (.ref a :: [x0, x1, x2, x3, x4, x5]) nx w (fun x w => K ls st w)) := rfl
theorem zq_iv6_1 {x0 x1 x2 x3 x4 x5 : Value} {i a : Nat} : zst Γ d rt (.invokevirtual i) t [pl, 6, 1] v u N K T Rt ls (x5 :: x4 :: x3 :: x2 :: x1 :: x0 :: .ref a :: st) nx w = (6 ≤ List.length (x5 :: x4 :: x3 :: x2 :: x1 :: x0 :: .ref a :: st) ∧ zOb nx a t ∧ st.length ≤ 4 ∧ Call Γ d 0 0 N (.ref a :: [x0, x1, x2, x3, x4, x5]) nx w (fun x w => K ls (x :: st) w)) := rfl
theorem zq_is0_0_0 {i : Nat} : zst Γ d rt (.invokestatic i) 0 [pl, 0, 0] v u N K T Rt ls (st) nx w = (0 ≤ List.length (st) ∧ st.length ≤ 4 ∧ Call Γ d 0 0 N [] nx w (fun x w => K ls st w)) := rfl
theorem zq_is0_1_0 {i : Nat} : zst Γ d rt (.invokestatic i) 0 [pl, 0, 1] v u N K T Rt ls (st) nx w = (0 ≤ List.length (st) ∧ st.length ≤ 4 ∧ Call Γ d 0 0 N [] nx w (fun x w => K ls (x :: st) w)) := rfl
theorem zq_is0_0_8 {i : Nat} : zst Γ d rt (.invokestatic i) 8 [pl, 0, 0] v u N K T Rt ls (st) nx w = (0 ≤ List.length (st) ∧ st.length ≤ 4 ∧ Call Γ d 0 0 N [] nx w (fun x w => K ls st w)) := rfl
theorem zq_is0_1_8 {i : Nat} : zst Γ d rt (.invokestatic i) 8 [pl, 0, 1] v u N K T Rt ls (st) nx w = (0 ≤ List.length (st) ∧ st.length ≤ 4 ∧ Call Γ d 0 0 N [] nx w (fun x w => K ls (x :: st) w)) := rfl
theorem zq_is1_0_0 {x0 : Value} {i : Nat} : zst Γ d rt (.invokestatic i) 0 [pl, 1, 0] v u N K T Rt ls (x0 :: st) nx w = (1 ≤ List.length (x0 :: st) ∧ st.length ≤ 4 ∧ Call Γ d 0 0 N [x0] nx w (fun x w => K ls st w)) := rfl
theorem zq_is1_1_0 {x0 : Value} {i : Nat} : zst Γ d rt (.invokestatic i) 0 [pl, 1, 1] v u N K T Rt ls (x0 :: st) nx w = (1 ≤ List.length (x0 :: st) ∧ st.length ≤ 4 ∧ Call Γ d 0 0 N [x0] nx w (fun x w => K ls (x :: st) w)) := rfl
theorem zq_is1_0_8 {x0 : Value} {i : Nat} : zst Γ d rt (.invokestatic i) 8 [pl, 1, 0] v u N K T Rt ls (x0 :: st) nx w = (1 ≤ List.length (x0 :: st) ∧ st.length ≤ 4 ∧ Call Γ d 0 0 N [x0] nx w (fun x w => K ls st w)) := rfl
theorem zq_is1_1_8 {x0 : Value} {i : Nat} : zst Γ d rt (.invokestatic i) 8 [pl, 1, 1] v u N K T Rt ls (x0 :: st) nx w = (1 ≤ List.length (x0 :: st) ∧ st.length ≤ 4 ∧ Call Γ d 0 0 N [x0] nx w (fun x w => K ls (x :: st) w)) := rfl
theorem zq_is2_0_0 {x0 x1 : Value} {i : Nat} : zst Γ d rt (.invokestatic i) 0 [pl, 2, 0] v u N K T Rt ls (x1 :: x0 :: st) nx w = (2 ≤ List.length (x1 :: x0 :: st) ∧ st.length ≤ 4 ∧ Call Γ d 0 0 N [x0, x1] nx w (fun x w => K ls st w)) := rfl
theorem zq_is2_1_0 {x0 x1 : Value} {i : Nat} : zst Γ d rt (.invokestatic i) 0 [pl, 2, 1] v u N K T Rt ls (x1 :: x0 :: st) nx w = (2 ≤ List.length (x1 :: x0 :: st) ∧ st.length ≤ 4 ∧ Call Γ d 0 0 N [x0, x1] nx w (fun x w => K ls (x :: st) w)) := rfl
theorem zq_is2_0_8 {x0 x1 : Value} {i : Nat} : zst Γ d rt (.invokestatic i) 8 [pl, 2, 0] v u N K T Rt ls (x1 :: x0 :: st) nx w = (2 ≤ List.length (x1 :: x0 :: st) ∧ st.length ≤ 4 ∧ Call Γ d 0 0 N [x0, x1] nx w (fun x w => K ls st w)) := rfl
theorem zq_is2_1_8 {x0 x1 : Value} {i : Nat} : zst Γ d rt (.invokestatic i) 8 [pl, 2, 1] v u N K T Rt ls (x1 :: x0 :: st) nx w = (2 ≤ List.length (x1 :: x0 :: st) ∧ st.length ≤ 4 ∧ Call Γ d 0 0 N [x0, x1] nx w (fun x w => K ls (x :: st) w)) := rfl
theorem zq_is3_0_0 {x0 x1 x2 : Value} {i : Nat} : zst Γ d rt (.invokestatic i) 0 [pl, 3, 0] v u N K T Rt ls (x2 :: x1 :: x0 :: st) nx w = (3 ≤ List.length (x2 :: x1 :: x0 :: st) ∧ st.length ≤ 4 ∧ Call Γ d 0 0 N [x0, x1, x2] nx w (fun x w => K ls st w)) := rfl
theorem zq_is3_1_0 {x0 x1 x2 : Value} {i : Nat} : zst Γ d rt (.invokestatic i) 0 [pl, 3, 1] v u N K T Rt ls (x2 :: x1 :: x0 :: st) nx w = (3 ≤ List.length (x2 :: x1 :: x0 :: st) ∧ st.length ≤ 4 ∧ Call Γ d 0 0 N [x0, x1, x2] nx w (fun x w => K ls (x :: st) w)) := rfl
theorem zq_is3_0_8 {x0 x1 x2 : Value} {i : Nat} : zst Γ d rt (.invokestatic i) 8 [pl, 3, 0] v u N K T Rt ls (x2 :: x1 :: x0 :: st) nx w = (3 ≤ List.length (x2 :: x1 :: x0 :: st) ∧ st.length ≤ 4 ∧ Call Γ d 0 0 N [x0, x1, x2] nx w (fun x w => K ls st w)) := rfl
theorem zq_is3_1_8 {x0 x1 x2 : Value} {i : Nat} : zst Γ d rt (.invokestatic i) 8 [pl, 3, 1] v u N K T Rt ls (x2 :: x1 :: x0 :: st) nx w = (3 ≤ List.length (x2 :: x1 :: x0 :: st) ∧ st.length ≤ 4 ∧ Call Γ d 0 0 N [x0, x1, x2] nx w (fun x w => K ls (x :: st) w)) := rfl
theorem zq_is4_0_0 {x0 x1 x2 x3 : Value} {i : Nat} : zst Γ d rt (.invokestatic i) 0 [pl, 4, 0] v u N K T Rt ls (x3 :: x2 :: x1 :: x0 :: st) nx w = (4 ≤ List.length (x3 :: x2 :: x1 :: x0 :: st) ∧ st.length ≤ 4 ∧ Call Γ d 0 0 N [x0, x1, x2, x3] nx w (fun x w => K ls st w)) := rfl
theorem zq_is4_1_0 {x0 x1 x2 x3 : Value} {i : Nat} : zst Γ d rt (.invokestatic i) 0 [pl, 4, 1] v u N K T Rt ls (x3 :: x2 :: x1 :: x0 :: st) nx w = (4 ≤ List.length (x3 :: x2 :: x1 :: x0 :: st) ∧ st.length ≤ 4 ∧ Call Γ d 0 0 N [x0, x1, x2, x3] nx w (fun x w => K ls (x :: st) w)) := rfl
theorem zq_is4_0_8 {x0 x1 x2 x3 : Value} {i : Nat} : zst Γ d rt (.invokestatic i) 8 [pl, 4, 0] v u N K T Rt ls (x3 :: x2 :: x1 :: x0 :: st) nx w = (4 ≤ List.length (x3 :: x2 :: x1 :: x0 :: st) ∧ st.length ≤ 4 ∧ Call Γ d 0 0 N [x0, x1, x2, x3] nx w (fun x w => K ls st w)) := rfl
theorem zq_is4_1_8 {x0 x1 x2 x3 : Value} {i : Nat} : zst Γ d rt (.invokestatic i) 8 [pl, 4, 1] v u N K T Rt ls (x3 :: x2 :: x1 :: x0 :: st) nx w = (4 ≤ List.length (x3 :: x2 :: x1 :: x0 :: st) ∧ st.length ≤ 4 ∧ Call Γ d 0 0 N [x0, x1, x2, x3] nx w (fun x w => K ls (x :: st) w)) := rfl
theorem zq_copy {i a b : Nat} {sp dp n : Int32} : zst Γ d rt (.invokestatic i) 9 tg v u N K T Rt ls (.int n :: .int dp :: .ref b :: .int sp :: .ref a :: st) nx w = (zAr nx a 0 ∧ zAr nx b 0 ∧ (0 ≤ sp ∧ 0 ≤ dp ∧ 0 ≤ n ∧ sp.toNatClampNeg + n.toNatClampNeg ≤ (zL a).2 ∧ dp.toNatClampNeg + n.toNatClampNeg ≤ (zL b).2) ∧ st.length ≤ 4 ∧ K ls st (sa w b (va_cpy (w.2.1 a) (w.2.1 b) sp.toNatClampNeg dp.toNatClampNeg n.toNatClampNeg))) := rfl
theorem zq_mmin {i : Nat} {x y : Int32} : zst Γ d rt (.invokestatic i) 6 tg v u N K T Rt ls (.int y :: .int x :: st) nx w = (st.length ≤ 4 ∧ K ls (.int (if y < x then y else x) :: st) w) := rfl
theorem zq_mmax {i : Nat} {x y : Int32} : zst Γ d rt (.invokestatic i) 7 tg v u N K T Rt ls (.int y :: .int x :: st) nx w = (st.length ≤ 4 ∧ K ls (.int (if x < y then y else x) :: st) w) := rfl
theorem zq_iret {x : Int32} : zst Γ d rt (.ireturn) t tg v u N K T Rt ls ([.int x]) nx w = (zNar rt x ∧ Rt (.int x) w) := rfl
theorem zq_lret {x : Int64} : zst Γ d rt (.lreturn) t tg v u N K T Rt ls ([.long x]) nx w = (rt = some .long ∧ Rt (.long x) w) := rfl
theorem zq_aretr {a : Nat} : zst Γ d rt (.areturn) t tg v u N K T Rt ls ([.ref a]) nx w = (zRfT rt ∧ Rt (.ref a) w) := rfl
theorem zq_aret0  : zst Γ d rt (.areturn) t tg v u N K T Rt ls ([.null]) nx w = (zRfT rt ∧ Rt .null w) := rfl
theorem zq_vret  : zst Γ d rt (.return_) t tg v u N K T Rt ls ([]) nx w = (rt = none ∧ Rt .null w) := rfl
theorem zI_0 {x : Int32} {l : List Value} {f : Int32 → Prop} : zI (.int x :: l) 0 f = (f x) := rfl
theorem zJ_0 {x : Int64} {l : List Value} {f : Int64 → Prop} : zJ (.long x :: l) 0 f = (f x) := rfl
theorem zQr_0 {x : Nat} {l : List Value} {f : Value → Prop} : zQ (.ref x :: l)[0]? f = (f (.ref x)) := rfl
theorem zQ0_0 {l : List Value} {f : Value → Prop} : zQ (.null :: l)[0]? f = (f .null) := rfl
theorem zI_1 {a0 : Value} {x : Int32} {l : List Value} {f : Int32 → Prop} : zI (a0 :: .int x :: l) 1 f = (f x) := rfl
theorem zJ_1 {a0 : Value} {x : Int64} {l : List Value} {f : Int64 → Prop} : zJ (a0 :: .long x :: l) 1 f = (f x) := rfl
theorem zQr_1 {a0 : Value} {x : Nat} {l : List Value} {f : Value → Prop} : zQ (a0 :: .ref x :: l)[1]? f = (f (.ref x)) := rfl
theorem zQ0_1 {a0 : Value} {l : List Value} {f : Value → Prop} : zQ (a0 :: .null :: l)[1]? f = (f .null) := rfl
theorem zI_2 {a0 a1 : Value} {x : Int32} {l : List Value} {f : Int32 → Prop} : zI (a0 :: a1 :: .int x :: l) 2 f = (f x) := rfl
theorem zJ_2 {a0 a1 : Value} {x : Int64} {l : List Value} {f : Int64 → Prop} : zJ (a0 :: a1 :: .long x :: l) 2 f = (f x) := rfl
theorem zQr_2 {a0 a1 : Value} {x : Nat} {l : List Value} {f : Value → Prop} : zQ (a0 :: a1 :: .ref x :: l)[2]? f = (f (.ref x)) := rfl
theorem zQ0_2 {a0 a1 : Value} {l : List Value} {f : Value → Prop} : zQ (a0 :: a1 :: .null :: l)[2]? f = (f .null) := rfl
theorem zI_3 {a0 a1 a2 : Value} {x : Int32} {l : List Value} {f : Int32 → Prop} : zI (a0 :: a1 :: a2 :: .int x :: l) 3 f = (f x) := rfl
theorem zJ_3 {a0 a1 a2 : Value} {x : Int64} {l : List Value} {f : Int64 → Prop} : zJ (a0 :: a1 :: a2 :: .long x :: l) 3 f = (f x) := rfl
theorem zQr_3 {a0 a1 a2 : Value} {x : Nat} {l : List Value} {f : Value → Prop} : zQ (a0 :: a1 :: a2 :: .ref x :: l)[3]? f = (f (.ref x)) := rfl
theorem zQ0_3 {a0 a1 a2 : Value} {l : List Value} {f : Value → Prop} : zQ (a0 :: a1 :: a2 :: .null :: l)[3]? f = (f .null) := rfl
theorem zI_4 {a0 a1 a2 a3 : Value} {x : Int32} {l : List Value} {f : Int32 → Prop} : zI (a0 :: a1 :: a2 :: a3 :: .int x :: l) 4 f = (f x) := rfl
theorem zJ_4 {a0 a1 a2 a3 : Value} {x : Int64} {l : List Value} {f : Int64 → Prop} : zJ (a0 :: a1 :: a2 :: a3 :: .long x :: l) 4 f = (f x) := rfl
theorem zQr_4 {a0 a1 a2 a3 : Value} {x : Nat} {l : List Value} {f : Value → Prop} : zQ (a0 :: a1 :: a2 :: a3 :: .ref x :: l)[4]? f = (f (.ref x)) := rfl
theorem zQ0_4 {a0 a1 a2 a3 : Value} {l : List Value} {f : Value → Prop} : zQ (a0 :: a1 :: a2 :: a3 :: .null :: l)[4]? f = (f .null) := rfl
theorem zI_5 {a0 a1 a2 a3 a4 : Value} {x : Int32} {l : List Value} {f : Int32 → Prop} : zI (a0 :: a1 :: a2 :: a3 :: a4 :: .int x :: l) 5 f = (f x) := rfl
theorem zJ_5 {a0 a1 a2 a3 a4 : Value} {x : Int64} {l : List Value} {f : Int64 → Prop} : zJ (a0 :: a1 :: a2 :: a3 :: a4 :: .long x :: l) 5 f = (f x) := rfl
theorem zQr_5 {a0 a1 a2 a3 a4 : Value} {x : Nat} {l : List Value} {f : Value → Prop} : zQ (a0 :: a1 :: a2 :: a3 :: a4 :: .ref x :: l)[5]? f = (f (.ref x)) := rfl
theorem zQ0_5 {a0 a1 a2 a3 a4 : Value} {l : List Value} {f : Value → Prop} : zQ (a0 :: a1 :: a2 :: a3 :: a4 :: .null :: l)[5]? f = (f .null) := rfl
theorem zI_6 {a0 a1 a2 a3 a4 a5 : Value} {x : Int32} {l : List Value} {f : Int32 → Prop} : zI (a0 :: a1 :: a2 :: a3 :: a4 :: a5 :: .int x :: l) 6 f = (f x) := rfl
theorem zJ_6 {a0 a1 a2 a3 a4 a5 : Value} {x : Int64} {l : List Value} {f : Int64 → Prop} : zJ (a0 :: a1 :: a2 :: a3 :: a4 :: a5 :: .long x :: l) 6 f = (f x) := rfl
theorem zQr_6 {a0 a1 a2 a3 a4 a5 : Value} {x : Nat} {l : List Value} {f : Value → Prop} : zQ (a0 :: a1 :: a2 :: a3 :: a4 :: a5 :: .ref x :: l)[6]? f = (f (.ref x)) := rfl
theorem zQ0_6 {a0 a1 a2 a3 a4 a5 : Value} {l : List Value} {f : Value → Prop} : zQ (a0 :: a1 :: a2 :: a3 :: a4 :: a5 :: .null :: l)[6]? f = (f .null) := rfl
theorem zI_7 {a0 a1 a2 a3 a4 a5 a6 : Value} {x : Int32} {l : List Value} {f : Int32 → Prop} : zI (a0 :: a1 :: a2 :: a3 :: a4 :: a5 :: a6 :: .int x :: l) 7 f = (f x) := rfl
theorem zJ_7 {a0 a1 a2 a3 a4 a5 a6 : Value} {x : Int64} {l : List Value} {f : Int64 → Prop} : zJ (a0 :: a1 :: a2 :: a3 :: a4 :: a5 :: a6 :: .long x :: l) 7 f = (f x) := rfl
theorem zQr_7 {a0 a1 a2 a3 a4 a5 a6 : Value} {x : Nat} {l : List Value} {f : Value → Prop} : zQ (a0 :: a1 :: a2 :: a3 :: a4 :: a5 :: a6 :: .ref x :: l)[7]? f = (f (.ref x)) := rfl
theorem zQ0_7 {a0 a1 a2 a3 a4 a5 a6 : Value} {l : List Value} {f : Value → Prop} : zQ (a0 :: a1 :: a2 :: a3 :: a4 :: a5 :: a6 :: .null :: l)[7]? f = (f .null) := rfl
theorem zI_8 {a0 a1 a2 a3 a4 a5 a6 a7 : Value} {x : Int32} {l : List Value} {f : Int32 → Prop} : zI (a0 :: a1 :: a2 :: a3 :: a4 :: a5 :: a6 :: a7 :: .int x :: l) 8 f = (f x) := rfl
theorem zJ_8 {a0 a1 a2 a3 a4 a5 a6 a7 : Value} {x : Int64} {l : List Value} {f : Int64 → Prop} : zJ (a0 :: a1 :: a2 :: a3 :: a4 :: a5 :: a6 :: a7 :: .long x :: l) 8 f = (f x) := rfl
theorem zQr_8 {a0 a1 a2 a3 a4 a5 a6 a7 : Value} {x : Nat} {l : List Value} {f : Value → Prop} : zQ (a0 :: a1 :: a2 :: a3 :: a4 :: a5 :: a6 :: a7 :: .ref x :: l)[8]? f = (f (.ref x)) := rfl
theorem zQ0_8 {a0 a1 a2 a3 a4 a5 a6 a7 : Value} {l : List Value} {f : Value → Prop} : zQ (a0 :: a1 :: a2 :: a3 :: a4 :: a5 :: a6 :: a7 :: .null :: l)[8]? f = (f .null) := rfl
theorem zI_9 {a0 a1 a2 a3 a4 a5 a6 a7 a8 : Value} {x : Int32} {l : List Value} {f : Int32 → Prop} : zI (a0 :: a1 :: a2 :: a3 :: a4 :: a5 :: a6 :: a7 :: a8 :: .int x :: l) 9 f = (f x) := rfl
theorem zJ_9 {a0 a1 a2 a3 a4 a5 a6 a7 a8 : Value} {x : Int64} {l : List Value} {f : Int64 → Prop} : zJ (a0 :: a1 :: a2 :: a3 :: a4 :: a5 :: a6 :: a7 :: a8 :: .long x :: l) 9 f = (f x) := rfl
theorem zQr_9 {a0 a1 a2 a3 a4 a5 a6 a7 a8 : Value} {x : Nat} {l : List Value} {f : Value → Prop} : zQ (a0 :: a1 :: a2 :: a3 :: a4 :: a5 :: a6 :: a7 :: a8 :: .ref x :: l)[9]? f = (f (.ref x)) := rfl
theorem zQ0_9 {a0 a1 a2 a3 a4 a5 a6 a7 a8 : Value} {l : List Value} {f : Value → Prop} : zQ (a0 :: a1 :: a2 :: a3 :: a4 :: a5 :: a6 :: a7 :: a8 :: .null :: l)[9]? f = (f .null) := rfl
theorem zI_10 {a0 a1 a2 a3 a4 a5 a6 a7 a8 a9 : Value} {x : Int32} {l : List Value} {f : Int32 → Prop} : zI (a0 :: a1 :: a2 :: a3 :: a4 :: a5 :: a6 :: a7 :: a8 :: a9 :: .int x :: l) 10 f = (f x) := rfl
theorem zJ_10 {a0 a1 a2 a3 a4 a5 a6 a7 a8 a9 : Value} {x : Int64} {l : List Value} {f : Int64 → Prop} : zJ (a0 :: a1 :: a2 :: a3 :: a4 :: a5 :: a6 :: a7 :: a8 :: a9 :: .long x :: l) 10 f = (f x) := rfl
theorem zQr_10 {a0 a1 a2 a3 a4 a5 a6 a7 a8 a9 : Value} {x : Nat} {l : List Value} {f : Value → Prop} : zQ (a0 :: a1 :: a2 :: a3 :: a4 :: a5 :: a6 :: a7 :: a8 :: a9 :: .ref x :: l)[10]? f = (f (.ref x)) := rfl
theorem zQ0_10 {a0 a1 a2 a3 a4 a5 a6 a7 a8 a9 : Value} {l : List Value} {f : Value → Prop} : zQ (a0 :: a1 :: a2 :: a3 :: a4 :: a5 :: a6 :: a7 :: a8 :: a9 :: .null :: l)[10]? f = (f .null) := rfl
theorem zI_11 {a0 a1 a2 a3 a4 a5 a6 a7 a8 a9 a10 : Value} {x : Int32} {l : List Value} {f : Int32 → Prop} : zI (a0 :: a1 :: a2 :: a3 :: a4 :: a5 :: a6 :: a7 :: a8 :: a9 :: a10 :: .int x :: l) 11 f = (f x) := rfl
theorem zJ_11 {a0 a1 a2 a3 a4 a5 a6 a7 a8 a9 a10 : Value} {x : Int64} {l : List Value} {f : Int64 → Prop} : zJ (a0 :: a1 :: a2 :: a3 :: a4 :: a5 :: a6 :: a7 :: a8 :: a9 :: a10 :: .long x :: l) 11 f = (f x) := rfl
theorem zQr_11 {a0 a1 a2 a3 a4 a5 a6 a7 a8 a9 a10 : Value} {x : Nat} {l : List Value} {f : Value → Prop} : zQ (a0 :: a1 :: a2 :: a3 :: a4 :: a5 :: a6 :: a7 :: a8 :: a9 :: a10 :: .ref x :: l)[11]? f = (f (.ref x)) := rfl
theorem zQ0_11 {a0 a1 a2 a3 a4 a5 a6 a7 a8 a9 a10 : Value} {l : List Value} {f : Value → Prop} : zQ (a0 :: a1 :: a2 :: a3 :: a4 :: a5 :: a6 :: a7 :: a8 :: a9 :: a10 :: .null :: l)[11]? f = (f .null) := rfl
theorem zI_12 {a0 a1 a2 a3 a4 a5 a6 a7 a8 a9 a10 a11 : Value} {x : Int32} {l : List Value} {f : Int32 → Prop} : zI (a0 :: a1 :: a2 :: a3 :: a4 :: a5 :: a6 :: a7 :: a8 :: a9 :: a10 :: a11 :: .int x :: l) 12 f = (f x) := rfl
theorem zJ_12 {a0 a1 a2 a3 a4 a5 a6 a7 a8 a9 a10 a11 : Value} {x : Int64} {l : List Value} {f : Int64 → Prop} : zJ (a0 :: a1 :: a2 :: a3 :: a4 :: a5 :: a6 :: a7 :: a8 :: a9 :: a10 :: a11 :: .long x :: l) 12 f = (f x) := rfl
theorem zQr_12 {a0 a1 a2 a3 a4 a5 a6 a7 a8 a9 a10 a11 : Value} {x : Nat} {l : List Value} {f : Value → Prop} : zQ (a0 :: a1 :: a2 :: a3 :: a4 :: a5 :: a6 :: a7 :: a8 :: a9 :: a10 :: a11 :: .ref x :: l)[12]? f = (f (.ref x)) := rfl
theorem zQ0_12 {a0 a1 a2 a3 a4 a5 a6 a7 a8 a9 a10 a11 : Value} {l : List Value} {f : Value → Prop} : zQ (a0 :: a1 :: a2 :: a3 :: a4 :: a5 :: a6 :: a7 :: a8 :: a9 :: a10 :: a11 :: .null :: l)[12]? f = (f .null) := rfl
theorem zNar_i {x : Int32} : zNar (some .int) x = (True) := rfl
theorem zNar_z {x : Int32} : zNar (some .boolean) x = (x = 0 ∨ x = 1) := rfl
theorem zRfT_o {s : String} : zRfT (some (.object s)) = (True) := rfl
theorem zrv_s {a : Nat} : zrv (some a) = (.ref a) := rfl
theorem zrv_n  : zrv none = (.null) := rfl
end ZQ
