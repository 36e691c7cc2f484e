/-! The layout: the classes, their fields, the cells in the order in which they are made. -/
def zR : Nat → String := fun c => match c with
  | 0 => RX0
  | 1 => RX1
  | 2 => RX2
  | 3 => RX3
  | 4 => RX4
  | 5 => RX5
  | 6 => RX6
  | 7 => RX7
  | 8 => RX8
  | 9 => RX9
  | 10 => RX10
  | _ => RX11
def zT : Nat → u_T := fun c => match c with
  | 0 => TX0
  | 1 => TX1
  | 2 => TX2
  | 3 => TX3
  | 4 => TX4
  | 5 => TX5
  | 6 => TX6
  | 7 => TX7
  | 8 => TX8
  | 9 => TX9
  | 10 => TX10
  | _ => TX11
def zY : Nat → Nat → FieldType := fun c => match c with
  | 0 => tyX0
  | 1 => tyX1
  | 2 => tyX2
  | 3 => tyX3
  | 4 => tyX4
  | 5 => tyX5
  | 6 => tyX6
  | 7 => tyX7
  | 8 => tyX8
  | 9 => tyX9
  | 10 => tyX10
  | _ => tyX11
def zN : Nat → Nat := fun c => match c with
  | 0 => 4
  | 1 => 6
  | 2 => 3
  | 3 => 5
  | 4 => 3
  | 5 => 3
  | 6 => 2
  | 7 => 2
  | 8 => 3
  | 9 => 5
  | 10 => 14
  | _ => 46
def zC : List vw_C := [(RX0, TX0, 4), (RX1, TX1, 6), (RX2, TX2, 3), (RX3, TX3, 5), (RX4, TX4, 3), (RX5, TX5, 3), (RX6, TX6, 2), (RX7, TX7, 2), (RX8, TX8, 3), (RX9, TX9, 5), (RX10, TX10, 14), (RX11, TX11, 46)]
theorem zC_at : ∀ c, c < 12 → zC[c]? = some (zR c, zT c, zN c) := fun c h => match c, h with
  | 0, _ => rfl
  | 1, _ => rfl
  | 2, _ => rfl
  | 3, _ => rfl
  | 4, _ => rfl
  | 5, _ => rfl
  | 6, _ => rfl
  | 7, _ => rfl
  | 8, _ => rfl
  | 9, _ => rfl
  | 10, _ => rfl
  | 11, _ => rfl
theorem zY_ok : ∀ c, c < 12 → ∀ k, k < zN c → parseFieldDescriptor (zT c k).2.2.1 = some (zY c k) := fun c h => match c, h with
  | 0, _ => tyX0_ok
  | 1, _ => tyX1_ok
  | 2, _ => tyX2_ok
  | 3, _ => tyX3_ok
  | 4, _ => tyX4_ok
  | 5, _ => tyX5_ok
  | 6, _ => tyX6_ok
  | 7, _ => tyX7_ok
  | 8, _ => tyX8_ok
  | 9, _ => tyX9_ok
  | 10, _ => tyX10_ok
  | 11, _ => tyX11_ok
theorem zT_nm : ∀ c, c < 12 → ∀ a, a < zN c → ∀ b, b < zN c → a ≠ b → (zT c a).2.1 ≠ (zT c b).2.1 := fun c h => match c, h with
  | 0, _ => nmX0
  | 1, _ => nmX1
  | 2, _ => nmX2
  | 3, _ => nmX3
  | 4, _ => nmX4
  | 5, _ => nmX5
  | 6, _ => nmX6
  | 7, _ => nmX7
  | 8, _ => nmX8
  | 9, _ => nmX9
  | 10, _ => nmX10
  | 11, _ => nmX11
/-- the cells: 0 int rows, 1 boolean rows, 2 .. 4 rows of Hens, Sheets, Texts (with their lengths), 10 + class objects (with their fields) -/
def zL0 : List (Nat × Nat) := [(20, 14), (16, 2), (0, 10), (0, 10), (12, 3), (0, 6), (0, 160), (2, 5), (17, 2), (0, 160), (14, 3), (19, 5), (0, 161), (0, 161), (0, 161), (18, 3), (0, 160), (0, 3), (4, 6), (3, 4), (13, 5), (10, 4), (0, 1111), (0, 1111), (0, 1111), (11, 6), (16, 2), (0, 10), (0, 10), (2, 5), (10, 4), (10, 4), (10, 4), (10, 4), (10, 4), (10, 4), (10, 4), (10, 4), (10, 4), (10, 4), (10, 4), (18, 3), (0, 160), (0, 3), (18, 3), (0, 160), (0, 3), (18, 3), (0, 160), (0, 3), (18, 3), (0, 160), (0, 3), (18, 3), (0, 160), (0, 3), (18, 3), (0, 160), (0, 3), (15, 3), (0, 40), (15, 3), (0, 40), (15, 3), (0, 40), (15, 3), (0, 40), (21, 46), (0, 960), (0, 6), (0, 160), (0, 10), (0, 5), (0, 15), (0, 5), (0, 15), (0, 10), (0, 15), (1, 4), (0, 4), (0, 4), (0, 160)]
def zL (a : Nat) : Nat × Nat := zL0.getD a (0, 0)
