/-! the pure layer: Int32 by whole numbers -/
def zI (z : Int) : Int32 := Int32.ofInt z
theorem zI_nat (k : Nat) : Int32.ofNat k = zI (k : Int) := (Int32.ofInt_eq_ofNat (n := k)).symm
theorem zI_lit (k : Nat) : (OfNat.ofNat k : Int32) = zI (k : Int) := zI_nat k
theorem zI_nI (k : Nat) : nI k = zI (k : Int) := zI_nat k
theorem zI_add (a b : Int) : zI a + zI b = zI (a + b) := (Int32.ofInt_add a b).symm
theorem zI_mul (a b : Int) : zI a * zI b = zI (a * b) := (Int32.ofInt_mul a b).symm
theorem zI_sub (a b : Int) : zI a - zI b = zI (a - b) := (Int32.ofInt_sub a b).symm
theorem zI_neg (a : Int) : - zI a = zI (-a) := (Int32.ofInt_neg a).symm
theorem zI_toInt {a : Int} (h1 : -2147483648 ≤ a) (h2 : a < 2147483648) : (zI a).toInt = a := Int32.toInt_ofInt_of_le h1 h2
theorem zI_of (x : Int32) : ∃ a : Int, -2147483648 ≤ a ∧ a < 2147483648 ∧ x = zI a := ⟨x.toInt, Int32.le_toInt x, Int32.toInt_lt x, (Int32.ofInt_toInt x).symm⟩
theorem zI_le {a b : Int} (h1 : -2147483648 ≤ a) (h2 : a < 2147483648) (h3 : -2147483648 ≤ b) (h4 : b < 2147483648) : zI a ≤ zI b ↔ a ≤ b := by
  rw [Int32.le_iff_toInt_le, zI_toInt h1 h2, zI_toInt h3 h4]
theorem zI_lt {a b : Int} (h1 : -2147483648 ≤ a) (h2 : a < 2147483648) (h3 : -2147483648 ≤ b) (h4 : b < 2147483648) : zI a < zI b ↔ a < b := by
  rw [Int32.lt_iff_toInt_lt, zI_toInt h1 h2, zI_toInt h3 h4]
theorem zI_eq {a b : Int} (h1 : -2147483648 ≤ a) (h2 : a < 2147483648) (h3 : -2147483648 ≤ b) (h4 : b < 2147483648) : zI a = zI b ↔ a = b := by
  rw [← Int32.toInt_inj, zI_toInt h1 h2, zI_toInt h3 h4]
theorem zI_clamp {a : Int} (h1 : -2147483648 ≤ a) (h2 : a < 2147483648) : (zI a).toNatClampNeg = a.toNat := by
  show (zI a).toInt.toNat = a.toNat
  rw [zI_toInt h1 h2]
theorem rd_z {β : Type} {f : Nat → Int32} {N : Nat} {a : Int} {k : Int32 → Option β} (h1 : 0 ≤ a) (h2 : a < N) (h3 : a < 2147483648) : rd' f N (zI a) k = k (f a.toNat) := by
  unfold rd'
  rw [if_neg, zI_clamp (by omega) h3]
  rw [zI_clamp (by omega) h3]
  rintro (h | h)
  · exact absurd ((zI_lt (b := 0) (by omega) h3 (by omega) (by omega)).mp h) (by omega)
  · omega
theorem ck_z {β : Type} {N : Nat} {a : Int} {k : Option β} (h1 : 0 ≤ a) (h2 : a < N) (h3 : a < 2147483648) : ck' N (zI a) k = k := by
  unfold ck'
  rw [if_neg]
  rw [zI_clamp (by omega) h3]
  rintro (h | h)
  · exact absurd ((zI_lt (b := 0) (by omega) h3 (by omega) (by omega)).mp h) (by omega)
  · omega
theorem zb_0 {β : Type} {k : Option β} : zb' 0 k = k := if_pos (Or.inl rfl)
theorem zb_1 {β : Type} {k : Option β} : zb' 1 k = k := if_pos (Or.inr rfl)
theorem lt_e {α β : Type} (e : α) (k : α → Option β) : lt' e k = k e := rfl
theorem bd_s {α β : Type} (e : α) (k : α → Option β) : (some e).bind k = k e := rfl
/-- 1 and 0 -/
def b2 (b : Bool) : Int32 := if b then 1 else 0
theorem b2_0 (b : Bool) : (b2 b = 0) ↔ b = false := by cases b <;> decide
theorem b2_1 (b : Bool) : (b2 b = 1) ↔ b = true := by cases b <;> decide
theorem zb_b {β : Type} {b : Bool} {k : Option β} : zb' (b2 b) k = k := by cases b; exact zb_0; exact zb_1
theorem within_z {x a b : Int} (h1 : -2147483648 ≤ x) (h2 : x < 2147483648) (h3 : -2147483648 ≤ a) (h4 : a < 2147483648) (h5 : -2147483648 ≤ b) (h6 : b < 2147483648) : f_X11_within (zI x) (zI a) (zI b) = some (b2 (decide (a ≤ x ∧ x ≤ b))) := by
  unfold f_X11_within
  simp only [zI_lt h1 h2 h3 h4, zI_lt h5 h6 h1 h2, zI_le h1 h2 h5 h6, zI_le h3 h4 h1 h2]
  by_cases c1 : a ≤ x <;> by_cases c2 : x ≤ b <;> simp [c1, c2, b2, Int.not_lt.mpr, Int.not_le] <;> omega
theorem in_z {x a b : Int} (h1 : -2147483648 ≤ x) (h2 : x < 2147483648) (h3 : -2147483648 ≤ a) (h4 : a < 2147483648) (h5 : -2147483648 ≤ b) (h6 : b < 2147483648) : f_X12_in (zI x) (zI a) (zI b) = some (b2 (decide (a ≤ x ∧ x ≤ b))) := by
  unfold f_X12_in
  simp only [zI_lt h1 h2 h3 h4, zI_lt h5 h6 h1 h2, zI_le h1 h2 h5 h6, zI_le h3 h4 h1 h2]
  by_cases c1 : a ≤ x <;> by_cases c2 : x ≤ b <;> simp [c1, c2, b2, Int.not_lt.mpr, Int.not_le] <;> omega
