/-! distances, spokes, places -/
theorem ab_z {a : Int} (h1 : -100000 < a) (h2 : a < 100000) : ab' (zI a) = zI (a.natAbs : Int) := by
  have e0 : (0 : Int32) = zI 0 := rfl
  unfold ab'
  simp only [e0, zI_le (a := 0) (b := a) (by omega) (by omega) (by omega) (by omega), zI_sub]
  by_cases h : 0 ≤ a
  · rw [if_pos h]; congr 1; omega
  · rw [if_neg h]; congr 1; omega
theorem size_z {a : Int} (h1 : -100000 < a) (h2 : a < 100000) : f_X12_size (zI a) = some (zI (a.natAbs : Int)) := by
  have e0 : (0 : Int32) = zI 0 := rfl
  unfold f_X12_size
  simp only [e0, zI_le (a := 0) (b := a) (by omega) (by omega) (by omega) (by omega), zI_neg]
  by_cases h : 0 ≤ a
  · rw [if_pos h]; congr 2; omega
  · rw [if_neg h]; congr 2; omega
theorem mx_z {a b : Int} (h1 : -100000 < a) (h2 : a < 100000) (h3 : -100000 < b) (h4 : b < 100000) : mx' (zI a) (zI b) = zI (max a b) := by
  unfold mx'
  simp only [zI_lt (a := a) (b := b) (by omega) (by omega) (by omega) (by omega)]
  by_cases h : a < b
  · rw [if_pos h]; congr 1; omega
  · rw [if_neg h]; congr 1; omega
theorem mn_z {a b : Int} (h1 : -100000 < a) (h2 : a < 100000) (h3 : -100000 < b) (h4 : b < 100000) : mn' (zI a) (zI b) = zI (min a b) := by
  unfold mn'
  simp only [zI_lt (a := b) (b := a) (by omega) (by omega) (by omega) (by omega)]
  by_cases h : b < a
  · rw [if_pos h]; congr 1; omega
  · rw [if_neg h]; congr 1; omega
theorem max_z {a b : Int} (h1 : -100000 < a) (h2 : a < 100000) (h3 : -100000 < b) (h4 : b < 100000) : f_X12_max (zI a) (zI b) = some (zI (max a b)) := by
  unfold f_X12_max
  simp only [zI_le (a := a) (b := b) (by omega) (by omega) (by omega) (by omega)]
  by_cases h : a ≤ b
  · rw [if_pos h]; congr 2; omega
  · rw [if_neg h]; congr 2; omega
theorem min_z {a b : Int} (h1 : -100000 < a) (h2 : a < 100000) (h3 : -100000 < b) (h4 : b < 100000) : f_X12_min (zI a) (zI b) = some (zI (min a b)) := by
  unfold f_X12_min
  simp only [zI_le (a := b) (b := a) (by omega) (by omega) (by omega) (by omega)]
  by_cases h : b ≤ a
  · rw [if_pos h]; congr 2; omega
  · rw [if_neg h]; congr 2; omega
theorem pl_div {x y : Int} (h1 : 0 ≤ x) (h2 : x < 24) (h3 : 0 ≤ y) (h4 : y < 100000) : zI (24 * y + x) / 24 = zI y := by
  obtain ⟨n, hn⟩ : ∃ n : Nat, 24 * y + x = n := ⟨(24 * y + x).toNat, by omega⟩
  have e : (24 : Int32) = nI 24 := rfl
  rw [hn, ← zI_nI, e, pk_div (by omega) (by omega) (by omega), zI_nI]
  congr 1; omega
theorem pl_rem {x y : Int} (h1 : 0 ≤ x) (h2 : x < 24) (h3 : 0 ≤ y) (h4 : y < 100000) : zI (24 * y + x) - zI (24 * y + x) / 24 * 24 = zI x := by
  have e : (24 : Int32) = zI 24 := rfl
  rw [pl_div h1 h2 h3 h4, e, zI_mul, zI_sub]
  congr 1; omega
/-- the distance -/
def dz (x y x' y' : Int) : Int := max ((x - x').natAbs : Int) ((y - y').natAbs : Int)
theorem dz_c (x y x' y' : Int) : dz x y x' y' = dz x' y' x y := by unfold dz; omega
theorem dz_b {x y x' y' : Int} (h : 0 ≤ x ∧ x < 24 ∧ 0 ≤ y ∧ y < 16) (h' : 0 ≤ x' ∧ x' < 24 ∧ 0 ≤ y' ∧ y' < 16) : 0 ≤ dz x y x' y' ∧ dz x y x' y' < 24 := by unfold dz; omega
theorem dist_c {x y x' y' : Int} (h : 0 ≤ x ∧ x < 24 ∧ 0 ≤ y ∧ y < 16) (h' : 0 ≤ x' ∧ x' < 24 ∧ 0 ≤ y' ∧ y' < 16) : f_X1_distance (zI x - zI x') (zI y - zI y') = some (zI (dz x y x' y')) := by
  unfold f_X1_distance
  rw [zI_sub, zI_sub, lt_e, ab_z (by omega) (by omega), lt_e, ab_z (by omega) (by omega), lt_e, mx_z (by omega) (by omega) (by omega) (by omega)]
  rfl
theorem dist_m {x y x' y' : Int} (h : 0 ≤ x ∧ x < 24 ∧ 0 ≤ y ∧ y < 16) (h' : 0 ≤ x' ∧ x' < 24 ∧ 0 ≤ y' ∧ y' < 16) : f_X12_distance (zI (24 * y + x)) (zI (24 * y' + x')) = some (zI (dz x y x' y')) := by
  unfold f_X12_distance
  rw [lt_e, lt_e, pl_rem (by omega) (by omega) (by omega) (by omega), pl_rem (by omega) (by omega) (by omega) (by omega), zI_sub, size_z (by omega) (by omega), bd_s, lt_e, lt_e, pl_div (by omega) (by omega) (by omega) (by omega), pl_div (by omega) (by omega) (by omega) (by omega), zI_sub, size_z (by omega) (by omega), bd_s, max_z (by omega) (by omega) (by omega) (by omega), bd_s]
  rfl
/-- the spoke towards what lies a across and b along -/
def spz (a b : Int) : Int32 := if (a.natAbs : Int) ≤ 2 * b.natAbs then (if (b.natAbs : Int) ≤ 2 * a.natAbs then (if (a.natAbs : Int) = 0 then 0 else (if a ≤ 0 then (if 0 ≤ b then 5 else 7) else (if 0 ≤ b then 3 else 1))) else (if 0 ≤ b then 4 else 0)) else (if a ≤ 0 then 6 else 2)
theorem sp_c {a b : Int} (h1 : -1000 < a) (h2 : a < 1000) (h3 : -1000 < b) (h4 : b < 1000) : f_X1_spokeTowards (zI a) (zI b) = some (spz a b) := by
  have e0 : (0 : Int32) = zI 0 := rfl
  have e2 : (2 : Int32) = zI 2 := rfl
  unfold f_X1_spokeTowards spz
  rw [lt_e, ab_z (by omega) (by omega), lt_e, ab_z (by omega) (by omega)]
  have c1 : (zI (a.natAbs : Int) ≤ 2 * zI (b.natAbs : Int)) ↔ (a.natAbs : Int) ≤ 2 * b.natAbs := by rw [e2, zI_mul, zI_le (by omega) (by omega) (by omega) (by omega)]
  have c2 : (zI (b.natAbs : Int) ≤ 2 * zI (a.natAbs : Int)) ↔ (b.natAbs : Int) ≤ 2 * a.natAbs := by rw [e2, zI_mul, zI_le (by omega) (by omega) (by omega) (by omega)]
  have c3 : (zI (a.natAbs : Int) = 0) ↔ (a.natAbs : Int) = 0 := by rw [e0, zI_eq (by omega) (by omega) (by omega) (by omega)]
  have c4 : (zI a ≤ 0) ↔ a ≤ 0 := by rw [e0, zI_le (by omega) (by omega) (by omega) (by omega)]
  have c5 : (0 ≤ zI b) ↔ 0 ≤ b := by rw [e0, zI_le (by omega) (by omega) (by omega) (by omega)]
  simp only [c1, c2, c3, c4, c5]
  repeat' split
  all_goals rfl
theorem sp_m {x y x' y' : Int} (h : 0 ≤ x ∧ x < 24 ∧ 0 ≤ y ∧ y < 16) (h' : 0 ≤ x' ∧ x' < 24 ∧ 0 ≤ y' ∧ y' < 16) : f_X12_towards (zI (24 * y + x)) (zI (24 * y' + x')) = some (spz (x' - x) (y' - y)) := by
  have e0 : (0 : Int32) = zI 0 := rfl
  have e2 : (2 : Int32) = zI 2 := rfl
  unfold f_X12_towards spz
  rw [lt_e, lt_e, pl_rem (by omega) (by omega) (by omega) (by omega), pl_rem (by omega) (by omega) (by omega) (by omega), lt_e, zI_sub, lt_e, lt_e, pl_div (by omega) (by omega) (by omega) (by omega), pl_div (by omega) (by omega) (by omega) (by omega), lt_e, zI_sub]
  simp only [size_z (a := y' - y) (by omega) (by omega), size_z (a := x' - x) (by omega) (by omega), bd_s]
  generalize ha : x' - x = a
  generalize hb : y' - y = b
  have c0 : (zI (24 * y + x) = zI (24 * y' + x')) ↔ (a = 0 ∧ b = 0) := by rw [zI_eq (by omega) (by omega) (by omega) (by omega)]; omega
  have c1 : (zI (a.natAbs : Int) ≤ 2 * zI (b.natAbs : Int)) ↔ (a.natAbs : Int) ≤ 2 * b.natAbs := by rw [e2, zI_mul, zI_le (by omega) (by omega) (by omega) (by omega)]
  have c2 : (zI (b.natAbs : Int) ≤ 2 * zI (a.natAbs : Int)) ↔ (b.natAbs : Int) ≤ 2 * a.natAbs := by rw [e2, zI_mul, zI_le (by omega) (by omega) (by omega) (by omega)]
  have c4 : (zI a ≤ 0) ↔ a ≤ 0 := by rw [e0, zI_le (by omega) (by omega) (by omega) (by omega)]
  have c5 : (zI b ≤ 0) ↔ b ≤ 0 := by rw [e0, zI_le (by omega) (by omega) (by omega) (by omega)]
  simp only [c0, c1, c2, c4, c5]
  repeat' split
  all_goals first | rfl | (exfalso; omega)
theorem spz_b (a b : Int) : ∃ s : Nat, s < 8 ∧ spz a b = zI s := by
  unfold spz
  repeat' split
  · exact ⟨0, by omega, rfl⟩
  · exact ⟨5, by omega, rfl⟩
  · exact ⟨7, by omega, rfl⟩
  · exact ⟨3, by omega, rfl⟩
  · exact ⟨1, by omega, rfl⟩
  · exact ⟨4, by omega, rfl⟩
  · exact ⟨0, by omega, rfl⟩
  · exact ⟨6, by omega, rfl⟩
  · exact ⟨2, by omega, rfl⟩
theorem ix64 {g : Nat} : (64 : Int32) + zI g = zI ((64 + g : Nat) : Int) := by
  have e : (64 : Int32) = zI 64 := rfl
  rw [e, zI_add]; rfl
theorem ix72 {g : Nat} : (72 : Int32) + zI g = zI ((72 + g : Nat) : Int) := by
  have e : (72 : Int32) = zI 72 := rfl
  rw [e, zI_add]; rfl
/-- what is known of a told web and a told fleet -/
def wfOK (S M : Gr) (p g : Nat) (x y a b f : Int) : Prop := (0 ≤ x ∧ x < 24 ∧ 0 ≤ y ∧ y < 16) ∧ (0 ≤ a ∧ a < 24 ∧ 0 ≤ b ∧ b < 16) ∧ (0 ≤ f ∧ f ≤ 99) ∧ S.2 2 p = zI x ∧ S.2 3 p = zI y ∧ M.2 3 p = zI (24 * y + x) ∧ S.2 5 g = zI a ∧ S.2 6 g = zI b ∧ M.2 0 (64 + g) = zI (24 * b + a) ∧ S.2 7 g = zI f ∧ M.2 4 g = zI f
theorem felt_b {S M : Gr} {p g : Nat} {x y a b f : Int} (hp : p < 8) (hg : g < 8) (h : wfOK S M p g x y a b f) : f_X7_felt S (zI p) (zI g) = some (zI (f - dz a b x y)) ∧ f_X12_feltBy M (zI p) (zI g) = some (zI (f - dz a b x y)) ∧ f_X7_distanceTo S (zI p) (zI g) = some (zI (dz a b x y)) ∧ f_X7_spokeTo S (zI p) (zI g) = some (spz (a - x) (b - y)) := by
  obtain ⟨h1, h2, h3, q1, q2, q3, q4, q5, q6, q7, q8⟩ := h
  have hd : f_X7_distanceTo S (zI p) (zI g) = some (zI (dz a b x y)) := by
    unfold f_X7_distanceTo
    rw [rdN hg (by omega), rdN hp (by omega), rdN hg (by omega), rdN hp (by omega), q1, q2, q4, q5, dist_c h2 h1, bd_s]
  refine ⟨?_, ?_, hd, ?_⟩
  · unfold f_X7_felt
    rw [rdN hg (by omega), hd, bd_s, q7, zI_sub]
  · unfold f_X12_feltBy
    rw [rdN hg (by omega), rdN hp (by omega), ix64, rdN (by omega) (by omega), q3, q6, dist_m h1 h2, bd_s, q8, zI_sub, dz_c]
  · unfold f_X7_spokeTo
    rw [rdN hg (by omega), rdN hp (by omega), rdN hg (by omega), rdN hp (by omega), q1, q2, q4, q5, zI_sub, zI_sub, sp_c (by omega) (by omega) (by omega) (by omega), bd_s]
