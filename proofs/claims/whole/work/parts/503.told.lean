/-! told webs and fleets; small loops over spokes -/
def tb (w x : Int32) : Bool := decide (0 ≤ x ∧ x < 8 ∧ ((w >>> (x &&& 31)) &&& 1) = 1)
theorem i_nlt (a b : Int32) : ¬ a < b ↔ b ≤ a := Int32.not_lt
theorem i_nle (a b : Int32) : ¬ a ≤ b ↔ b < a := Int32.not_le
theorem hasWeb_e (S : Gr) (x : Int32) : f_X7_hasWeb S x = some (b2 (tb (S.1 0) x)) := by
  unfold f_X7_hasWeb tb
  by_cases h1 : x < 0
  · rw [if_pos h1]
    have : ¬ 0 ≤ x := (i_nle _ _).mpr h1
    simp [this, b2]
  · rw [if_neg h1]
    have h1' : 0 ≤ x := (i_nlt _ _).mp h1
    by_cases h2 : 8 ≤ x
    · rw [if_pos h2]
      have : ¬ x < 8 := (i_nlt _ _).mpr h2
      simp [this, b2]
    · rw [if_neg h2]
      have h2' : x < 8 := (i_nle _ _).mp h2
      by_cases h3 : (((S.1 0) >>> (x &&& 31)) &&& 1) = 1
      · rw [if_pos h3]; simp [h1', h2', h3, b2]
      · rw [if_neg h3]; simp [h1', h2', h3, b2]
theorem hasFleet_e (S : Gr) (x : Int32) : f_X7_hasFleet S x = some (b2 (tb (S.1 1) x)) := by
  unfold f_X7_hasFleet tb
  by_cases h1 : x < 0
  · rw [if_pos h1]
    have : ¬ 0 ≤ x := (i_nle _ _).mpr h1
    simp [this, b2]
  · rw [if_neg h1]
    have h1' : 0 ≤ x := (i_nlt _ _).mp h1
    by_cases h2 : 8 ≤ x
    · rw [if_pos h2]
      have : ¬ x < 8 := (i_nlt _ _).mpr h2
      simp [this, b2]
    · rw [if_neg h2]
      have h2' : x < 8 := (i_nle _ _).mp h2
      by_cases h3 : (((S.1 1) >>> (x &&& 31)) &&& 1) = 1
      · rw [if_pos h3]; simp [h1', h2', h3, b2]
      · rw [if_neg h3]; simp [h1', h2', h3, b2]
theorem has_e (w x : Int32) : f_X12_has w x = some (b2 (decide (((w >>> (x &&& 31)) &&& 1) = 1))) := by
  unfold f_X12_has
  by_cases h3 : ((w >>> (x &&& 31)) &&& 1) = 1
  · rw [if_pos h3]; simp [h3, b2]
  · rw [if_neg h3]; simp [h3, b2]
theorem within_e (x a b : Int32) : f_X11_within x a b = some (b2 (decide (a ≤ x ∧ x ≤ b))) := by
  obtain ⟨x, h1, h2, rfl⟩ := zI_of x
  obtain ⟨a, h3, h4, rfl⟩ := zI_of a
  obtain ⟨b, h5, h6, rfl⟩ := zI_of b
  rw [within_z h1 h2 h3 h4 h5 h6]
  simp only [zI_le h3 h4 h1 h2, zI_le h1 h2 h5 h6]
theorem in_e (x a b : Int32) : f_X12_in x a b = some (b2 (decide (a ≤ x ∧ x ≤ b))) := by
  obtain ⟨x, h1, h2, rfl⟩ := zI_of x
  obtain ⟨a, h3, h4, rfl⟩ := zI_of a
  obtain ⟨b, h5, h6, rfl⟩ := zI_of b
  rw [in_z h1 h2 h3 h4 h5 h6]
  simp only [zI_le h3 h4 h1 h2, zI_le h1 h2 h5 h6]
theorem le7 (x : Int32) : x ≤ 7 ↔ x < 8 := by
  obtain ⟨x, h1, h2, rfl⟩ := zI_of x
  have e7 : (7 : Int32) = zI 7 := rfl
  have e8 : (8 : Int32) = zI 8 := rfl
  rw [e7, e8, zI_le h1 h2 (by omega) (by omega), zI_lt h1 h2 (by omega) (by omega)]
  omega
theorem isWeb_e (M : Gr) (x : Int32) : f_X12_isWeb M x = some (b2 (tb (M.1 5) x)) := by
  unfold f_X12_isWeb tb
  rw [in_e, bd_s, has_e]
  by_cases h1 : 0 ≤ x ∧ x ≤ 7
  · have h2 : x < 8 := (le7 x).mp h1.2
    simp only [h1, h1.1, h2, true_and, decide_true, and_self]
    by_cases h3 : ((M.1 5 >>> (x &&& 31)) &&& 1) = 1 <;> simp [h3, b2]
  · have h2 : ¬ (0 ≤ x ∧ x < 8) := fun h => h1 ⟨h.1, (le7 x).mpr h.2⟩
    have h3 : ¬ (0 ≤ x ∧ x < 8 ∧ ((M.1 5 >>> (x &&& 31)) &&& 1) = 1) := fun h => h2 ⟨h.1, h.2.1⟩
    simp only [h1, h3, decide_false]
    rfl
theorem isFleet_e (M : Gr) (x : Int32) : f_X12_isFleet M x = some (b2 (tb (M.1 6) x)) := by
  unfold f_X12_isFleet tb
  rw [in_e, bd_s, has_e]
  by_cases h1 : 0 ≤ x ∧ x ≤ 7
  · have h2 : x < 8 := (le7 x).mp h1.2
    simp only [h1, h1.1, h2, true_and, decide_true, and_self]
    by_cases h3 : ((M.1 6 >>> (x &&& 31)) &&& 1) = 1 <;> simp [h3, b2]
  · have h2 : ¬ (0 ≤ x ∧ x < 8) := fun h => h1 ⟨h.1, (le7 x).mpr h.2⟩
    have h3 : ¬ (0 ≤ x ∧ x < 8 ∧ ((M.1 6 >>> (x &&& 31)) &&& 1) = 1) := fun h => h2 ⟨h.1, h.2.1⟩
    simp only [h1, h3, decide_false]
    rfl
theorem tb_t {w x : Int32} (h : tb w x = true) : ∃ p : Nat, p < 8 ∧ x = zI p ∧ tw w p := by
  have h := of_decide_eq_true h
  obtain ⟨a, h1, h2, rfl⟩ := zI_of x
  have e0 : (0 : Int32) = zI 0 := rfl
  have e8 : (8 : Int32) = zI 8 := rfl
  rw [e0, e8, zI_le (by omega) (by omega) h1 h2, zI_lt h1 h2 (by omega) (by omega)] at h
  obtain ⟨j, rfl⟩ : ∃ j : Nat, a = j := ⟨a.toNat, by omega⟩
  exact ⟨j, by omega, rfl, h.2.2⟩
theorem tb_z {w : Int32} {p : Nat} (hp : p < 8) : tb w (zI p) = true ↔ tw w p := by
  unfold tb tw
  have e0 : (0 : Int32) = zI 0 := rfl
  have e8 : (8 : Int32) = zI 8 := rfl
  have h1 : (0 : Int32) ≤ zI p := by rw [e0, zI_le (by omega) (by omega) (by omega) (by omega)]; omega
  have h2 : zI p < 8 := by rw [e8, zI_lt (by omega) (by omega) (by omega) (by omega)]; omega
  simp [h1, h2]
theorem b2_t : b2 true = 1 := rfl
theorem b2_f : b2 false = 0 := rfl
theorem seed_ok : hp_seed Inv := by
  intro C M ⟨h1, h2, h3, h4, h5⟩ x
  unfold f_X11_seed f_X12_seed
  rw [within_e, in_e, bd_s, bd_s]
  by_cases hx : (0 : Int32) ≤ x ∧ x ≤ 65535
  · rw [decide_eq_true hx, b2_t]
    refine ⟨_, _, rfl, rfl, rfl, h1, ?_, h3, h4, h5⟩
    obtain ⟨a1, a2, a3, a4, a5, a6, a7, a8⟩ := h2
    obtain ⟨a, b1, b2, rfl⟩ := zI_of x
    have e0 : (0 : Int32) = zI 0 := rfl
    have e1 : (65535 : Int32) = zI 65535 := rfl
    rw [e0, e1, zI_le (by omega) (by omega) b1 b2, zI_le b1 b2 (by omega) (by omega)] at hx
    refine ⟨a1, a2, a3, a4, a5, ⟨a, by omega, by omega, rfl, rfl⟩, fun p hp ht s hs => ?_, fun g hg ht => ?_⟩
    · obtain ⟨t, c1, c2, c3, c4⟩ := a7 p hp ht s hs
      refine ⟨t, c1, c2, c3, ?_⟩
      show upd (M.2 0) 81 (zI a) (8 * p + s) = zI t
      rw [upd_e, if_neg (by omega)]; exact c4
    · obtain ⟨x, y, c, c1, c2, c3, c4, c5, c6, c7, c8, c9, c10, c11⟩ := a8 g hg ht
      refine ⟨x, y, c, c1, c2, c3, c4, c5, c6, c7, c8, ?_, c10, ?_⟩
      · show upd (M.2 0) 81 (zI a) (64 + g) = _
        rw [upd_e, if_neg (by omega)]; exact c9
      · show upd (M.2 0) 81 (zI a) (72 + g) = _
        rw [upd_e, if_neg (by omega)]; exact c11
  · rw [decide_eq_false hx, b2_f]
    exact ⟨_, _, rfl, rfl, rfl, h1, h2, h3, h4, h5⟩
