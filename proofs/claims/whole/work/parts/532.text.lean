/-! texts: the class's text against the reference's place in the tape -/
def cu (b : Nat → Int) (n i : Nat) : Int := if i < n then b i else -1
def txB (b : Nat → Int) (n : Nat) : Prop := n ≤ 240 ∧ ∀ j, j < n → 0 ≤ b j ∧ b j < 256
def txR (X N : Gr) (b : Nat → Int) (n i : Nat) : Prop := i ≤ n ∧ (X.1 1 = zI n ∧ X.1 2 = zI i ∧ X.1 3 = 0 ∧ ∀ j, j < n → X.2 0 j = zI (b j)) ∧ (N.1 9 = zI i ∧ N.1 10 = zI n ∧ ∀ j, j < n → N.2 7 j &&& 255 = zI (b j))
/-- the fault's number -/
def ft (k : Int) (i : Nat) : Int := -1000 * k - i
def flR (X N : Gr) : Prop := ∃ z : Int, z < 0 ∧ -100000 < z ∧ X.1 3 = zI z ∧ N.1 11 = zI z
theorem cu_b {b : Nat → Int} {n : Nat} (hb : txB b n) (i : Nat) : -1 ≤ cu b n i ∧ cu b n i < 256 := by
  unfold cu
  by_cases h : i < n
  · rw [if_pos h]; have := hb.2 i h; omega
  · rw [if_neg h]; omega
theorem cu_lt {b : Nat → Int} {n i : Nat} (h : 0 ≤ cu b n i) : i < n := by
  unfold cu at h
  by_cases h1 : i < n
  · exact h1
  · rw [if_neg h1] at h; omega
section
variable {X N : Gr} {b : Nat → Int} {n i : Nat}
theorem peek_b (hb : txB b n) (h : txR X N b n i) : f_X9_peek X = some (zI (cu b n i)) := by
  obtain ⟨h1, ⟨h2, h3, h4, h5⟩, -⟩ := h
  have hn := hb.1
  unfold f_X9_peek cu
  rw [h2, h3]
  by_cases hi : i < n
  · rw [if_neg (fun h => absurd ((leN (by omega) (by omega)).mp h) (by omega)), if_pos hi, rdN (by omega) (by omega), h5 i hi]
  · rw [if_pos ((leN (by omega) (by omega)).mpr (by omega)), if_neg hi]; rfl
theorem here_b (hb : txB b n) (h : txR X N b n i) : f_X12_here N = some (zI (cu b n i)) := by
  obtain ⟨h1, -, h2, h3, h4⟩ := h
  have hn := hb.1
  unfold f_X12_here cu
  rw [h2, h3]
  by_cases hi : i < n
  · rw [if_neg (fun h => absurd ((leN (by omega) (by omega)).mp h) (by omega)), if_pos hi, rdN (by omega) (by omega), h4 i hi]
  · rw [if_pos ((leN (by omega) (by omega)).mpr (by omega)), if_neg hi]; rfl
theorem isAt_b (hb : txB b n) (h : txR X N b n i) (lo hi : Int) (h0 : 0 ≤ lo) (h1 : lo < 256) (h2 : 0 ≤ hi) (h3 : hi < 256) : f_X9_isAt X (zI lo) (zI hi) = some (b2 (decide (lo ≤ cu b n i ∧ cu b n i ≤ hi))) := by
  obtain ⟨g1, ⟨g2, g3, g4, g5⟩, -⟩ := h
  have hn := hb.1
  unfold f_X9_isAt cu
  rw [g2, g3]
  by_cases hi' : i < n
  · have := hb.2 i hi'
    rw [if_neg (fun h => absurd ((leN (by omega) (by omega)).mp h) (by omega)), if_pos hi', rdN (by omega) (by omega), rdN (by omega) (by omega), g5 i hi']
    by_cases c1 : b i < lo
    · rw [if_pos ((zI_lt (by omega) (by omega) (by omega) (by omega)).mpr c1), decide_eq_false (by omega)]; rfl
    · rw [if_neg (fun h => c1 ((zI_lt (by omega) (by omega) (by omega) (by omega)).mp h))]
      by_cases c2 : hi < b i
      · rw [if_pos ((zI_lt (by omega) (by omega) (by omega) (by omega)).mpr c2), decide_eq_false (by omega)]; rfl
      · rw [if_neg (fun h => c2 ((zI_lt (by omega) (by omega) (by omega) (by omega)).mp h)), decide_eq_true (by omega)]; rfl
  · rw [if_pos ((leN (by omega) (by omega)).mpr (by omega)), if_neg hi', decide_eq_false (by omega)]; rfl
theorem stp_b (hb : txB b n) (h : txR X N b n i) (hi : i < n) : f_X9_step X = some (sI X 2 (zI ((i + 1 : Nat) : Int))) := by
  obtain ⟨g1, ⟨g2, g3, g4, g5⟩, -⟩ := h
  have hn := hb.1
  unfold f_X9_step
  rw [g2, g3, if_neg (fun h => absurd ((leN (by omega) (by omega)).mp h) (by omega)), lt_e, zs1]
/-- one place on; the reference's other numbers may change -/
theorem txR.nx (h : txR X N b n i) (hi : i < n) {N' : Gr} (e9 : N'.1 9 = zI ((i + 1 : Nat) : Int)) (e10 : N'.1 10 = N.1 10) (e7 : N'.2 7 = N.2 7) : txR (sI X 2 (zI ((i + 1 : Nat) : Int))) N' b n (i + 1) := by
  obtain ⟨g1, ⟨g2, g3, g4, g5⟩, g6, g7, g8⟩ := h
  refine ⟨hi, ⟨g2, sI_s _ _ _, g4, g5⟩, e9, e10.trans g7, ?_⟩
  rw [e7]; exact g8
theorem txR.nm (h : txR X N b n i) {N' : Gr} (e9 : N'.1 9 = N.1 9) (e10 : N'.1 10 = N.1 10) (e7 : N'.2 7 = N.2 7) : txR X N' b n i := by
  obtain ⟨g1, g2, g6, g7, g8⟩ := h
  refine ⟨g1, g2, e9.trans g6, e10.trans g7, ?_⟩
  rw [e7]; exact g8
theorem fat_b (h : txR X N b n i) (k : Int) (j : Nat) : f_X9_failAt X (zI k) (zI j) = some (0, sI X 3 (zI (ft k j))) := by
  have e : (-1000 : Int32) = zI (-1000) := rfl
  unfold f_X9_failAt ft
  rw [h.2.1.2.2.1, if_pos rfl, e, zI_mul, zI_sub, lt_e]
theorem fal_b (h : txR X N b n i) (k : Int) : f_X9_fail X (zI k) = some (0, sI X 3 (zI (ft k i))) := by
  unfold f_X9_fail
  rw [h.2.1.2.1, fat_b h k i, bd_s, zb_0]
theorem wro_b (h : txR X N b n i) (k : Int) : f_X12_wrongAt N (zI k) (N.1 9) = some (0, sI N 11 (zI (ft k i))) := by
  have e : (-1000 : Int32) = zI (-1000) := rfl
  unfold f_X12_wrongAt ft
  rw [h.2.2.1, e, zI_mul, zI_sub, lt_e]
end
theorem wra_b (N : Gr) (k : Int) (j : Nat) : f_X12_wrongAt N (zI k) (zI j) = some (0, sI N 11 (zI (ft k j))) := by
  have e : (-1000 : Int32) = zI (-1000) := rfl
  unfold f_X12_wrongAt ft
  rw [e, zI_mul, zI_sub, lt_e]
theorem fl_of (X N : Gr) {k : Int} {j : Nat} (hk : 1 ≤ k) (hk2 : k ≤ 9) (hj : j ≤ 1000) : flR (sI X 3 (zI (ft k j))) (sI N 11 (zI (ft k j))) := ⟨ft k j, by unfold ft; omega, by unfold ft; omega, sI_s _ _ _, sI_s _ _ _⟩
section
variable {X N : Gr} {b : Nat → Int} {n i : Nat}
theorem over_b (hb : txB b n) (h : txR X N b n i) (c : Int) (h0 : 0 ≤ c) (h1 : c < 256) : (cu b n i = c ∧ i < n ∧ f_X9_stepOver X (zI c) = some (1, sI X 2 (zI ((i + 1 : Nat) : Int))) ∧ f_X12_takes N (zI c) = some (1, sI N 9 (zI ((i + 1 : Nat) : Int)))) ∨ (cu b n i ≠ c ∧ f_X9_stepOver X (zI c) = some (0, sI X 3 (zI (ft 1 i))) ∧ f_X12_takes N (zI c) = some (0, sI N 11 (zI (ft 1 i)))) := by
  have hc := cu_b hb i
  unfold f_X9_stepOver f_X12_takes
  rw [peek_b hb h, here_b hb h, bd_s, bd_s]
  by_cases e : cu b n i = c
  · have hi : i < n := cu_lt (b := b) (by omega)
    rw [if_pos (by rw [e]), if_pos (by rw [e]), stp_b hb h hi, bd_s, h.2.2.1, zs1, lt_e]
    exact Or.inl ⟨e, hi, rfl, rfl⟩
  · have ne : ¬ zI (cu b n i) = zI c := by rw [zI_eq (by omega) (by omega) (by omega) (by omega)]; exact e
    have w1 : f_X12_wrongAt N 1 (N.1 9) = _ := wro_b h 1
    have w2 : f_X9_failAt X 1 (zI i) = _ := fat_b h 1 i
    rw [if_neg ne, if_neg ne, h.2.1.2.1, w2, bd_s, zb_0, w1, bd_s, zb_0]
    exact Or.inr ⟨e, rfl, rfl⟩
end
/-- the class takes the text -/
theorem take_lp {T M : Gr} {k n : Nat} (hk : tpR T M k) (hn : n ≤ 240) (hnk : n ≤ k) (x2 : Int32) : ∀ (d m f : Nat) (X : Gr), m + d = n → d < f → X.1 1 = zI n → (∀ j, j < m → X.2 0 j = zI (bz T j)) → ∃ X', f_X9_take_n13 T x2 f X (zI m) = some X' ∧ X'.1 1 = zI n ∧ X'.1 2 = 0 ∧ X'.1 3 = 0 ∧ ∀ j, j < n → X'.2 0 j = zI (bz T j) := by
  intro d
  induction d with
  | zero =>
    intro m f X hm hf h1 h2
    obtain ⟨f, rfl⟩ : ∃ k, f = k + 1 := ⟨f - 1, by omega⟩
    rw [f_X9_take_n13, h1, if_pos ((leN (by omega) (by omega)).mpr (by omega)), lt_e, lt_e]
    exact ⟨_, rfl, h1, rfl, rfl, fun j hj => h2 j (by omega)⟩
  | succ d ih =>
    intro m f X hm hf h1 h2
    obtain ⟨f, rfl⟩ : ∃ k, f = k + 1 := ⟨f - 1, by omega⟩
    rw [f_X9_take_n13, h1, if_neg (fun h => absurd ((leN (by omega) (by omega)).mp h) (by omega)), at_b hk (by omega), bd_s, ckN (by omega) (by omega), clN (by omega), lt_e, lt_e, zs1]
    refine ih (m + 1) f _ (by omega) (by omega) h1 (fun j hj => ?_)
    rw [sA_s]
    by_cases e : j = m
    · rw [if_pos e, e]
    · rw [if_neg e]; exact h2 j (by omega)
theorem take_b {T M X : Gr} {k n : Nat} (hk : tpR T M k) (hn : n ≤ 240) (hnk : n ≤ k) : ∃ X', f_X9_take X T (zI n) = some X' ∧ X'.1 1 = zI n ∧ X'.1 2 = 0 ∧ X'.1 3 = 0 ∧ ∀ j, j < n → X'.2 0 j = zI (bz T j) := by
  have e : mn' (zI n) 240 = zI n := by
    have e : (240 : Int32) = zI 240 := rfl
    rw [e, mn_z (by omega) (by omega) (by omega) (by omega)]; congr 1; omega
  unfold f_X9_take
  rw [e, lt_e, lt_e]
  exact take_lp hk hn hnk (zI n) n 0 fu (sI X 1 (zI n)) (by omega) (by show n < 1000; omega) (sI_s _ _ _) (fun j hj => by omega)
theorem txB_of {T M : Gr} {k n : Nat} (hk : tpR T M k) (hn : n ≤ 240) (hnk : n ≤ k) : txB (bz T) n := ⟨hn, fun j hj => ⟨(tp_v hk (by have := hk.1; omega)).1, (tp_v hk (by have := hk.1; omega)).2.1⟩⟩
theorem begin_e (N : Gr) (x : Int32) : f_X12_beginsText N x = some (sI (sI (sI (sI N 9 0) 10 x) 14 0) 16 0) := rfl
