/-! smoothed -/
def med (a b c : Int) : Int := max (min a b) (min (max a b) c)
def sm (n : Nat) (w : Nat → Int) (k : Nat) : Int := if k = 0 ∨ n ≤ k + 1 then w k else med (w (k - 1)) (w k) (w (k + 1))
def sW (n : Nat) (w : Nat → Int) : Nat → Nat → Int
  | 0 => w
  | t + 1 => sm n (sW n w t)
theorem sm_i {n : Nat} {w : Nat → Int} {k : Nat} (h : k + 2 < n) : sm n w (k + 1) = med (w k) (w (k + 1)) (w (k + 2)) := by
  unfold sm
  rw [if_neg (by omega)]; rfl
theorem sW_r (n : Nat) (w : Nat → Int) : ∀ k, k + 1 < n → ∀ t, k ≤ t → sW n w (t + 1) k = sW n w t k := by
  intro k
  induction k with
  | zero => intro h t ht; show sm n (sW n w t) 0 = _; unfold sm; rw [if_pos (by omega)]
  | succ k ih =>
    intro h t ht
    obtain ⟨t, rfl⟩ : ∃ j, t = j + 1 := ⟨t - 1, by omega⟩
    have h1 := ih (by omega) t (by omega)
    have e1 : sW n w (t + 1 + 1) (k + 1) = med (sW n w (t + 1) k) (sW n w (t + 1) (k + 1)) (sW n w (t + 1) (k + 2)) := sm_i (by omega)
    have e2 : sW n w (t + 1) (k + 1) = med (sW n w t k) (sW n w t (k + 1)) (sW n w t (k + 2)) := sm_i (by omega)
    have e3 : sW n w (t + 1) (k + 2) = sW n w t (k + 2) ∨ sW n w (t + 1) (k + 2) = med (sW n w t (k + 1)) (sW n w t (k + 2)) (sW n w t (k + 3)) := by
      by_cases hl : k + 3 < n
      · right; exact sm_i (by omega)
      · left; show sm n (sW n w t) (k + 2) = _; unfold sm; rw [if_pos (by omega)]
    rw [e1, h1]
    unfold med at e2 e3 ⊢
    omega
theorem med_b {a b c : Int} (ha : 0 ≤ a ∧ a < 256) (hb : 0 ≤ b ∧ b < 256) (hc : 0 ≤ c ∧ c < 256) : 0 ≤ med a b c ∧ med a b c < 256 := by unfold med; omega
theorem sm_b {n : Nat} {w : Nat → Int} (h : ∀ k, k < n → 0 ≤ w k ∧ w k < 256) : ∀ k, k < n → 0 ≤ sm n w k ∧ sm n w k < 256 := fun k hk => by
  unfold sm
  by_cases hc : k = 0 ∨ n ≤ k + 1
  · rw [if_pos hc]; exact h k hk
  · rw [if_neg hc]; exact med_b (h _ (by omega)) (h _ hk) (h _ (by omega))
theorem sW_b {n : Nat} {w : Nat → Int} (h : ∀ k, k < n → 0 ≤ w k ∧ w k < 256) : ∀ t k, k < n → 0 ≤ sW n w t k ∧ sW n w t k < 256 := by
  intro t
  induction t with
  | zero => exact h
  | succ t ih => exact sm_b ih
theorem mid_c {a b c : Int} (ha : 0 ≤ a ∧ a < 256) (hb : 0 ≤ b ∧ b < 256) (hc : 0 ≤ c ∧ c < 256) : f_X2_middle (zI a) (zI b) (zI c) = some (zI (med a b c)) := by
  unfold f_X2_middle
  rw [lt_e, lt_e, mn_z (by omega) (by omega) (by omega) (by omega), mx_z (by omega) (by omega) (by omega) (by omega), lt_e, mn_z (by omega) (by omega) (by omega) (by omega), lt_e, mx_z (by omega) (by omega) (by omega) (by omega)]
  rfl
theorem mid_m {a b c : Int} (ha : 0 ≤ a ∧ a < 256) (hb : 0 ≤ b ∧ b < 256) (hc : 0 ≤ c ∧ c < 256) : f_X12_middle (zI a) (zI b) (zI c) = some (zI (med a b c)) := by
  unfold f_X12_middle
  rw [min_z (by omega) (by omega) (by omega) (by omega), bd_s, max_z (by omega) (by omega) (by omega) (by omega), bd_s, min_z (by omega) (by omega) (by omega) (by omega), bd_s, max_z (by omega) (by omega) (by omega) (by omega), bd_s]
  rfl
/-- something changes in a round, up to k -/
def chg (n : Nat) (u : Nat → Int) (k : Nat) : Prop := ∃ j, j < k ∧ j < n ∧ sm n u j ≠ u j
theorem on2_c {n : Nat} (hn : 3 ≤ n) (hn2 : n ≤ 30) {u : Nat → Int} {c : Bool} : ∀ (d k f : Nat) (D : Gr), k + d + 1 = n → 1 ≤ k → d < f → (∀ j, j < n → D.2 1 j = zI (if j < k then sm n u j else u j)) → (∀ j, 1 ≤ j → j + 1 < n → D.2 2 j = zI (sm n u j)) → ∃ D', f_X2_smoothOnce_n75 (zI n) f D (b2 c) (zI k) = some (b2 c, D') ∧ ∀ j, j < n → D'.2 1 j = zI (sm n u j) := by
  have e1 : (1 : Int32) = zI 1 := rfl
  have en : zI n - 1 = zI ((n - 1 : Nat) : Int) := by rw [e1, zI_sub]; congr 1; omega
  intro d
  induction d with
  | zero =>
    intro k f D hk h1 hf hD hD2
    obtain ⟨f, rfl⟩ : ∃ k, f = k + 1 := ⟨f - 1, by omega⟩
    rw [f_X2_smoothOnce_n75, en, if_pos ((leN (by omega) (by omega)).mpr (by omega)), zb_b]
    refine ⟨D, rfl, fun j hj => ?_⟩
    rw [hD j hj]
    by_cases h : j < k
    · rw [if_pos h]
    · rw [if_neg h]; unfold sm; rw [if_pos (by omega)]
  | succ d ih =>
    intro k f D hk h1 hf hD hD2
    obtain ⟨f, rfl⟩ : ∃ k, f = k + 1 := ⟨f - 1, by omega⟩
    rw [f_X2_smoothOnce_n75, en, if_neg (fun h => absurd ((leN (by omega) (by omega)).mp h) (by omega)), rdN (by omega) (by omega), ckN (by omega) (by omega), clN (by omega), lt_e, lt_e, zs1]
    refine ih (k + 1) f _ (by omega) (by omega) (by omega) (fun j hj => ?_) (fun j j1 j2 => ?_)
    · rw [sA_s]
      by_cases e : j = k
      · rw [if_pos e, e, if_pos (by omega), hD2 k (by omega) (by omega)]
      · rw [if_neg e, hD j hj]
        by_cases h : j < k
        · rw [if_pos h, if_pos (by omega)]
        · rw [if_neg h, if_neg (by omega)]
    · rw [sA_o _ _ _ _ _ (by omega)]; exact hD2 j j1 j2
theorem on1_c {n : Nat} (hn : 3 ≤ n) (hn2 : n ≤ 30) {u : Nat → Int} (hu : ∀ k, k < n → 0 ≤ u k ∧ u k < 256) : ∀ (d k f : Nat) (D : Gr) (c : Bool), k + d + 1 = n → 1 ≤ k → d < f → (∀ j, j < n → D.2 1 j = zI (u j)) → (∀ j, 1 ≤ j → j < k → D.2 2 j = zI (sm n u j)) → (c = true ↔ chg n u k) → ∃ D' c', f_X2_smoothOnce_n4 (zI n) f D (b2 c) (zI k) = some (b2 c', D') ∧ (∀ j, j < n → D'.2 1 j = zI (sm n u j)) ∧ (c' = true ↔ chg n u n) := by
  have e1 : (1 : Int32) = zI 1 := rfl
  have en : zI n - 1 = zI ((n - 1 : Nat) : Int) := by rw [e1, zI_sub]; congr 1; omega
  intro d
  induction d with
  | zero =>
    intro k f D c hk h1 hf hD hD2 hc
    obtain ⟨f, rfl⟩ : ∃ k, f = k + 1 := ⟨f - 1, by omega⟩
    rw [f_X2_smoothOnce_n4, en, if_pos ((leN (by omega) (by omega)).mpr (by omega))]
    obtain ⟨D', q1, q2⟩ := on2_c hn hn2 (u := u) (c := c) (n - 2) 1 fu D (by omega) (by omega) (by show n - 2 < 1000; omega) (fun j hj => by
      rw [hD j hj]
      by_cases h : j < 1
      · have e : j = 0 := by omega
        rw [if_pos h, e]; unfold sm; rw [if_pos (by omega)]
      · rw [if_neg h]) (fun j j1 j2 => hD2 j j1 (by omega))
    refine ⟨D', c, q1, q2, hc.trans ⟨fun ⟨j, h1, h2, h3⟩ => ⟨j, by omega, h2, h3⟩, fun ⟨j, h1, h2, h3⟩ => ⟨j, ?_, h2, h3⟩⟩⟩
    by_cases e : j = n - 1
    · exfalso; apply h3; unfold sm; rw [if_pos (by omega)]
    · omega
  | succ d ih =>
    intro k f D c hk h1 hf hD hD2 hc
    obtain ⟨f, rfl⟩ : ∃ k, f = k + 1 := ⟨f - 1, by omega⟩
    obtain ⟨k, rfl⟩ : ∃ j, k = j + 1 := ⟨k - 1, by omega⟩
    have es : sm n u (k + 1) = med (u k) (u (k + 1)) (u (k + 2)) := sm_i (by omega)
    have u1 := hu k (by omega)
    have u2 := hu (k + 1) (by omega)
    have u3 := hu (k + 2) (by omega)
    have um := med_b u1 u2 u3
    rw [f_X2_smoothOnce_n4, en, if_neg (fun h => absurd ((leN (by omega) (by omega)).mp h) (by omega)), zp1, rdN (by omega) (by omega), rdN (by omega) (by omega), zs1, rdN (by omega) (by omega), hD k (by omega), hD (k + 1) (by omega), hD (k + 1 + 1) (by omega), mid_c u1 u2 u3, bd_s, ckN (by omega) (by omega), clN (by omega), lt_e, rdN (by omega) (by omega), rdN (by omega) (by omega), sA_s, if_pos rfl, sA_o _ _ _ _ _ (by omega), hD (k + 1) (by omega), ← es]
    simp only [lt_e]
    rw [← es] at um
    have nx : ∀ c' : Bool, (c' = true ↔ chg n u (k + 1 + 1)) → ∃ D' c'', f_X2_smoothOnce_n4 (zI n) f (sA D 2 (k + 1) (zI (sm n u (k + 1)))) (b2 c') (zI ((k + 1 + 1 : Nat) : Int)) = some (b2 c'', D') ∧ (∀ j, j < n → D'.2 1 j = zI (sm n u j)) ∧ (c'' = true ↔ chg n u n) := fun c' hc' => by
      refine ih (k + 1 + 1) f _ c' (by omega) (by omega) (by omega) (fun j hj => ?_) (fun j j1 j2 => ?_) hc'
      · rw [sA_o _ _ _ _ _ (by omega)]; exact hD j hj
      · rw [sA_s]
        by_cases e : j = k + 1
        · rw [if_pos e, e]
        · rw [if_neg e]; exact hD2 j j1 (by omega)
    cases c with
    | true =>
      rw [b2_t, i10]
      refine nx true (iff_of_true rfl ?_)
      obtain ⟨j, h1, h2, h3⟩ := hc.mp rfl
      exact ⟨j, by omega, h2, h3⟩
    | false =>
      rw [b2_f, i00]
      by_cases hq : sm n u (k + 1) = u (k + 1)
      · rw [if_pos (by rw [hq])]
        refine nx false ⟨fun h => (by cases h), fun ⟨j, h1, h2, h3⟩ => ?_⟩
        by_cases e : j = k + 1
        · rw [e] at h3; exact absurd hq h3
        · exact hc.mpr ⟨j, by omega, h2, h3⟩
      · rw [if_neg (by rw [zI_eq (by omega) (by omega) (by omega) (by omega)]; exact hq)]
        exact nx true (iff_of_true rfl ⟨k + 1, by omega, by omega, hq⟩)
