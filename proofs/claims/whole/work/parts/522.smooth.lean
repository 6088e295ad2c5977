/-! smoothed: the reference's side, and the end -/
theorem on2_m {n : Nat} (hn : 3 ≤ n) (hn2 : n ≤ 30) {u : Nat → Int} {c : Bool} : ∀ (d k f : Nat) (S : Gr), k + d = n → d < f → (∀ j, j < k → S.2 52 j = zI (sm n u j)) → (∀ j, j < n → S.2 53 j = zI (sm n u j)) → ∃ S', f_X12_smooths_n85 (zI n) f S (b2 c) (zI k) = some (b2 c, S') ∧ S'.1 = S.1 ∧ (∀ j, j ≠ 52 → S'.2 j = S.2 j) ∧ ∀ j, j < n → S'.2 52 j = zI (sm n u j) := by
  intro d
  induction d with
  | zero =>
    intro k f S hk hf hS hS2
    obtain ⟨f, rfl⟩ : ∃ k, f = k + 1 := ⟨f - 1, by omega⟩
    rw [f_X12_smooths_n85, if_pos ((leN (by omega) (by omega)).mpr (by omega)), zb_b]
    exact ⟨S, rfl, rfl, fun _ _ => rfl, fun j hj => hS j (by omega)⟩
  | succ d ih =>
    intro k f S hk hf hS hS2
    obtain ⟨f, rfl⟩ : ∃ k, f = k + 1 := ⟨f - 1, by omega⟩
    rw [f_X12_smooths_n85, if_neg (fun h => absurd ((leN (by omega) (by omega)).mp h) (by omega)), rdN (by omega) (by omega), ckN (by omega) (by omega), clN (by omega), lt_e, lt_e, zs1]
    obtain ⟨S', q1, q2, q3, q4⟩ := ih (k + 1) f (sA S 52 k (S.2 53 k)) (by omega) (by omega) (fun j hj => by
      rw [sA_s]
      by_cases e : j = k
      · rw [if_pos e, e, hS2 k (by omega)]
      · rw [if_neg e]; exact hS j (by omega)) (fun j hj => by rw [sA_o _ _ _ _ _ (by omega)]; exact hS2 j hj)
    exact ⟨S', q1, q2, fun j hj => by rw [q3 j hj, sA_o _ _ _ _ _ hj], q4⟩
theorem on1_m {n : Nat} (hn : 3 ≤ n) (hn2 : n ≤ 30) {u : Nat → Int} (hu : ∀ k, k < n → 0 ≤ u k ∧ u k < 256) : ∀ (d k f : Nat) (S : Gr) (c : Bool), k + d = n → d < f → (∀ j, j < n → S.2 52 j = zI (u j)) → (∀ j, j < k → S.2 53 j = zI (sm n u j)) → (c = true ↔ chg n u k) → ∃ S' c', f_X12_smooths_n4 (zI n) f S (b2 c) (zI k) = some (b2 c', S') ∧ S'.1 = S.1 ∧ (∀ j, j ≠ 52 → j ≠ 53 → S'.2 j = S.2 j) ∧ (∀ j, j < n → S'.2 52 j = zI (sm n u j)) ∧ (c' = true ↔ chg n u n) := by
  have e1 : (1 : Int32) = zI 1 := rfl
  have e0 : (0 : Int32) = zI ((0 : Nat) : Int) := rfl
  have en : zI n - 1 = zI ((n - 1 : Nat) : Int) := by rw [e1, zI_sub]; congr 1; omega
  intro d
  induction d with
  | zero =>
    intro k f S c hk hf hS hS2 hc
    obtain ⟨f, rfl⟩ : ∃ k, f = k + 1 := ⟨f - 1, by omega⟩
    have ek : k = n := by omega
    subst ek
    rw [f_X12_smooths_n4, if_pos ((leN (by omega) (by omega)).mpr (by omega))]
    obtain ⟨S', q1, q2, q3, q4⟩ := on2_m hn hn2 (u := u) (c := c) k 0 fu S (by omega) (by show k < 1000; omega) (fun j hj => by omega) hS2
    exact ⟨S', c, q1, q2, fun j h1 h2 => q3 j h1, q4, hc⟩
  | succ d ih =>
    intro k f S c hk hf hS hS2 hc
    obtain ⟨f, rfl⟩ : ∃ k, f = k + 1 := ⟨f - 1, by omega⟩
    have uk := hu k (by omega)
    have sk := sm_b hu k (by omega)
    have nx : ∃ S' c', f_X12_smooths_n59 (zI n) (f_X12_smooths_n4 (zI n) f) S (b2 c) (zI k) (zI (sm n u k)) (zI k) = some (b2 c', S') ∧ S'.1 = S.1 ∧ (∀ j, j ≠ 52 → j ≠ 53 → S'.2 j = S.2 j) ∧ (∀ j, j < n → S'.2 52 j = zI (sm n u j)) ∧ (c' = true ↔ chg n u n) := by
      have go : ∀ c' : Bool, (c' = true ↔ chg n u (k + 1)) → ∃ S' c'', f_X12_smooths_n4 (zI n) f (sA S 53 k (zI (sm n u k))) (b2 c') (zI ((k + 1 : Nat) : Int)) = some (b2 c'', S') ∧ S'.1 = S.1 ∧ (∀ j, j ≠ 52 → j ≠ 53 → S'.2 j = S.2 j) ∧ (∀ j, j < n → S'.2 52 j = zI (sm n u j)) ∧ (c'' = true ↔ chg n u n) := fun c' hc' => by
        obtain ⟨S', c'', q1, q2, q3, q4, q5⟩ := ih (k + 1) f (sA S 53 k (zI (sm n u k))) c' (by omega) (by omega) (fun j hj => by rw [sA_o _ _ _ _ _ (by omega)]; exact hS j hj) (fun j hj => by
          rw [sA_s]
          by_cases e : j = k
          · rw [if_pos e, e]
          · rw [if_neg e]; exact hS2 j (by omega)) hc'
        exact ⟨S', c'', q1, q2, fun j h1 h2 => by rw [q3 j h1 h2, sA_o _ _ _ _ _ h2], q4, q5⟩
      unfold f_X12_smooths_n59
      rw [ckN (by omega) (by omega), clN (by omega), lt_e, rdN (by omega) (by omega), rdN (by omega) (by omega), sA_s, if_pos rfl, sA_o _ _ _ _ _ (by omega), hS k (by omega), lt_e, lt_e, zs1]
      by_cases hq : sm n u k = u k
      · rw [if_pos (by rw [hq])]
        refine go c (hc.trans ⟨fun ⟨j, h1, h2, h3⟩ => ⟨j, by omega, h2, h3⟩, fun ⟨j, h1, h2, h3⟩ => ⟨j, ?_, h2, h3⟩⟩)
        by_cases e : j = k
        · rw [e] at h3; exact absurd hq h3
        · omega
      · rw [if_neg (by rw [zI_eq (by omega) (by omega) (by omega) (by omega)]; exact hq)]
        exact go true (iff_of_true rfl ⟨k, by omega, by omega, hq⟩)
    rw [f_X12_smooths_n4, if_neg (fun h => absurd ((leN (by omega) (by omega)).mp h) (by omega)), en]
    by_cases h0 : k = 0
    · have es : sm n u k = u k := by unfold sm; rw [if_pos (by omega)]
      rw [if_pos (by rw [h0]; rfl), rdN (by omega) (by omega), hS k (by omega), ← es]
      exact nx
    · rw [if_neg (by rw [e0]; exact fun h => absurd ((eqN (by omega) (by omega)).mp h) h0)]
      by_cases hl : k = n - 1
      · have es : sm n u k = u k := by unfold sm; rw [if_pos (by omega)]
        rw [if_pos (by rw [← hl]), rdN (by omega) (by omega), hS k (by omega), ← es]
        exact nx
      · rw [if_neg (fun h => absurd ((eqN (by omega) (by omega)).mp h) hl)]
        obtain ⟨k, rfl⟩ : ∃ j, k = j + 1 := ⟨k - 1, by omega⟩
        have es : sm n u (k + 1) = med (u k) (u (k + 1)) (u (k + 2)) := sm_i (by omega)
        rw [zp1, rdN (by omega) (by omega), rdN (by omega) (by omega), zs1, rdN (by omega) (by omega), hS k (by omega), hS (k + 1) (by omega), hS (k + 1 + 1) (by omega), mid_m (hu k (by omega)) uk (hu (k + 2) (by omega)), bd_s, ← es]
        exact nx
theorem sum_b {T D S : Gr} {n : Nat} (hn2 : n ≤ 30) {w : Nat → Int} (x2 x3 t : Int32) (hD : ∀ j, j < n → D.2 1 j = zI (w j)) (hS : ∀ j, j < n → S.2 52 j = zI (w j)) : ∀ (d k f f' : Nat) (a : Int32), k + d = n → d < f → d < f' → ∃ r, f_X2_smooth_n75 T x2 x3 f D (zI n) a (zI k) = some (r, D) ∧ f_X12_smoothed_n81 (zI n) x3 f' S t a (zI k) = (if x3 = 0 then some (t, S) else some (r, S)) := by
  intro d
  induction d with
  | zero =>
    intro k f f' a hk hf hf'
    obtain ⟨f, rfl⟩ : ∃ k, f = k + 1 := ⟨f - 1, by omega⟩
    obtain ⟨f', rfl⟩ : ∃ k, f' = k + 1 := ⟨f' - 1, by omega⟩
    have hc : zI n ≤ zI k := (leN (by omega) (by omega)).mpr (by omega)
    rw [f_X2_smooth_n75, if_pos hc, f_X12_smoothed_n81, if_pos hc]
    exact ⟨a, rfl, rfl⟩
  | succ d ih =>
    intro k f f' a hk hf hf'
    obtain ⟨f, rfl⟩ : ∃ k, f = k + 1 := ⟨f - 1, by omega⟩
    obtain ⟨f', rfl⟩ : ∃ k, f' = k + 1 := ⟨f' - 1, by omega⟩
    have hc : ¬ zI n ≤ zI k := fun h => absurd ((leN (by omega) (by omega)).mp h) (by omega)
    rw [f_X2_smooth_n75, if_neg hc, f_X12_smoothed_n81, if_neg hc, rdN (by omega) (by omega), rdN (by omega) (by omega), hD k (by omega), hS k (by omega), lt_e, lt_e, lt_e, lt_e, zs1]
    exact ih (k + 1) f f' _ (by omega) (by omega) (by omega)
theorem smt_lp {T : Gr} {n : Nat} (hn : 3 ≤ n) (hn2 : n ≤ 30) {w : Nat → Int} (hw : ∀ k, k < n → 0 ≤ w k ∧ w k < 256) (x2 x3 : Int32) : ∀ (d t f f' : Nat) (D S : Gr), t + d + 2 = n → d < f → d < f' → (∀ j, j < n → D.2 1 j = zI (sW n w t j)) → (∀ j, j < n → S.2 52 j = zI (sW n w t j)) → ∃ r D' S', f_X2_smooth_n40 T x2 x3 f D (zI n) (zI t) = some (r, D') ∧ f_X12_smoothed_n60 (zI n) x3 f' S (zI t) = some (r, S') ∧ S'.1 = S.1 ∧ (∀ j, j ≠ 52 → j ≠ 53 → S'.2 j = S.2 j) := by
  have e30 : (30 : Int32) = zI ((30 : Nat) : Int) := rfl
  intro d
  induction d with
  | zero =>
    intro t f f' D S ht hf hf' hD hS
    obtain ⟨f, rfl⟩ : ∃ k, f = k + 1 := ⟨f - 1, by omega⟩
    obtain ⟨f', rfl⟩ : ∃ k, f' = k + 1 := ⟨f' - 1, by omega⟩
    have hc : ¬ (30 : Int32) ≤ zI t := fun h => by rw [e30] at h; exact absurd ((leN (by omega) (by omega)).mp h) (by omega)
    have hb := sW_b hw t
    obtain ⟨D1, c, q1, q2, q3⟩ := on1_c hn hn2 hb (n - 2) 1 fu D false (by omega) (by omega) (by show n - 2 < 1000; omega) hD (fun j h1 h2 => by omega) ⟨fun h => (by cases h), fun ⟨j, h1, h2, h3⟩ => by
      have e : j = 0 := by omega
      subst e; exact absurd (by unfold sm; rw [if_pos (by omega)]) h3⟩
    obtain ⟨S1, c', r1, r2, r3, r4, r5⟩ := on1_m hn hn2 hb n 0 fu S false (by omega) (by show n < 1000; omega) hS (fun j hj => by omega) ⟨fun h => (by cases h), fun ⟨j, h1, _⟩ => by omega⟩
    have hcc : c = c' := by rw [Bool.eq_iff_iff, q3, r5]
    subst hcc
    have hcf : c = false := by
      cases c with
      | false => rfl
      | true =>
        obtain ⟨j, h1, h2, h3⟩ := q3.mp rfl
        exfalso
        by_cases hl : j + 1 < n
        · exact h3 (sW_r n w j hl t (by omega))
        · apply h3; unfold sm; rw [if_pos (by omega)]
    subst hcf
    have q1 : f_X2_smoothOnce D (zI n) = some (b2 false, D1) := q1
    have r1 : f_X12_smooths S (zI n) = some (b2 false, S1) := r1
    rw [f_X2_smooth_n40, if_neg hc, q1, bd_s, f_X12_smoothed_n60, r1, bd_s]
    show ∃ r D' S', (if (b2 false) = 0 then (if x3 = 0 then (some (zI t, D1)) else (f_X2_smooth_n75 T x2 x3 fu D1 (zI n) 0 0)) else _) = some (r, D') ∧ (if (b2 false) = 0 then (f_X12_smoothed_n81 (zI n) x3 fu S1 (zI t) 0 0) else _) = some (r, S') ∧ _
    rw [b2_f, i00, i00]
    obtain ⟨s, s1, s2⟩ := sum_b (T := T) hn2 x2 x3 (zI t) q2 r4 n 0 fu fu 0 (by omega) (by show n < 1000; omega) (by show n < 1000; omega)
    have s1 : f_X2_smooth_n75 T x2 x3 fu D1 (zI n) 0 0 = some (s, D1) := s1
    have s2 : f_X12_smoothed_n81 (zI n) x3 fu S1 (zI t) 0 0 = _ := s2
    rw [s1, s2]
    by_cases h3 : x3 = 0
    · rw [if_pos h3, if_pos h3]; exact ⟨_, _, _, rfl, rfl, r2, r3⟩
    · rw [if_neg h3, if_neg h3]; exact ⟨_, _, _, rfl, rfl, r2, r3⟩
  | succ d ih =>
    intro t f f' D S ht hf hf' hD hS
    obtain ⟨f, rfl⟩ : ∃ k, f = k + 1 := ⟨f - 1, by omega⟩
    obtain ⟨f', rfl⟩ : ∃ k, f' = k + 1 := ⟨f' - 1, by omega⟩
    have hc : ¬ (30 : Int32) ≤ zI t := fun h => by rw [e30] at h; exact absurd ((leN (by omega) (by omega)).mp h) (by omega)
    have hb := sW_b hw t
    obtain ⟨D1, c, q1, q2, q3⟩ := on1_c hn hn2 hb (n - 2) 1 fu D false (by omega) (by omega) (by show n - 2 < 1000; omega) hD (fun j h1 h2 => by omega) ⟨fun h => (by cases h), fun ⟨j, h1, h2, h3⟩ => by
      have e : j = 0 := by omega
      subst e; exact absurd (by unfold sm; rw [if_pos (by omega)]) h3⟩
    obtain ⟨S1, c', r1, r2, r3, r4, r5⟩ := on1_m hn hn2 hb n 0 fu S false (by omega) (by show n < 1000; omega) hS (fun j hj => by omega) ⟨fun h => (by cases h), fun ⟨j, h1, _⟩ => by omega⟩
    have hcc : c = c' := by rw [Bool.eq_iff_iff, q3, r5]
    subst hcc
    have q1 : f_X2_smoothOnce D (zI n) = some (b2 c, D1) := q1
    have r1 : f_X12_smooths S (zI n) = some (b2 c, S1) := r1
    rw [f_X2_smooth_n40, if_neg hc, q1, bd_s, f_X12_smoothed_n60, r1, bd_s]
    show ∃ r D' S', (if (b2 c) = 0 then (if x3 = 0 then (some (zI t, D1)) else (f_X2_smooth_n75 T x2 x3 fu D1 (zI n) 0 0)) else (lt' (zI t + 1) fun v11 => f_X2_smooth_n40 T x2 x3 f D1 (zI n) v11)) = some (r, D') ∧ (if (b2 c) = 0 then (f_X12_smoothed_n81 (zI n) x3 fu S1 (zI t) 0 0) else (lt' ((zI t + 1)) fun v13 => f_X12_smoothed_n60 (zI n) x3 f' S1 v13)) = some (r, S') ∧ _
    cases c with
    | false =>
      rw [b2_f, i00, i00]
      obtain ⟨s, s1, s2⟩ := sum_b (T := T) hn2 x2 x3 (zI t) q2 r4 n 0 fu fu 0 (by omega) (by show n < 1000; omega) (by show n < 1000; omega)
      have s1 : f_X2_smooth_n75 T x2 x3 fu D1 (zI n) 0 0 = some (s, D1) := s1
      have s2 : f_X12_smoothed_n81 (zI n) x3 fu S1 (zI t) 0 0 = _ := s2
      rw [s1, s2]
      by_cases h3 : x3 = 0
      · rw [if_pos h3, if_pos h3]; exact ⟨_, _, _, rfl, rfl, r2, r3⟩
      · rw [if_neg h3, if_neg h3]; exact ⟨_, _, _, rfl, rfl, r2, r3⟩
    | true =>
      rw [b2_t, i10, i10, lt_e, lt_e, zs1]
      obtain ⟨r, D', S', a1, a2, a3, a4⟩ := ih (t + 1) f f' D1 S1 (by omega) (by omega) (by omega) q2 r4
      exact ⟨r, D', S', a1, a2, a3.trans r2, fun j h1 h2 => (a4 j h1 h2).trans (r3 j h1 h2)⟩
theorem rdc_lp {T : Gr} {n : Nat} (hn2 : n ≤ 30) {w : Nat → Int} (x2 x3 : Int32) (hA : ∀ j, j < n → f_X8_at T (zI j) = some (zI (w j))) : ∀ (d k f : Nat) (D : Gr), k + d = n → d < f → (∀ j, j < k → D.2 1 j = zI (w j)) → ∃ D', f_X2_smooth_n11 T x2 x3 f D (zI n) (zI k) = f_X2_smooth_n40 T x2 x3 fu D' (zI n) 0 ∧ ∀ j, j < n → D'.2 1 j = zI (w j) := by
  intro d
  induction d with
  | zero =>
    intro k f D hk hf hD
    obtain ⟨f, rfl⟩ : ∃ k, f = k + 1 := ⟨f - 1, by omega⟩
    rw [f_X2_smooth_n11, if_pos ((leN (by omega) (by omega)).mpr (by omega))]
    exact ⟨D, rfl, fun j hj => hD j (by omega)⟩
  | succ d ih =>
    intro k f D hk hf hD
    obtain ⟨f, rfl⟩ : ∃ k, f = k + 1 := ⟨f - 1, by omega⟩
    rw [f_X2_smooth_n11, if_neg (fun h => absurd ((leN (by omega) (by omega)).mp h) (by omega)), hA k (by omega), bd_s, ckN (by omega) (by omega), clN (by omega), lt_e, lt_e, zs1]
    refine ih (k + 1) f _ (by omega) (by omega) (fun j hj => ?_)
    rw [sA_s]
    by_cases e : j = k
    · rw [if_pos e, e]
    · rw [if_neg e]; exact hD j (by omega)
theorem rdm_lp {n : Nat} (hn2 : n ≤ 30) {w : Nat → Int} (x3 : Int32) {t7 : Nat → Int32} (hO : ∀ N : Gr, N.2 7 = t7 → ∀ j, j < n → f_X12_octet N (zI j) = some (zI (w j))) : ∀ (d k f : Nat) (S : Gr), k + d = n → d < f → S.2 7 = t7 → (∀ j, j < k → S.2 52 j = zI (w j)) → ∃ S', f_X12_smoothed_n36 (zI n) x3 f S (zI k) = f_X12_smoothed_n60 (zI n) x3 fu S' 0 ∧ S'.1 = S.1 ∧ (∀ j, j ≠ 52 → S'.2 j = S.2 j) ∧ ∀ j, j < n → S'.2 52 j = zI (w j) := by
  intro d
  induction d with
  | zero =>
    intro k f S hk hf h7 hS
    obtain ⟨f, rfl⟩ : ∃ k, f = k + 1 := ⟨f - 1, by omega⟩
    rw [f_X12_smoothed_n36, if_pos ((leN (by omega) (by omega)).mpr (by omega))]
    exact ⟨S, rfl, rfl, fun _ _ => rfl, fun j hj => hS j (by omega)⟩
  | succ d ih =>
    intro k f S hk hf h7 hS
    obtain ⟨f, rfl⟩ : ∃ k, f = k + 1 := ⟨f - 1, by omega⟩
    rw [f_X12_smoothed_n36, if_neg (fun h => absurd ((leN (by omega) (by omega)).mp h) (by omega)), hO S h7 k (by omega), bd_s, ckN (by omega) (by omega), clN (by omega), lt_e, lt_e, zs1]
    obtain ⟨S', q1, q2, q3, q4⟩ := ih (k + 1) f (sA S 52 k (zI (w k))) (by omega) (by omega) (by rw [sA_o _ _ _ _ _ (by omega)]; exact h7) (fun j hj => by
      rw [sA_s]
      by_cases e : j = k
      · rw [if_pos e, e]
      · rw [if_neg e]; exact hS j (by omega))
    exact ⟨S', q1, q2, fun j hj => by rw [q3 j hj, sA_o _ _ _ _ _ hj], q4⟩
theorem smoothed_ok : hp_smoothed Inv := by
  intro C M hI x y
  obtain ⟨k, hk⟩ := tpR.of hI.1
  have hk260 := hk.1
  have same : ∀ D, Inv (va_up (va_up C 1 (C 1)) 9 D) M := fun D => Inv_keep hI (keepM.rf M) hI.1 rfl rfl rfl rfl
  unfold f_X11_smoothed f_X12_smoothed
  rw [within_e, in_e, bd_s, bd_s, within_e, in_e, bd_s, bd_s]
  by_cases hx : (3 : Int32) ≤ x ∧ x ≤ 30
  · rw [decide_eq_true hx, b2_t, i10, i10]
    by_cases hy : (0 : Int32) ≤ y ∧ y ≤ 1
    · rw [decide_eq_true hy, b2_t, i10, i10]
      obtain ⟨n, hn1, hn2, rfl⟩ := in_of2 3 30 (by omega) (by omega) hx
      rw [has_b hk (by omega), bd_s]
      by_cases hck : n ≤ k
      · rw [decide_eq_true hck, b2_t, i10, if_pos ((hasm_b hk (by omega)).mpr hck), lt_e]
        have hv : ∀ j, j < n → 0 ≤ bz (C 1) j ∧ bz (C 1) j < 256 := fun j hj => ⟨(tp_v hk (by omega)).1, (tp_v hk (by omega)).2.1⟩
        obtain ⟨D1, a1, a2⟩ := rdc_lp (T := C 1) hn2 (zI n) y (fun j hj => at_b hk (by omega)) n 0 fu (C 9) (by omega) (by show n < 1000; omega) (fun j hj => by omega)
        obtain ⟨S1, b1, b2', b3, b4⟩ := rdm_lp hn2 y (t7 := M.2 7) (fun N hN j hj => oct_b hk hN (by omega)) n 0 fu (sI M 8 0) (by omega) (by show n < 1000; omega) rfl (fun j hj => by omega)
        obtain ⟨r, D2, S2, c1, c2, c3, c4⟩ := smt_lp (T := C 1) hn1 hn2 hv (zI n) y (n - 2) 0 fu fu D1 S1 (by omega) (by show n - 2 < 1000; omega) (by show n - 2 < 1000; omega) a2 b4
        have e30 : mn' (zI n) 30 = zI n := by
          have e : (30 : Int32) = zI 30 := rfl
          rw [e, mn_z (by omega) (by omega) (by omega) (by omega)]; congr 1; omega
        have hc : f_X2_smooth (C 9) (C 1) (zI n) y = some (r, D2) := by
          unfold f_X2_smooth
          rw [lt_e, e30]
          exact a1.trans c1
        have hm : f_X12_smoothed_n36 (zI n) y fu (sI M 8 0) 0 = some (r, S2) := b1.trans c2
        rw [hc, bd_s, hm]
        have s1 : S2.1 = (sI M 8 0).1 := c3.trans b2'
        have s2 : ∀ j, j ≠ 52 → j ≠ 53 → S2.2 j = M.2 j := fun j h1 h2 => (c4 j h1 h2).trans (b3 j h1)
        refine ⟨_, _, rfl, rfl, rfl, emp_of hI (fun k hk => ?_) ?_ (fun k hk => s2 k (by omega) (by omega)) rfl rfl rfl rfl rfl⟩
        · show S2.1 k = M.1 k
          rw [s1, sI_1, if_neg (by omega)]
        · show S2.1 8 = 0
          rw [s1]; rfl
      · rw [decide_eq_false hck, b2_f, i00, if_neg (fun h => hck ((hasm_b hk (by omega)).mp h))]
        exact ⟨_, _, rfl, rfl, rfl, same _⟩
    · rw [decide_eq_false hy, b2_f, i00, i00]; exact ⟨_, _, rfl, rfl, rfl, same _⟩
  · rw [decide_eq_false hx, b2_f, i00, i00]; exact ⟨_, _, rfl, rfl, rfl, same _⟩
