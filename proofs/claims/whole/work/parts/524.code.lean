/-! code, the end -/
theorem qn_all {P : Nat → Bool} : ∀ N, (∀ j, j < N → P j = true) → qn P N = N := by
  intro N
  induction N with
  | zero => intro _; rfl
  | succ N ih =>
    intro h
    show qn P N + (if P N = true then 1 else 0) = N + 1
    rw [ih (fun j hj => h j (by omega)), if_pos (h N (by omega))]
theorem pow_b {n : Nat} (h1 : 1 ≤ n) (h : n ≤ 12) : (255 : Int) * 2 ^ (n - 1) ≤ 600000 := by
  have : n = 1 ∨ n = 2 ∨ n = 3 ∨ n = 4 ∨ n = 5 ∨ n = 6 ∨ n = 7 ∨ n = 8 ∨ n = 9 ∨ n = 10 ∨ n = 11 ∨ n = 12 := by omega
  rcases this with rfl | rfl | rfl | rfl | rfl | rfl | rfl | rfl | rfl | rfl | rfl | rfl <;> decide
theorem cdi_lp {T : Gr} {n : Nat} (hn : 2 ≤ n) (hn2 : n ≤ 12) (x3 : Int32) {t7 : Nat → Int32} {w : Nat → Int} (hw : ∀ j, j < n → 0 ≤ w j ∧ w j < 256) (hA : ∀ j, j < n → f_X8_at T (zI j) = some (zI (w j))) (hO : ∀ N : Gr, N.2 7 = t7 → ∀ j, j < n → f_X12_octet N (zI j) = some (zI (w j))) : ∀ (d k f f' : Nat) (D S : Gr), k + d = n → d < f → d < f' → S.2 7 = t7 → (∀ j, j < k → D.2 5 j = 0) → cdW D S k 255 → cdL D S k → ∃ r D' S', f_X2_shortestCode_n3 T (zI n) x3 f D (zI k) = some (r, D') ∧ f_X12_code_n36 (zI n) x3 f' S (zI k) = some (r, S') ∧ S'.1 = S.1 ∧ (∀ j, j ≠ 47 → j ≠ 48 → S'.2 j = S.2 j) := by
  have e0 : (0 : Int32) = zI 0 := rfl
  have e23 : (23 : Int32) = zI ((23 : Nat) : Int) := rfl
  intro d
  induction d with
  | zero =>
    intro k f f' D S hk hf hf' h7 h5 hW hL
    obtain ⟨f, rfl⟩ : ∃ k, f = k + 1 := ⟨f - 1, by omega⟩
    obtain ⟨f', rfl⟩ : ∃ k, f' = k + 1 := ⟨f' - 1, by omega⟩
    have ek : k = n := by omega
    subst ek
    have hc : zI k ≤ zI k := (leN (by omega) (by omega)).mpr (by omega)
    rw [f_X2_shortestCode_n3, if_pos hc, f_X12_code_n36, if_pos hc]
    refine cod_lp hn hn2 x3 (k - 1) k fu fu D S 255 0 0 (by omega) (by omega) (by show k - 1 < 1000; omega) (by show k - 1 < 1000; omega) (by omega) (pow_b (by omega) hn2) hW hL ?_ (Or.inl rfl)
    rw [qn_all (P := unu D) k (fun j hj => decide_eq_true (h5 j hj))]; omega
  | succ d ih =>
    intro k f f' D S hk hf hf' h7 h5 hW hL
    obtain ⟨f, rfl⟩ : ∃ k, f = k + 1 := ⟨f - 1, by omega⟩
    obtain ⟨f', rfl⟩ : ∃ k, f' = k + 1 := ⟨f' - 1, by omega⟩
    have hc : ¬ zI n ≤ zI k := fun h => absurd ((leN (by omega) (by omega)).mp h) (by omega)
    have hc2 : ¬ (23 : Int32) ≤ zI k := fun h => by rw [e23] at h; exact absurd ((leN (by omega) (by omega)).mp h) (by omega)
    have hwk := hw k (by omega)
    rw [f_X2_shortestCode_n3, if_neg hc, if_neg hc2, hA k (by omega), bd_s, bd_s, ckN (by omega) (by omega), clN (by omega), lt_e, ckN (by omega) (by omega), lt_e, ckN (by omega) (by omega), lt_e, lt_e, zs1]
    rw [f_X12_code_n36, if_neg hc, hO S h7 k (by omega), bd_s, ckN (by omega) (by omega), clN (by omega), lt_e, ckN (by omega) (by omega), lt_e, hO (sA (sA S 47 k (zI (w k))) 48 k 0) (by rw [sA_o _ _ _ _ _ (by omega), sA_o _ _ _ _ _ (by omega)]; exact h7) k (by omega), bd_s, lt_e, zs1]
    have g1 : ∀ j, j ≠ 47 → j ≠ 48 → (sA (sA S 47 k (zI (w k))) 48 k 0).2 j = S.2 j := fun j h1 h2 => by rw [sA_o _ _ _ _ _ h2, sA_o _ _ _ _ _ h1]
    by_cases hz : w k = 0
    · have hz' : zI (w k) = 0 := by rw [hz]; rfl
      rw [if_pos hz', if_pos hz']
      exact ⟨_, _, _, rfl, rfl, rfl, g1⟩
    · have hz' : ¬ zI (w k) = 0 := by rw [e0, zI_eq (by omega) (by omega) (by omega) (by omega)]; exact hz
      rw [if_neg hz', if_neg hz']
      obtain ⟨r, D', S', z1, z2, z3, z4⟩ := ih (k + 1) f f' (sA (sA (sA D 3 k (zI (w k))) 4 k 0) 5 k (vp_nar .boolean 0)) (sA (sA S 47 k (zI (w k))) 48 k 0) (by omega) (by omega) (by omega) (by rw [g1 7 (by omega) (by omega)]; exact h7) (fun j hj => by
        rw [sA_s, sA_o _ _ _ _ _ (by omega), sA_o _ _ _ _ _ (by omega)]
        by_cases e : j = k
        · rw [if_pos e]; rfl
        · rw [if_neg e]; exact h5 j (by omega)) (fun j hj => by
        rw [sA_s, sA_o _ _ _ _ _ (show (3 : Nat) ≠ 5 by omega), sA_o _ _ _ _ _ (show (3 : Nat) ≠ 4 by omega), sA_s, sA_o _ _ _ _ _ (show (5 : Nat) ≠ 4 by omega), sA_o _ _ _ _ _ (show (5 : Nat) ≠ 3 by omega), sA_o _ _ _ _ _ (show (47 : Nat) ≠ 48 by omega), sA_s]
        by_cases e : j = k
        · rw [if_pos e, if_pos e, if_pos e]; exact Or.inl ⟨rfl, w k, by omega, by omega, rfl, rfl⟩
        · rw [if_neg e, if_neg e, if_neg e]; exact hW j (by omega)) (fun j hj => by
        rw [sA_o _ _ _ _ _ (show (4 : Nat) ≠ 5 by omega), sA_s, sA_o _ _ _ _ _ (show (4 : Nat) ≠ 3 by omega), sA_s, sA_o _ _ _ _ _ (show (48 : Nat) ≠ 47 by omega)]
        by_cases e : j = k
        · rw [if_pos e, if_pos e]; exact ⟨0, by omega, by omega, rfl, rfl⟩
        · rw [if_neg e, if_neg e]; exact hL j (by omega))
      exact ⟨r, D', S', z1, z2, z3, fun j h1 h2 => (z4 j h1 h2).trans (g1 j h1 h2)⟩
theorem code_ok : hp_code Inv := by
  intro C M hI x y
  obtain ⟨k, hk⟩ := tpR.of hI.1
  have hk260 := hk.1
  have same : ∀ D, Inv (va_up (va_up C 1 (C 1)) 9 D) M := fun D => Inv_keep hI (keepM.rf M) hI.1 rfl rfl rfl rfl
  unfold f_X11_code f_X12_code
  rw [within_e, in_e, bd_s, bd_s, within_e, in_e, bd_s, bd_s]
  by_cases hx : (2 : Int32) ≤ x ∧ x ≤ 12
  · rw [decide_eq_true hx, b2_t, i10, i10]
    by_cases hy : (0 : Int32) ≤ y ∧ y ≤ 1
    · rw [decide_eq_true hy, b2_t, i10, i10]
      obtain ⟨n, hn1, hn2, rfl⟩ := in_of2 2 12 (by omega) (by omega) hx
      rw [has_b hk (by omega), bd_s]
      by_cases hck : n ≤ k
      · rw [decide_eq_true hck, b2_t, i10, if_pos ((hasm_b hk (by omega)).mpr hck), lt_e]
        have hv : ∀ j, j < n → 0 ≤ bz (C 1) j ∧ bz (C 1) j < 256 := fun j hj => ⟨(tp_v hk (by omega)).1, (tp_v hk (by omega)).2.1⟩
        obtain ⟨r, D2, S2, c1, c2, c3, c4⟩ := cdi_lp (T := C 1) hn1 hn2 y (t7 := M.2 7) hv (fun j hj => at_b hk (by omega)) (fun N hN j hj => oct_b hk hN (by omega)) n 0 fu fu (C 9) (sI M 8 0) (by omega) (by show n < 1000; omega) (by show n < 1000; omega) rfl (fun j hj => by omega) (fun j hj => by omega) (fun j hj => by omega)
        have hc : f_X2_shortestCode (C 9) (C 1) (zI n) y = some (r, D2) := c1
        have hm : f_X12_code_n36 (zI n) y fu (sI M 8 0) 0 = some (r, S2) := c2
        rw [hc, bd_s, hm]
        refine ⟨_, _, rfl, rfl, rfl, emp_of hI (fun k hk => ?_) ?_ (fun k hk => c4 k (by omega) (by omega)) rfl rfl rfl rfl rfl⟩
        · show S2.1 k = M.1 k
          rw [c3, sI_1, if_neg (by omega)]
        · show S2.1 8 = 0
          rw [c3]; rfl
      · rw [decide_eq_false hck, b2_f, i00, if_neg (fun h => hck ((hasm_b hk (by omega)).mp h))]
        exact ⟨_, _, rfl, rfl, rfl, same _⟩
    · rw [decide_eq_false hy, b2_f, i00, i00]; exact ⟨_, _, rfl, rfl, rfl, same _⟩
  · rw [decide_eq_false hx, b2_f, i00, i00]; exact ⟨_, _, rfl, rfl, rfl, same _⟩
