/-! inCommon -/
theorem sA_s (S : Gr) (k i j : Nat) (x : Int32) : (sA S k i x).2 k j = if j = i then x else S.2 k j := by rw [sA_2, if_pos rfl, upd_e]
theorem sA_o (S : Gr) (k i j : Nat) (x : Int32) (h : j ≠ k) : (sA S k i x).2 j = S.2 j := by rw [sA_2, if_neg h]
theorem keep_of {M N : Gr} (h1 : ∀ k, (k = 5 ∨ k = 6 ∨ k = 17 ∨ k = 54 ∨ k = 55 ∨ k = 56) → N.1 k = M.1 k) (h2 : ∀ k, (k = 0 ∨ k = 2 ∨ k = 3 ∨ k = 4 ∨ k = 24 ∨ k = 25 ∨ k = 26 ∨ k = 27 ∨ k = 28) → N.2 k = M.2 k) : keepM M N :=
  ⟨⟨h1 5 (by omega), h1 6 (by omega), h1 17 (by omega), h1 54 (by omega), h1 55 (by omega), h1 56 (by omega)⟩, ⟨h2 0 (by omega), h2 2 (by omega), h2 3 (by omega), h2 4 (by omega)⟩, ⟨h2 24 (by omega), h2 25 (by omega), h2 26 (by omega), h2 27 (by omega), h2 28 (by omega)⟩⟩
theorem zp1 (m : Nat) : zI ((m + 1 : Nat) : Int) - 1 = zI m := by
  have e : (1 : Int32) = zI 1 := rfl
  rw [e, zI_sub]; congr 1; omega
theorem zaN (a b : Nat) : zI a + zI b = zI ((a + b : Nat) : Int) := by rw [zI_add]; rfl
def lcr (v : Nat → Int) (n a : Nat) (pv : Nat → Int) : Nat → Int
  | 0 => 0
  | b + 1 => if v a = v (n + b) then pv b + 1 else max (pv (b + 1)) (lcr v n a pv b)
def lc (v : Nat → Int) (n : Nat) : Nat → Nat → Int
  | 0 => fun _ => 0
  | a + 1 => lcr v n a (lc v n a)
theorem lcr_c {v : Nat → Int} {n a : Nat} {pv : Nat → Int} (h0 : pv 0 = 0) (hs : ∀ b, pv b ≤ pv (b + 1) ∧ pv (b + 1) ≤ pv b + 1) : ∀ b, pv b ≤ lcr v n a pv b ∧ lcr v n a pv b ≤ pv b + 1 := by
  intro b
  induction b with
  | zero => rw [h0]; show 0 ≤ (0 : Int) ∧ (0 : Int) ≤ 0 + 1; omega
  | succ b ih =>
    have e : lcr v n a pv (b + 1) = if v a = v (n + b) then pv b + 1 else max (pv (b + 1)) (lcr v n a pv b) := rfl
    have hb := hs b
    rw [e]
    by_cases h : v a = v (n + b)
    · rw [if_pos h]; omega
    · rw [if_neg h]; omega
theorem lcr_r {v : Nat → Int} {n a : Nat} {pv : Nat → Int} (h0 : pv 0 = 0) (hs : ∀ b, pv b ≤ pv (b + 1) ∧ pv (b + 1) ≤ pv b + 1) (b : Nat) : lcr v n a pv b ≤ lcr v n a pv (b + 1) ∧ lcr v n a pv (b + 1) ≤ lcr v n a pv b + 1 := by
  have e : lcr v n a pv (b + 1) = if v a = v (n + b) then pv b + 1 else max (pv (b + 1)) (lcr v n a pv b) := rfl
  have hb := hs b
  have hc := lcr_c (v := v) (n := n) (a := a) h0 hs b
  rw [e]
  by_cases h : v a = v (n + b)
  · rw [if_pos h]; omega
  · rw [if_neg h]; omega
theorem lc_f (v : Nat → Int) (n : Nat) : ∀ a, lc v n a 0 = 0 ∧ (∀ b, lc v n a b ≤ lc v n a (b + 1) ∧ lc v n a (b + 1) ≤ lc v n a b + 1) ∧ (∀ b, 0 ≤ lc v n a b ∧ lc v n a b ≤ a) := by
  intro a
  induction a with
  | zero => exact ⟨rfl, fun b => by show (0 : Int) ≤ 0 ∧ (0 : Int) ≤ 0 + 1; omega, fun b => by show (0 : Int) ≤ 0 ∧ (0 : Int) ≤ ((0 : Nat) : Int); omega⟩
  | succ a ih =>
    obtain ⟨h1, h2, h3⟩ := ih
    refine ⟨rfl, fun b => lcr_r h1 h2 b, fun b => ?_⟩
    have hc : lc v n a b ≤ lc v n (a + 1) b ∧ lc v n (a + 1) b ≤ lc v n a b + 1 := lcr_c h1 h2 b
    have := h3 b
    omega
theorem lc_e (v : Nat → Int) (n a b : Nat) : lc v n (a + 1) (b + 1) = if v a = v (n + b) then lc v n a b + 1 else max (lc v n a (b + 1)) (lc v n (a + 1) b) := rfl
theorem lc_m (v : Nat → Int) (n a b : Nat) : max (max (lc v n a (b + 1)) (lc v n (a + 1) b)) (lc v n a b + 1) = lc v n a b + 1 := by
  obtain ⟨h1, h2, h3⟩ := lc_f v n a
  have h4 := h2 b
  have h5 : lc v n a b ≤ lc v n (a + 1) b ∧ lc v n (a + 1) b ≤ lc v n a b + 1 := lcr_c h1 h2 b
  omega
theorem icc_in {T : Gr} {v : Nat → Int} {n m i : Nat} (hn : n ≤ 30) (hm : m ≤ 30) (hi : i < n) (hv : ∀ j, j < n + m → 0 ≤ v j ∧ v j < 256) (hA : ∀ j, j < n + m → f_X8_at T (zI j) = some (zI (v j))) (k35 : Gr → Int32 → Int32 → Option (Int32 × Gr)) : ∀ (d b f : Nat) (D : Gr), b + d = m → d < f → (∀ j, j ≤ m → D.2 0 j = zI (if j ≤ b then lc v n (i + 1) j else lc v n i j)) → ∃ D', f_X2_commonBytes_n47 T (zI n) (zI m) k35 f D (zI m) (zI i) (zI (lc v n i b)) (zI ((b + 1 : Nat) : Int)) = k35 D' (zI m) (zI ((i + 1 : Nat) : Int)) ∧ ∀ j, j ≤ m → D'.2 0 j = zI (lc v n (i + 1) j) := by
  have e1 : (1 : Int32) = zI 1 := rfl
  intro d
  induction d with
  | zero =>
    intro b f D hb hf hD
    obtain ⟨f, rfl⟩ : ∃ k, f = k + 1 := ⟨f - 1, by omega⟩
    have h1 : zI m < zI ((b + 1 : Nat) : Int) := (ltN (by omega) (by omega)).mpr (by omega)
    rw [f_X2_commonBytes_n47, if_pos h1, lt_e, zs1]
    refine ⟨D, rfl, fun j hj => ?_⟩
    rw [hD j hj, if_pos (by omega)]
  | succ d ih =>
    intro b f D hb hf hD
    obtain ⟨f, rfl⟩ : ∃ k, f = k + 1 := ⟨f - 1, by omega⟩
    have h1 : ¬ zI m < zI ((b + 1 : Nat) : Int) := fun h => absurd ((ltN (by omega) (by omega)).mp h) (by omega)
    have ei : zI n + zI ((b + 1 : Nat) : Int) - 1 = zI ((n + b : Nat) : Int) := by rw [zaN, show n + (b + 1) = n + b + 1 by omega, zp1]
    have l1 := (lc_f v n i).2.2 b
    have l2 := (lc_f v n i).2.2 (b + 1)
    have l3 := (lc_f v n (i + 1)).2.2 b
    have v1 := hv i (by omega)
    have v2 := hv (n + b) (by omega)
    have r1 : D.2 0 (b + 1) = zI (lc v n i (b + 1)) := by rw [hD _ (by omega), if_neg (by omega)]
    have r2 : D.2 0 b = zI (lc v n (i + 1) b) := by rw [hD _ (by omega), if_pos (by omega)]
    have nx : ∀ z, z = lc v n (i + 1) (b + 1) → ∃ D', f_X2_commonBytes_n47 T (zI n) (zI m) k35 f (sA D 0 (b + 1) (zI z)) (zI m) (zI i) (zI (lc v n i (b + 1))) (zI ((b + 1 + 1 : Nat) : Int)) = k35 D' (zI m) (zI ((i + 1 : Nat) : Int)) ∧ ∀ j, j ≤ m → D'.2 0 j = zI (lc v n (i + 1) j) := fun z hz => by
      refine ih (b + 1) f _ (by omega) (by omega) (fun j hj => ?_)
      rw [sA_s]
      by_cases e : j = b + 1
      · rw [if_pos e, e, if_pos (Nat.le_refl _), hz]
      · rw [if_neg e, hD j hj]
        by_cases h : j ≤ b
        · rw [if_pos h, if_pos (by omega)]
        · rw [if_neg h, if_neg (by omega)]
    rw [f_X2_commonBytes_n47, if_neg h1, rdN (by omega) (by omega), hA i (by omega), bd_s, ei, hA (n + b) (by omega), bd_s, r1]
    unfold f_X2_commonBytes_n87
    rw [i10, i00, ckN (by omega) (by omega), clN (by omega), lt_e, lt_e, zs1, zp1, rdN (by omega) (by omega), r2, lt_e, mx_z (by omega) (by omega) (by omega) (by omega), ckN (by omega) (by omega), lt_e, lt_e, e1, zI_add]
    by_cases hq : v i = v (n + b)
    · rw [if_pos (by rw [hq])]
      exact nx _ (by rw [lc_e, if_pos hq])
    · rw [if_neg (by rw [zI_eq (by omega) (by omega) (by omega) (by omega)]; exact hq)]
      exact nx _ (by rw [lc_e, if_neg hq])
theorem icc_out {T : Gr} {v : Nat → Int} {n m : Nat} (hn : n ≤ 30) (hm : m ≤ 30) (hv : ∀ j, j < n + m → 0 ≤ v j ∧ v j < 256) (hA : ∀ j, j < n + m → f_X8_at T (zI j) = some (zI (v j))) : ∀ (d i f : Nat) (D : Gr), i + d = n → d < f → (∀ j, j ≤ m → D.2 0 j = zI (lc v n i j)) → ∃ D', f_X2_commonBytes_n35 T (zI n) (zI m) f D (zI m) (zI i) = some (zI (lc v n n m), D') := by
  intro d
  induction d with
  | zero =>
    intro i f D hi hf hD
    obtain ⟨f, rfl⟩ : ∃ k, f = k + 1 := ⟨f - 1, by omega⟩
    have e : i = n := by omega
    subst e
    rw [f_X2_commonBytes_n35, if_pos ((leN (by omega) (by omega)).mpr (by omega)), rdN (by omega) (by omega), hD m (Nat.le_refl _)]
    exact ⟨D, rfl⟩
  | succ d ih =>
    intro i f D hi hf hD
    obtain ⟨f, rfl⟩ : ∃ k, f = k + 1 := ⟨f - 1, by omega⟩
    rw [f_X2_commonBytes_n35, if_neg (fun h => absurd ((leN (by omega) (by omega)).mp h) (by omega))]
    obtain ⟨D', q1, q2⟩ := icc_in hn hm (i := i) (by omega) hv hA (f_X2_commonBytes_n35 T (zI n) (zI m) f) m 0 fu D (by omega) (by show m < 1000; omega) (fun j hj => by
      rw [hD j hj]
      by_cases h : j ≤ 0
      · have e : j = 0 := by omega
        rw [if_pos h, e, (lc_f v n i).1, (lc_f v n (i + 1)).1]
      · rw [if_neg h])
    rw [(lc_f v n i).1] at q1
    have q1 : f_X2_commonBytes_n47 T (zI n) (zI m) (f_X2_commonBytes_n35 T (zI n) (zI m) f) fu D (zI m) (zI i) 0 1 = _ := q1
    rw [q1]
    exact ih (i + 1) f D' (by omega) (by omega) q2
theorem icc_z {T : Gr} {x2 x3 : Int32} {m : Nat} (hm : m ≤ 30) : ∀ (d b f : Nat) (D : Gr), b + d = m + 1 → d < f → (∀ j, j < b → D.2 0 j = 0) → ∃ D', f_X2_commonBytes_n11 T x2 x3 f D (zI m) (zI b) = f_X2_commonBytes_n35 T x2 x3 fu D' (zI m) 0 ∧ ∀ j, j ≤ m → D'.2 0 j = 0 := by
  intro d
  induction d with
  | zero =>
    intro b f D hb hf hD
    obtain ⟨f, rfl⟩ : ∃ k, f = k + 1 := ⟨f - 1, by omega⟩
    rw [f_X2_commonBytes_n11, if_pos ((ltN (by omega) (by omega)).mpr (by omega))]
    exact ⟨D, rfl, fun j hj => hD j (by omega)⟩
  | succ d ih =>
    intro b f D hb hf hD
    obtain ⟨f, rfl⟩ : ∃ k, f = k + 1 := ⟨f - 1, by omega⟩
    rw [f_X2_commonBytes_n11, if_neg (fun h => absurd ((ltN (by omega) (by omega)).mp h) (by omega)), ckN (by omega) (by omega), clN (by omega), lt_e, lt_e, zs1]
    refine ih (b + 1) f _ (by omega) (by omega) (fun j hj => ?_)
    rw [sA_s]
    by_cases e : j = b
    · rw [if_pos e]
    · rw [if_neg e]; exact hD j (by omega)
theorem icm_in {v : Nat → Int} {n m a : Nat} (hn : n ≤ 30) (hm : m ≤ 30) (ha : a ≤ n) (hv : ∀ j, j < n + m → 0 ≤ v j ∧ v j < 256) {t7 : Nat → Int32} (hO : ∀ N : Gr, N.2 7 = t7 → ∀ j, j < n + m → f_X12_octet N (zI j) = some (zI (v j))) (k39 : Gr → Int32 → Option (Int32 × Gr)) : ∀ (d b f : Nat) (S : Gr), b + d = m + 1 → d < f → S.2 7 = t7 → (∀ a' b', b' ≤ m → (a' < a ∨ (a' = a ∧ b' < b)) → S.2 46 (31 * a' + b') = zI (lc v n a' b')) → ∃ S', f_X12_inCommon_n47 (zI n) (zI m) k39 f S (zI a) (zI b) = k39 S' (zI ((a + 1 : Nat) : Int)) ∧ S'.1 = S.1 ∧ (∀ j, j ≠ 46 → S'.2 j = S.2 j) ∧ (∀ a' b', b' ≤ m → a' ≤ a → S'.2 46 (31 * a' + b') = zI (lc v n a' b')) := by
  have e1 : (1 : Int32) = zI 1 := rfl
  have e31 : (31 : Int32) = zI ((31 : Nat) : Int) := rfl
  have e32 : (32 : Int32) = zI ((32 : Nat) : Int) := rfl
  have e0 : (0 : Int32) = zI ((0 : Nat) : Int) := rfl
  intro d
  induction d with
  | zero =>
    intro b f S hb hf h7 hS
    obtain ⟨f, rfl⟩ : ∃ k, f = k + 1 := ⟨f - 1, by omega⟩
    rw [f_X12_inCommon_n47, if_pos ((ltN (by omega) (by omega)).mpr (by omega)), lt_e, zs1]
    exact ⟨S, rfl, rfl, fun _ _ => rfl, fun a' b' h1 h2 => hS a' b' h1 (by omega)⟩
  | succ d ih =>
    intro b f S hb hf h7 hS
    obtain ⟨f, rfl⟩ : ∃ k, f = k + 1 := ⟨f - 1, by omega⟩
    have ev : (31 * zI a) + zI b = zI ((31 * a + b : Nat) : Int) := by rw [e31, zI_mul, zI_add]; congr 1
    have nx : ∀ N : Gr, N.1 = S.1 → (∀ j, j ≠ 46 → N.2 j = S.2 j) → (∀ j, N.2 46 j = if j = 31 * a + b then zI (lc v n a b) else S.2 46 j) → ∃ S', f_X12_inCommon_n47 (zI n) (zI m) k39 f N (zI a) (zI ((b + 1 : Nat) : Int)) = k39 S' (zI ((a + 1 : Nat) : Int)) ∧ S'.1 = S.1 ∧ (∀ j, j ≠ 46 → S'.2 j = S.2 j) ∧ (∀ a' b', b' ≤ m → a' ≤ a → S'.2 46 (31 * a' + b') = zI (lc v n a' b')) := fun N n1 n2 n3 => by
      obtain ⟨S', q1, q2, q3, q4⟩ := ih (b + 1) f N (by omega) (by omega) (by rw [n2 7 (by omega)]; exact h7) (fun a' b' h1 h2 => by
        rw [n3]
        by_cases e : 31 * a' + b' = 31 * a + b
        · have ea : a' = a := by omega
          have eb : b' = b := by omega
          rw [if_pos e, ea, eb]
        · rw [if_neg e]
          refine hS a' b' h1 ?_
          by_cases e' : a' = a
          · right; refine ⟨e', ?_⟩; subst e'; omega
          · omega)
      exact ⟨S', q1, q2.trans n1, fun j hj => (q3 j hj).trans (n2 j hj), q4⟩
    rw [f_X12_inCommon_n47, if_neg (fun h => absurd ((ltN (by omega) (by omega)).mp h) (by omega)), lt_e, ev, ckN (by omega) (by omega), clN (by omega), lt_e, lt_e, zs1]
    by_cases ha0 : a = 0
    · subst ha0
      rw [if_pos (show zI ((0 : Nat) : Int) = (0 : Int32) from rfl)]
      refine nx _ rfl (fun j hj => sA_o _ _ _ _ _ hj) (fun j => ?_)
      rw [sA_s]; rfl
    · rw [if_neg (by rw [e0]; exact fun h => absurd ((eqN (by omega) (by omega)).mp h) ha0)]
      obtain ⟨a, rfl⟩ : ∃ k, a = k + 1 := ⟨a - 1, by omega⟩
      by_cases hb0 : b = 0
      · subst hb0
        rw [if_pos (show zI ((0 : Nat) : Int) = (0 : Int32) from rfl)]
        refine nx _ rfl (fun j hj => sA_o _ _ _ _ _ hj) (fun j => ?_)
        rw [sA_s]; rfl
      · rw [if_neg (by rw [e0]; exact fun h => absurd ((eqN (by omega) (by omega)).mp h) hb0)]
        obtain ⟨b, rfl⟩ : ∃ k, b = k + 1 := ⟨b - 1, by omega⟩
        have i1 : zI ((31 * (a + 1) + (b + 1) : Nat) : Int) - 31 = zI ((31 * a + (b + 1) : Nat) : Int) := by rw [e31, zI_sub]; congr 1; omega
        have i2 : zI ((31 * (a + 1) + (b + 1) : Nat) : Int) - 1 = zI ((31 * (a + 1) + b : Nat) : Int) := by rw [e1, zI_sub]; congr 1; omega
        have i3 : zI ((31 * (a + 1) + (b + 1) : Nat) : Int) - 32 = zI ((31 * a + b : Nat) : Int) := by rw [e32, zI_sub]; congr 1; omega
        have ei : zI n + zI ((b + 1 : Nat) : Int) - 1 = zI ((n + b : Nat) : Int) := by rw [zaN, show n + (b + 1) = n + b + 1 by omega, zp1]
        have l1 := (lc_f v n a).2.2 b
        have l2 := (lc_f v n a).2.2 (b + 1)
        have l3 := (lc_f v n (a + 1)).2.2 b
        have v1 := hv a (by omega)
        have v2 := hv (n + b) (by omega)
        have r1 : S.2 46 (31 * a + (b + 1)) = zI (lc v n a (b + 1)) := hS a (b + 1) (by omega) (by omega)
        have r2 : S.2 46 (31 * (a + 1) + b) = zI (lc v n (a + 1) b) := hS (a + 1) b (by omega) (by omega)
        have r3 : S.2 46 (31 * a + b) = zI (lc v n a b) := hS a b (by omega) (by omega)
        rw [i1, rdN (by omega) (by omega), i2, rdN (by omega) (by omega), sA_s, if_neg (by omega), sA_s, if_neg (by omega), r1, r2, max_z (by omega) (by omega) (by omega) (by omega), bd_s, ckN (by omega) (by omega), lt_e]
        generalize hN : sA (sA S 46 (31 * (a + 1) + (b + 1)) 0) 46 (31 * (a + 1) + (b + 1)) (zI (max (lc v n a (b + 1)) (lc v n (a + 1) b))) = N
        have n1 : N.1 = S.1 := by rw [← hN]; rfl
        have n2 : ∀ j, j ≠ 46 → N.2 j = S.2 j := fun j hj => by rw [← hN, sA_o _ _ _ _ _ hj, sA_o _ _ _ _ _ hj]
        have n3 : ∀ j, N.2 46 j = if j = 31 * (a + 1) + (b + 1) then zI (max (lc v n a (b + 1)) (lc v n (a + 1) b)) else S.2 46 j := fun j => by
          rw [← hN, sA_s, sA_s]
          by_cases e : j = 31 * (a + 1) + (b + 1)
          · rw [if_pos e, if_pos e]
          · rw [if_neg e, if_neg e, if_neg e]
        rw [zp1, hO N (by rw [n2 7 (by omega)]; exact h7) a (by omega), bd_s, ei, hO N (by rw [n2 7 (by omega)]; exact h7) (n + b) (by omega), bd_s, lt_e]
        by_cases hq : v a = v (n + b)
        · rw [if_pos (by rw [hq]), rdN (by omega) (by omega), i3, rdN (by omega) (by omega), n3, if_pos rfl, n3, if_neg (by omega), r3, e1, zI_add, max_z (by omega) (by omega) (by omega) (by omega), bd_s, ckN (by omega) (by omega), lt_e, lt_e, lc_m]
          refine nx _ n1 (fun j hj => (sA_o _ _ _ _ _ hj).trans (n2 j hj)) (fun j => ?_)
          rw [sA_s, n3, lc_e, if_pos hq]
          by_cases e : j = 31 * (a + 1) + (b + 1)
          · rw [if_pos e, if_pos e]
          · rw [if_neg e, if_neg e, if_neg e]
        · rw [if_neg (by rw [zI_eq (by omega) (by omega) (by omega) (by omega)]; exact hq)]
          refine nx N n1 n2 (fun j => ?_)
          rw [n3, lc_e, if_neg hq]
theorem icm_out {v : Nat → Int} {n m : Nat} (hn : n ≤ 30) (hm : m ≤ 30) (hv : ∀ j, j < n + m → 0 ≤ v j ∧ v j < 256) {t7 : Nat → Int32} (hO : ∀ N : Gr, N.2 7 = t7 → ∀ j, j < n + m → f_X12_octet N (zI j) = some (zI (v j))) : ∀ (d a f : Nat) (S : Gr), a + d = n + 1 → d < f → S.2 7 = t7 → (∀ a' b', b' ≤ m → a' < a → S.2 46 (31 * a' + b') = zI (lc v n a' b')) → ∃ S', f_X12_inCommon_n39 (zI n) (zI m) f S (zI a) = some (zI (lc v n n m), S') ∧ S'.1 = S.1 ∧ (∀ j, j ≠ 46 → S'.2 j = S.2 j) := by
  have e31 : (31 : Int32) = zI ((31 : Nat) : Int) := rfl
  intro d
  induction d with
  | zero =>
    intro a f S ha hf h7 hS
    obtain ⟨f, rfl⟩ : ∃ k, f = k + 1 := ⟨f - 1, by omega⟩
    have ev : (31 * zI n) + zI m = zI ((31 * n + m : Nat) : Int) := by rw [e31, zI_mul, zI_add]; congr 1
    rw [f_X12_inCommon_n39, if_pos ((ltN (by omega) (by omega)).mpr (by omega)), ev, rdN (by omega) (by omega), hS n m (Nat.le_refl _) (by omega)]
    exact ⟨S, rfl, rfl, fun _ _ => rfl⟩
  | succ d ih =>
    intro a f S ha hf h7 hS
    obtain ⟨f, rfl⟩ : ∃ k, f = k + 1 := ⟨f - 1, by omega⟩
    rw [f_X12_inCommon_n39, if_neg (fun h => absurd ((ltN (by omega) (by omega)).mp h) (by omega))]
    obtain ⟨S1, q1, q2, q3, q4⟩ := icm_in hn hm (a := a) (by omega) hv hO (f_X12_inCommon_n39 (zI n) (zI m) f) (m + 1) 0 fu S (by omega) (by show m + 1 < 1000; omega) h7 (fun a' b' h1 h2 => hS a' b' h1 (by omega))
    have q1 : f_X12_inCommon_n47 (zI n) (zI m) (f_X12_inCommon_n39 (zI n) (zI m) f) fu S (zI a) 0 = _ := q1
    rw [q1]
    obtain ⟨S', r1, r2, r3⟩ := ih (a + 1) f S1 (by omega) (by omega) (by rw [q3 7 (by omega)]; exact h7) (fun a' b' h1 h2 => q4 a' b' h1 (by omega))
    exact ⟨S', r1, r2.trans q2, fun j hj => (r3 j hj).trans (q3 j hj)⟩
/-- the end of a method that empties the tape and writes elsewhere -/
theorem emp_of {C : Nat → Gr} {M N : Gr} (hI : Inv C M) (h1 : ∀ k, (k = 5 ∨ k = 6 ∨ k = 17 ∨ k = 54 ∨ k = 55 ∨ k = 56) → N.1 k = M.1 k) (h8 : N.1 8 = 0) (h2 : ∀ k, (k = 0 ∨ k = 2 ∨ k = 3 ∨ k = 4 ∨ k = 7 ∨ k = 24 ∨ k = 25 ∨ k = 26 ∨ k = 27 ∨ k = 28) → N.2 k = M.2 k) {C' : Nat → Gr} (e1 : C' 1 = sI (C 1) 1 0) (e13 : C' 13 = C 13) (e0 : C' 0 = C 0) (e15 : C' 15 = C 15) (e11 : C' 11 = C 11) : Inv C' N :=
  emp_ok hI (keep_of h1 (fun k hk => h2 k (by omega))) (h2 7 (by omega)) h8 e1 e13 e0 e15 e11
theorem inCommon_ok : hp_inCommon Inv := by
  intro C M hI x y
  obtain ⟨k, hk⟩ := tpR.of hI.1
  have hk260 := hk.1
  have same : ∀ D, Inv (va_up (va_up C 1 (C 1)) 9 D) M := fun D => Inv_keep hI (keepM.rf M) hI.1 rfl rfl rfl rfl
  unfold f_X11_inCommon f_X12_inCommon
  rw [within_e, in_e, bd_s, bd_s, within_e, in_e, bd_s, bd_s]
  by_cases hx : (1 : Int32) ≤ x ∧ x ≤ 30
  · rw [decide_eq_true hx, b2_t, i10, i10]
    by_cases hy : (1 : Int32) ≤ y ∧ y ≤ 30
    · rw [decide_eq_true hy, b2_t, i10, i10]
      obtain ⟨n, hn1, hn2, rfl⟩ := in_of2 1 30 (by omega) (by omega) hx
      obtain ⟨m, hm1, hm2, rfl⟩ := in_of2 1 30 (by omega) (by omega) hy
      rw [zaN, has_b hk (by omega), bd_s]
      by_cases hck : n + m ≤ k
      · rw [decide_eq_true hck, b2_t, i10, if_pos ((hasm_b hk (by omega)).mpr hck), lt_e]
        have hv : ∀ j, j < n + m → 0 ≤ bz (C 1) j ∧ bz (C 1) j < 256 := fun j hj => ⟨(tp_v hk (by omega)).1, (tp_v hk (by omega)).2.1⟩
        obtain ⟨D1, a1, a2⟩ := icc_z (T := C 1) (x2 := zI n) (x3 := zI m) hm2 (m + 1) 0 fu (C 9) (by omega) (by show m + 1 < 1000; omega) (fun j hj => by omega)
        obtain ⟨D2, b1⟩ := icc_out (T := C 1) hn2 hm2 hv (fun j hj => at_b hk (by omega)) n 0 fu D1 (by omega) (by show n < 1000; omega) (fun j hj => a2 j hj)
        obtain ⟨N, c1, c2, c3⟩ := icm_out (n := n) (m := m) hn2 hm2 hv (t7 := M.2 7) (fun N hN j hj => oct_b hk hN (by omega)) (n + 1) 0 fu (sI M 8 0) (by omega) (by show n + 1 < 1000; omega) rfl (fun a' b' h1 h2 => by omega)
        have e30 : mn' (zI m) 30 = zI m := by
          have e : (30 : Int32) = zI 30 := rfl
          rw [e, mn_z (by omega) (by omega) (by omega) (by omega)]; congr 1; omega
        have hc : f_X2_commonBytes (C 9) (C 1) (zI n) (zI m) = some (zI (lc (bz (C 1)) n n m), D2) := by
          unfold f_X2_commonBytes
          rw [lt_e, e30]
          exact a1.trans b1
        have c1 : f_X12_inCommon_n39 (zI n) (zI m) fu (sI M 8 0) 0 = _ := c1
        rw [hc, bd_s, c1]
        refine ⟨_, _, rfl, rfl, rfl, emp_of hI (fun k hk => ?_) ?_ (fun k hk => c3 k (by omega)) rfl rfl rfl rfl rfl⟩
        · show N.1 k = M.1 k
          rw [c2, sI_1, if_neg (by omega)]
        · show N.1 8 = 0
          rw [c2]; rfl
      · rw [decide_eq_false hck, b2_f, i00, if_neg (fun h => hck ((hasm_b hk (by omega)).mp h))]
        exact ⟨_, _, rfl, rfl, rfl, same _⟩
    · rw [decide_eq_false hy, b2_f, i00, i00]; exact ⟨_, _, rfl, rfl, rfl, same _⟩
  · rw [decide_eq_false hx, b2_f, i00, i00]; exact ⟨_, _, rfl, rfl, rfl, same _⟩
