/-! log: rows whole; answers -/
def enO (o : Nat) : Int := if o = 0 then -1 else 41
section
variable {b : Nat → Int} {n : Nat}
theorem rl_lp (hb : txB b n) (hn : n ≤ 80) {x1 x2 : Int32} {D o : Nat} (ho : o ≤ 2) (Hr : o < 2 → rowP b n x1 x2 D (o + 1)) (gr : Gr → Gr → Int32 → Option (Int32 × Gr × Gr)) : ∀ (d k i f : Nat) (X G N : Gr) (s f0 f1 : Nat), n < i + d → k ≤ i → 1 ≤ k → d ≤ f → txR X N b n i → lgR G N s → N.1 45 = zI o → n - i + 1 ≤ f0 → 2 * (n - i) + 3 ≤ f1 → ∃ X' G' N', lgF N N' ∧ lgK o N N' ∧ ((∃ i' s' f0' f1' : Nat, i ≤ i' ∧ txR X' N' b n i' ∧ lgR G' N' s' ∧ s ≤ s' ∧ N'.1 45 = zI o ∧ (o = 0 → i' = n) ∧ (0 < o → cu b n i' = 41) ∧ n - i' + 1 ≤ f0' ∧ 2 * (n - i') + 3 ≤ f1' ∧ f_X5_row_n13 gr (kX5 (D + 1)).2 (zI o) f G X (zI (enO o)) (zI k) = some (1, G', X') ∧ lgB x1 x2 f0 f1 N = lgB x1 x2 f0' f1' N') ∨ (flR X' N' ∧ f_X5_row_n13 gr (kX5 (D + 1)).2 (zI o) f G X (zI (enO o)) (zI k) = some (0, G', X') ∧ lgB x1 x2 f0 f1 N = f_X12_log_n91 x1 x2 N' 0)) := by
  intro d
  induction d with
  | zero => intro k i f X G N s f0 f1 hd _ _ _ h; have := h.1; omega
  | succ d ih =>
    intro k i f X G N s f0 f1 hd hki hk1 hf h hl h45 hf0 hf1
    obtain ⟨f, rfl⟩ : ∃ k, f = k + 1 := ⟨f - 1, by omega⟩
    obtain ⟨f0, rfl⟩ : ∃ k, f0 = k + 1 := ⟨f0 - 1, by omega⟩
    obtain ⟨f1, rfl⟩ : ∃ k, f1 = k + 1 := ⟨f1 - 1, by omega⟩
    have hi := h.1
    have hc := cu_b hb i
    have e0 : (0 : Int32) = zI ((0 : Nat) : Int) := rfl
    have e80 : (80 : Int32) = zI ((80 : Nat) : Int) := rfl
    have c1 : ¬ (80 : Int32) < zI k := by rw [e80, ltN (by omega) (by omega)]; omega
    have c2 : ¬ zI k ≤ 0 := by rw [e0, leN (by omega) (by omega)]; omega
    have hen : -1 ≤ enO o ∧ enO o ≤ 41 := by
      unfold enO
      by_cases e : o = 0
      · rw [if_pos e]; omega
      · rw [if_neg e]; omega
    rw [f_X5_row_n13, if_neg c1, if_neg c2, peek_b hb h, bd_s]
    by_cases q : cu b n i = enO o
    · rw [if_pos (by rw [q])]
      refine ⟨X, G, N, lgF.rf N, lgK.rf o N, Or.inl ⟨i, s, f0 + 1, f1 + 1, by omega, h, hl, by omega, h45, fun e => ?_, fun e => ?_, hf0, hf1, rfl, rfl⟩⟩
      · unfold enO at q
        rw [if_pos e] at q
        by_cases hlt : i < n
        · have := hb.2 i hlt
          unfold cu at q
          rw [if_pos hlt] at q; omega
        · omega
      · unfold enO at q
        rw [if_neg (by omega)] at q; exact q
    · have q1 : ¬ zI (cu b n i) = zI (enO o) := by rw [zI_eq (by omega) (by omega) (by omega) (by omega)]; exact q
      have b1 : ¬ (cu b n i = 41 ∧ 0 < o) := fun ⟨e1, e2⟩ => by
        apply q; unfold enO; rw [if_neg (by omega)]; exact e1
      have b2' : i < n ∨ 0 < o := by
        by_cases e : o = 0
        · left
          by_cases hlt : i < n
          · exact hlt
          · exfalso; apply q; unfold enO cu; rw [if_pos e, if_neg hlt]
        · right; omega
      rw [if_neg q1, B_on hb h h45 ho b1 b2']
      obtain ⟨X1, G1, N1, r1, r2, r3⟩ := itm_b hb hn (f0 := fu) (f1 := f1) ho Hr h hl h45 (by show n - i + 1 ≤ 1000; omega) (by omega)
      rcases r3 with ⟨i', s', f0', f1', m1, m2, m3, m4, m5, m6, m7, m8, m9⟩ | ⟨m1, m2, m3⟩
      · rw [m8, m9, zs1]
        obtain ⟨X2, G2, N2, t1, t2, t3⟩ := ih (k + 1) i' f X1 G1 N1 s' f0' f1' (by omega) (by omega) (by omega) (by omega) m2 m3 m5 m6 m7
        refine ⟨X2, G2, N2, r1.tr t1, r2.tr t2, ?_⟩
        rcases t3 with ⟨i2, s2, g0, g1, p1, p2, p3, p4, p5⟩ | p
        · exact Or.inl ⟨i2, s2, g0, g1, by omega, p2, p3, by omega, p5⟩
        · exact Or.inr p
      · rw [m2]
        exact ⟨X1, G1, N1, r1, r2, Or.inr ⟨m1, rfl, m3⟩⟩
theorem row_b (hb : txB b n) (hn : n ≤ 80) {x1 x2 : Int32} {D o : Nat} (ho : o ≤ 2) (Hr : o < 2 → rowP b n x1 x2 D (o + 1)) : rowP b n x1 x2 (D + 2) o := by
  intro X G N i s f0 f1 h hl h45 hf0 hf1
  have hi := h.1
  have e0 : (0 : Int32) = zI ((0 : Nat) : Int) := rfl
  have hR : (kX5 (D + 2)).1 G X (zI o) = f_X5_row_n36 (kX5 (D + 1)).1 (kX5 (D + 1)).2 (zI o) (f_X5_row_n13 (kX5 (D + 1)).1 (kX5 (D + 1)).2 (zI o) 999) G X (zI (enO o)) 0 := by
    have e : (kX5 (D + 2)).1 G X (zI o) = fo_X5_row (kX5 (D + 1)).1 (kX5 (D + 1)).2 G X (zI o) := rfl
    have c1 : ¬ (80 : Int32) < 0 := by decide
    have c2 : (0 : Int32) ≤ 0 := by decide
    rw [e]
    unfold fo_X5_row
    by_cases eo : o = 0
    · have q : zI (o : Int) = 0 := by rw [eo]; rfl
      have en : zI (enO o) = -1 := by unfold enO; rw [if_pos eo]; rfl
      rw [if_pos q, en, fuS, f_X5_row_n13, if_neg c1, if_pos c2]
    · have q : ¬ zI (o : Int) = 0 := by rw [e0, eqN (by omega) (by omega)]; exact eo
      have en : zI (enO o) = 41 := by unfold enO; rw [if_neg eo]; rfl
      rw [if_neg q, en, fuS, f_X5_row_n13, if_neg c1, if_pos c2]
  rw [hR]
  obtain ⟨X1, G1, N1, r1, r2, r3⟩ := itm_b hb hn ho Hr h hl h45 hf0 hf1
  rcases r3 with ⟨i', s', f0', f1', m1, m2, m3, m4, m5, m6, m7, m8, m9⟩ | ⟨m1, m2, m3⟩
  · have hi' := m2.1
    rw [m8, m9]
    obtain ⟨X2, G2, N2, t1, t2, t3⟩ := rl_lp hb hn ho Hr (kX5 (D + 1)).1 (n + 1) 1 i' 999 X1 G1 N1 s' f0' f1' (by omega) (by omega) (by omega) (by omega) m2 m3 m5 m6 m7
    refine ⟨X2, G2, N2, r1.tr t1, r2.tr t2, ?_⟩
    rcases t3 with ⟨i2, s2, g0, g1, p1, p2, p3, p4, p5⟩ | p
    · exact Or.inl ⟨i2, s2, g0, g1, by omega, p2, p3, by omega, p5⟩
    · exact Or.inr p
  · rw [m2]
    exact ⟨X1, G1, N1, r1, r2, Or.inr ⟨m1, rfl, m3⟩⟩
theorem row_0 (hb : txB b n) (hn : n ≤ 80) {x1 x2 : Int32} : rowP b n x1 x2 10 0 :=
  row_b (D := 8) hb hn (by omega) (fun _ => row_b (D := 6) hb hn (by omega) (fun _ => row_b (D := 4) hb hn (by omega) (fun h => by omega)))
end
theorem mx_e (a b : Int32) : f_X12_max a b = some (mx' a b) := by
  obtain ⟨x, h1, h2, rfl⟩ := zI_of a
  obtain ⟨y, h3, h4, rfl⟩ := zI_of b
  unfold f_X12_max mx'
  simp only [zI_le h1 h2 h3 h4, zI_lt h1 h2 h3 h4]
  by_cases c : x ≤ y
  · rw [if_pos c]
    by_cases c2 : x < y
    · rw [if_pos c2]
    · rw [if_neg c2]; congr 2; omega
  · rw [if_neg c, if_neg (by omega)]
section
variable {X G N : Gr} {s : Nat}
theorem tm_lp (hl : lgR G N s) (x : Int32) : ∀ (d m f f' : Nat) (a : Int32), m + d = s → d < f → d < f' → ∃ r, f_X5_timesOf_n4 G X x f a (zI m) = some r ∧ f_X12_oftenOf_n4 N x f' a (zI m) = some r := by
  have hs := hl.2.2.1
  intro d
  induction d with
  | zero =>
    intro m f f' a hm hf hf'
    obtain ⟨f, rfl⟩ : ∃ k, f = k + 1 := ⟨f - 1, by omega⟩
    obtain ⟨f', rfl⟩ : ∃ k, f' = k + 1 := ⟨f' - 1, by omega⟩
    have c : zI s ≤ zI m := (leN (by omega) (by omega)).mpr (by omega)
    rw [f_X5_timesOf_n4, hl.1, if_pos c, f_X12_oftenOf_n4, hl.2.1, if_pos c]
    exact ⟨_, rfl, rfl⟩
  | succ d ih =>
    intro m f f' a hm hf hf'
    obtain ⟨f, rfl⟩ : ∃ k, f = k + 1 := ⟨f - 1, by omega⟩
    obtain ⟨f', rfl⟩ : ∃ k, f' = k + 1 := ⟨f' - 1, by omega⟩
    have c : ¬ zI s ≤ zI m := fun h => absurd ((leN (by omega) (by omega)).mp h) (by omega)
    rw [f_X5_timesOf_n4, hl.1, if_neg c, f_X12_oftenOf_n4, hl.2.1, if_neg c, rdN (by omega) (by omega), rdN (by omega) (by omega), hl.2.2.2 m (by omega)]
    simp only [lt_e, zs1]
    by_cases e : N.2 41 m = x
    · rw [if_pos e, if_pos e]; exact ih (m + 1) f f' _ (by omega) (by omega) (by omega)
    · rw [if_neg e, if_neg e]; exact ih (m + 1) f f' _ (by omega) (by omega) (by omega)
theorem tm_b (hl : lgR G N s) (x : Int32) : ∃ r, f_X5_timesOf G X x = some r ∧ f_X12_oftenOf N x = some r := by
  have hs := hl.2.2.1
  exact tm_lp hl x s 0 fu fu 0 (by omega) (by show s < 1000; omega) (by show s < 1000; omega)
theorem cm_lp (hl : lgR G N s) : ∀ (d m f f' : Nat) (a : Int32), m + d = 8 → d < f → d < f' → ∃ r, f_X5_commonest_n4 G X f a (zI m) = some r ∧ f_X12_mostOften_n4 N f' a (zI m) = some r := by
  intro d
  induction d with
  | zero =>
    intro m f f' a hm hf hf'
    obtain ⟨f, rfl⟩ : ∃ k, f = k + 1 := ⟨f - 1, by omega⟩
    obtain ⟨f', rfl⟩ : ∃ k, f' = k + 1 := ⟨f' - 1, by omega⟩
    rw [f_X5_commonest_n4, if_pos (le8 (by omega) (by omega)), f_X12_mostOften_n4, if_pos (le8 (by omega) (by omega))]
    exact ⟨_, rfl, rfl⟩
  | succ d ih =>
    intro m f f' a hm hf hf'
    obtain ⟨f, rfl⟩ : ∃ k, f = k + 1 := ⟨f - 1, by omega⟩
    obtain ⟨f', rfl⟩ : ∃ k, f' = k + 1 := ⟨f' - 1, by omega⟩
    obtain ⟨r, r1, r2⟩ := tm_b (X := X) hl (zI m)
    obtain ⟨q, q1, q2⟩ := tm_b (X := X) hl a
    rw [f_X5_commonest_n4, if_neg (nle8 (by omega)), r1, bd_s, q1, bd_s, f_X12_mostOften_n4, if_neg (nle8 (by omega)), r2, bd_s, q2, bd_s]
    simp only [lt_e, zs1]
    by_cases e : r ≤ q
    · rw [if_pos e, if_pos e]; exact ih (m + 1) f f' _ (by omega) (by omega) (by omega)
    · rw [if_neg e, if_neg e]; exact ih (m + 1) f f' _ (by omega) (by omega) (by omega)
theorem lr_lp (hl : lgR G N s) : ∀ (d m f f' : Nat) (a c : Int32), m + d = s → d < f → d < f' → ∃ r, f_X5_longestRow_n6 G X f a c (zI m) = some r ∧ f_X12_longestRow_n6 N f' a c (zI m) = some r := by
  have hs := hl.2.2.1
  have e0 : (0 : Int32) = zI ((0 : Nat) : Int) := rfl
  intro d
  induction d with
  | zero =>
    intro m f f' a c' hm hf hf'
    obtain ⟨f, rfl⟩ : ∃ k, f = k + 1 := ⟨f - 1, by omega⟩
    obtain ⟨f', rfl⟩ : ∃ k, f' = k + 1 := ⟨f' - 1, by omega⟩
    have c : zI s ≤ zI m := (leN (by omega) (by omega)).mpr (by omega)
    rw [f_X5_longestRow_n6, hl.1, if_pos c, f_X12_longestRow_n6, hl.2.1, if_pos c]
    exact ⟨_, rfl, rfl⟩
  | succ d ih =>
    intro m f f' a c' hm hf hf'
    obtain ⟨f, rfl⟩ : ∃ k, f = k + 1 := ⟨f - 1, by omega⟩
    obtain ⟨f', rfl⟩ : ∃ k, f' = k + 1 := ⟨f' - 1, by omega⟩
    have c : ¬ zI s ≤ zI m := fun h => absurd ((leN (by omega) (by omega)).mp h) (by omega)
    rw [f_X5_longestRow_n6, hl.1, if_neg c, f_X12_longestRow_n6, hl.2.1, if_neg c]
    simp only [lt_e, zs1, mx_e, bd_s]
    by_cases hm0 : m = 0
    · have c0 : zI m ≤ 0 := by rw [e0, leN (by omega) (by omega)]; omega
      rw [if_pos c0, if_pos c0]
      exact ih (m + 1) f f' _ _ (by omega) (by omega) (by omega)
    · have c0 : ¬ zI m ≤ 0 := by rw [e0, leN (by omega) (by omega)]; omega
      have em : zI m - 1 = zI ((m - 1 : Nat) : Int) := by
        obtain ⟨k, rfl⟩ : ∃ k, m = k + 1 := ⟨m - 1, by omega⟩
        exact zp1 k
      rw [if_neg c0, if_neg c0, em, rdN (f := G.2 1) (by omega) (by omega), rdN (f := G.2 1) (by omega) (by omega), rdN (f := N.2 41) (by omega) (by omega), rdN (f := N.2 41) (by omega) (by omega), hl.2.2.2 m (by omega), hl.2.2.2 (m - 1) (by omega)]
      by_cases e : N.2 41 m = N.2 41 (m - 1)
      · rw [if_pos e, if_pos e]; exact ih (m + 1) f f' _ _ (by omega) (by omega) (by omega)
      · rw [if_neg e, if_neg e]; exact ih (m + 1) f f' _ _ (by omega) (by omega) (by omega)
theorem tu_lp (hl : lgR G N s) : ∀ (d m f f' : Nat) (a : Int32), m + d = s → 1 ≤ m → d < f → d < f' → ∃ r, f_X5_turns_n4 G X f a (zI m) = some r ∧ f_X12_turnsOf_n4 N f' a (zI m) = some r := by
  have hs := hl.2.2.1
  intro d
  induction d with
  | zero =>
    intro m f f' a hm hm1 hf hf'
    obtain ⟨f, rfl⟩ : ∃ k, f = k + 1 := ⟨f - 1, by omega⟩
    obtain ⟨f', rfl⟩ : ∃ k, f' = k + 1 := ⟨f' - 1, by omega⟩
    have c : zI s ≤ zI m := (leN (by omega) (by omega)).mpr (by omega)
    rw [f_X5_turns_n4, hl.1, if_pos c, f_X12_turnsOf_n4, hl.2.1, if_pos c]
    exact ⟨_, rfl, rfl⟩
  | succ d ih =>
    intro m f f' a hm hm1 hf hf'
    obtain ⟨f, rfl⟩ : ∃ k, f = k + 1 := ⟨f - 1, by omega⟩
    obtain ⟨f', rfl⟩ : ∃ k, f' = k + 1 := ⟨f' - 1, by omega⟩
    have c : ¬ zI s ≤ zI m := fun h => absurd ((leN (by omega) (by omega)).mp h) (by omega)
    have em : zI m - 1 = zI ((m - 1 : Nat) : Int) := by
      obtain ⟨k, rfl⟩ : ∃ k, m = k + 1 := ⟨m - 1, by omega⟩
      exact zp1 k
    rw [f_X5_turns_n4, hl.1, if_neg c, f_X12_turnsOf_n4, hl.2.1, if_neg c]
    simp only [lt_e, zs1]
    rw [em, rdN (f := G.2 1) (by omega) (by omega), rdN (f := G.2 1) (by omega) (by omega), rdN (f := N.2 41) (by omega) (by omega), rdN (f := N.2 41) (by omega) (by omega), hl.2.2.2 m (by omega), hl.2.2.2 (m - 1) (by omega)]
    generalize ((N.2 41 m - N.2 41 (m - 1)) + 8) - ((N.2 41 m - N.2 41 (m - 1)) + 8) / 8 * 8 = z
    by_cases e : (4 : Int32) ≤ z
    · rw [if_pos e, if_pos e]; exact ih (m + 1) f f' _ (by omega) (by omega) (by omega) (by omega)
    · rw [if_neg e, if_neg e]; exact ih (m + 1) f f' _ (by omega) (by omega) (by omega) (by omega)
theorem go_lp (hl : lgR G N s) {p : Nat} (hp : p ≤ s) : ∀ (d m f f' : Nat), m + d = s → p ≤ m → d < f → d < f' → ∃ t, f_X5_goesOnBy_n2 G X (zI p) f (zI m) = some (b2 t) ∧ f_X12_goesOnBy_n2 N (zI p) f' (zI m) = some (b2 t) ∧ (d = 0 → t = true) := by
  have hs := hl.2.2.1
  intro d
  induction d with
  | zero =>
    intro m f f' hm hm1 hf hf'
    obtain ⟨f, rfl⟩ : ∃ k, f = k + 1 := ⟨f - 1, by omega⟩
    obtain ⟨f', rfl⟩ : ∃ k, f' = k + 1 := ⟨f' - 1, by omega⟩
    have c : zI s ≤ zI m := (leN (by omega) (by omega)).mpr (by omega)
    rw [f_X5_goesOnBy_n2, hl.1, if_pos c, f_X12_goesOnBy_n2, hl.2.1, if_pos c]
    exact ⟨true, rfl, rfl, fun _ => rfl⟩
  | succ d ih =>
    intro m f f' hm hm1 hf hf'
    obtain ⟨f, rfl⟩ : ∃ k, f = k + 1 := ⟨f - 1, by omega⟩
    obtain ⟨f', rfl⟩ : ∃ k, f' = k + 1 := ⟨f' - 1, by omega⟩
    have c : ¬ zI s ≤ zI m := fun h => absurd ((leN (by omega) (by omega)).mp h) (by omega)
    have em : zI m - zI p = zI ((m - p : Nat) : Int) := by rw [zI_sub]; congr 1; omega
    rw [f_X5_goesOnBy_n2, hl.1, if_neg c, f_X12_goesOnBy_n2, hl.2.1, if_neg c, em, rdN (f := G.2 1) (by omega) (by omega), rdN (f := G.2 1) (by omega) (by omega), rdN (f := N.2 41) (by omega) (by omega), rdN (f := N.2 41) (by omega) (by omega), hl.2.2.2 m (by omega), hl.2.2.2 (m - p) (by omega)]
    simp only [lt_e, zs1]
    by_cases e : N.2 41 m = N.2 41 (m - p)
    · rw [if_pos e, if_pos e]
      obtain ⟨t, t1, t2, t3⟩ := ih (m + 1) f f' (by omega) (by omega) (by omega) (by omega)
      exact ⟨t, t1, t2, fun h => by omega⟩
    · rw [if_neg e, if_neg e]; exact ⟨false, rfl, rfl, fun h => by omega⟩
theorem pe_lp (hl : lgR G N s) : ∀ (d m f f' : Nat), m + d = s → 1 ≤ m → d < f → d < f' → ∃ r, f_X5_period_n2 G X f (zI m) = some r ∧ f_X12_periodOf_n2 N f' (zI m) = some r := by
  have hs := hl.2.2.1
  intro d
  induction d with
  | zero =>
    intro m f f' hm hm1 hf hf'
    obtain ⟨f, rfl⟩ : ∃ k, f = k + 1 := ⟨f - 1, by omega⟩
    obtain ⟨f', rfl⟩ : ∃ k, f' = k + 1 := ⟨f' - 1, by omega⟩
    have c : zI s ≤ zI m := (leN (by omega) (by omega)).mpr (by omega)
    obtain ⟨t, -, t2, t3⟩ := go_lp (X := X) hl (p := m) (by omega) 0 m fu fu (by omega) (by omega) (by decide) (by decide)
    have t2 : f_X12_goesOnBy N (zI m) = some (b2 t) := t2
    rw [t3 rfl] at t2
    have em : m = s := by omega
    rw [f_X5_period_n2, hl.1, if_pos c, f_X12_periodOf_n2, t2, bd_s, b2_t, i10, em]
    exact ⟨_, rfl, rfl⟩
  | succ d ih =>
    intro m f f' hm hm1 hf hf'
    obtain ⟨f, rfl⟩ : ∃ k, f = k + 1 := ⟨f - 1, by omega⟩
    obtain ⟨f', rfl⟩ : ∃ k, f' = k + 1 := ⟨f' - 1, by omega⟩
    have c : ¬ zI s ≤ zI m := fun h => absurd ((leN (by omega) (by omega)).mp h) (by omega)
    obtain ⟨t, t1, t2, -⟩ := go_lp (X := X) hl (p := m) (by omega) (d + 1) m fu fu (by omega) (by omega) (by show d + 1 < 1000; omega) (by show d + 1 < 1000; omega)
    have t1 : f_X5_goesOnBy G X (zI m) = some (b2 t) := t1
    have t2 : f_X12_goesOnBy N (zI m) = some (b2 t) := t2
    rw [f_X5_period_n2, hl.1, if_neg c, t1, bd_s, f_X12_periodOf_n2, t2, bd_s]
    simp only [lt_e, zs1]
    cases t with
    | true => rw [b2_t, i10, i10]; exact ⟨_, rfl, rfl⟩
    | false => rw [b2_f, i00, i00]; exact ih (m + 1) f f' (by omega) (by omega) (by omega) (by omega)
theorem ans_b (hl : lgR G N s) (hs1 : 1 ≤ s) (x : Int32) (y1 : Int32) {M : Gr} (eM : M = sI N 8 0) : ∃ r, f_X5_answer G X x = some r ∧ f_X12_log_n91 y1 x N 1 = some (r, M) := by
  have hs := hl.2.2.1
  have hl' : lgR G M s := by rw [eM]; exact hl
  unfold f_X5_answer f_X12_log_n91
  rw [← eM, lt_e, i10]
  by_cases h0 : x = 100
  · rw [if_pos h0, if_pos h0, hl'.1, hl'.2.1]; exact ⟨_, rfl, rfl⟩
  · rw [if_neg h0, if_neg h0]
    by_cases h1 : x = 101
    · obtain ⟨r, r1, r2⟩ := cm_lp (X := X) hl' 7 1 fu fu 0 (by omega) (by decide) (by decide)
      have r1 : f_X5_commonest G X = some r := r1
      have r2 : f_X12_mostOften M = some r := r2
      rw [if_pos h1, if_pos h1, r1, bd_s, r2, bd_s]; exact ⟨_, rfl, rfl⟩
    · rw [if_neg h1, if_neg h1]
      by_cases h2 : x = 102
      · obtain ⟨r, r1, r2⟩ := lr_lp (X := X) hl' s 0 fu fu 0 0 (by omega) (by show s < 1000; omega) (by show s < 1000; omega)
        have r1 : f_X5_longestRow G X = some r := r1
        have r2 : f_X12_longestRow M = some r := r2
        rw [if_pos h2, if_pos h2, r1, bd_s, r2, bd_s]; exact ⟨_, rfl, rfl⟩
      · rw [if_neg h2, if_neg h2]
        by_cases h3 : x = 103
        · obtain ⟨r, r1, r2⟩ := tu_lp (X := X) hl' (s - 1) 1 fu fu 0 (by omega) (by omega) (by show s - 1 < 1000; omega) (by show s - 1 < 1000; omega)
          have r1 : f_X5_turns G X = some r := r1
          have r2 : f_X12_turnsOf M = some r := r2
          rw [if_pos h3, if_pos h3, r1, bd_s, r2, bd_s]; exact ⟨_, rfl, rfl⟩
        · rw [if_neg h3, if_neg h3]
          by_cases h4 : x = 104
          · obtain ⟨r, r1, r2⟩ := pe_lp (X := X) hl' (s - 1) 1 fu fu (by omega) (by omega) (by show s - 1 < 1000; omega) (by show s - 1 < 1000; omega)
            have r1 : f_X5_period G X = some r := r1
            have r2 : f_X12_periodOf M = some r := r2
            rw [if_pos h4, if_pos h4, r1, bd_s, r2, bd_s]; exact ⟨_, rfl, rfl⟩
          · obtain ⟨r, r1, r2⟩ := tm_b (X := X) hl' x
            rw [if_neg h4, if_neg h4, r1, bd_s, r2, bd_s]; exact ⟨_, rfl, rfl⟩
end
theorem log_ok : hp_log Inv := by
  intro C M hI x y
  obtain ⟨k, hk⟩ := tpR.of hI.1
  have hk260 := hk.1
  have e0 : (0 : Int32) = zI 0 := rfl
  have same : Inv (va_up (va_up (va_up C 1 (C 1)) 6 (C 6)) 7 (C 7)) M := Inv_keep hI (keepM.rf M) hI.1 rfl rfl rfl rfl
  -- the two ways in
  have way : ∀ ok : Bool, f_X11_log (C 0) (C 1) (C 6) (C 7) x y = f_X11_log_n26 (C 0) x y (C 1) (C 6) (C 7) (b2 ok) → f_X12_log M x y = ((f_X12_in x 1 80).bind fun u1 => if u1 = 0 then (some ((-1), M)) else (if ok = true then f_X12_log_n31 x y M else some ((-1), M))) → ∃ (u : Int32 × Gr × Gr × Gr) (w : Int32 × Gr), f_X11_log (C 0) (C 1) (C 6) (C 7) x y = some u ∧ f_X12_log M x y = some w ∧ u.1 = w.1 ∧ Inv (va_up (va_up (va_up C 1 u.2.1) 6 u.2.2.1) 7 u.2.2.2) w.2 := by
    intro ok E1 E2
    rw [E1, E2]
    unfold f_X11_log_n26
    rw [within_e, in_e, bd_s, bd_s]
    by_cases hx : (1 : Int32) ≤ x ∧ x ≤ 80
    · rw [decide_eq_true hx, b2_t, i10, i10]
      obtain ⟨n, hn1, hn2, rfl⟩ := in_of2 1 80 (by omega) (by omega) hx
      cases ok with
      | false => rw [b2_f, i00, if_neg (by decide)]; exact ⟨_, _, rfl, rfl, rfl, same⟩
      | true =>
        rw [b2_t, i10, if_pos rfl, has_b hk (by omega), bd_s]
        unfold f_X12_log_n31
        by_cases hck : n ≤ k
        · rw [decide_eq_true hck, b2_t, i10, if_pos ((hasm_b hk (by omega)).mpr hck), begin_e, bd_s, lt_e, lt_e]
          have hb := txB_of hk (n := n) (by omega) hck
          obtain ⟨X0, x1, x2, x3, x4, x5⟩ := take_b (X := C 7) hk (n := n) (by omega) hck
          obtain ⟨N0, eN0⟩ : ∃ N0, N0 = sI (sI (sI (sI (sI (sI M 9 0) 10 (zI n)) 14 0) 16 0) 44 0) 45 0 := ⟨_, rfl⟩
          have n1 : ∀ j, j ≠ 9 → j ≠ 10 → j ≠ 14 → j ≠ 16 → j ≠ 44 → j ≠ 45 → N0.1 j = M.1 j := fun j a b c d e f => by rw [eN0, sI_o _ _ _ _ f, sI_o _ _ _ _ e, sI_o _ _ _ _ d, sI_o _ _ _ _ c, sI_o _ _ _ _ b, sI_o _ _ _ _ a]
          have n2 : N0.2 = M.2 := by rw [eN0]; rfl
          have hT : txR X0 N0 (bz (C 1)) n 0 := by
            refine ⟨by omega, ⟨x2, x3, x4, x5⟩, ?_, ?_, fun j hj => ?_⟩
            · rw [eN0]; rfl
            · rw [eN0]; rfl
            · rw [n2]; exact (tp_v hk (by omega)).2.2.2
          have hL : lgR (sI (C 6) 2 0) N0 0 := ⟨rfl, by rw [eN0]; rfl, by omega, fun j hj => by omega⟩
          obtain ⟨X', G', N', q1, -, q3⟩ := row_0 hb hn2 (x1 := zI n) (x2 := y) X0 (sI (C 6) 2 0) N0 0 0 fu fu hT hL (by rw [eN0]; rfl) (by show n - 0 + 1 ≤ 1000; omega) (by show 2 * (n - 0) + 2 ≤ 1000; omega)
          have m1 : ∀ j, (j = 5 ∨ j = 6 ∨ j = 17 ∨ j = 54 ∨ j = 55 ∨ j = 56) → N'.1 j = M.1 j := fun j hj => (q1.1 j (by omega) (by omega) (by omega) (by omega)).trans (n1 j (by omega) (by omega) (by omega) (by omega) (by omega) (by omega))
          have m2 : ∀ j, j ≠ 41 → j ≠ 42 → j ≠ 43 → N'.2 j = M.2 j := fun j a b c => (q1.2 j a b c).trans (by rw [n2])
          have hfin : ∀ A B : Gr, Inv (va_up (va_up (va_up C 1 (sI (C 1) 1 0)) 6 A) 7 B) (sI N' 8 0) := fun A B => emp_of hI (fun j hj => by rw [sI_o _ _ _ _ (by omega)]; exact m1 j hj) (sI_s _ _ _) (fun j hj => by rw [sI_2]; exact m2 j (by omega) (by omega) (by omega)) rfl rfl rfl rfl rfl
          have hM : ((f_X12_readsSpoke N0).bind fun u11 => f_X12_log_n61 (zI n) y fu u11.2 u11.1) = lgA (zI n) y fu fu N0 := rfl
          have hRd : ∀ v G1 X1, (kX5 10).1 (sI (C 6) 2 0) X0 0 = some (v, G1, X1) → f_X5_read (C 6) (C 7) (C 1) (zI n) = some (X1.1 3, G1, X1) := fun v G1 X1 hv => by
            have hv : f_X5_row (sI (C 6) 2 0) X0 0 = some (v, G1, X1) := hv
            unfold f_X5_read
            rw [x1, bd_s, lt_e, hv, bd_s]
          rw [← eN0, hM, empty_e]
          rcases q3 with ⟨i', s', f0', f1', a1, a2, a3, a4, a5, a6, -, a8, a9, a10, a11⟩ | ⟨⟨z, z1, z2, z3, z4⟩, a2, a3⟩
          · obtain ⟨f0', rfl⟩ : ∃ k, f0' = k + 1 := ⟨f0' - 1, by omega⟩
            obtain ⟨f1', rfl⟩ : ∃ k, f1' = k + 1 := ⟨f1' - 1, by omega⟩
            obtain ⟨r, r1, r2⟩ := ans_b (X := X') a3 (by omega) y (zI n) (M := sI N' 8 0) rfl
            have hB : lgB (zI n) y (f0' + 1) (f1' + 1) N' = f_X12_log_n91 (zI n) y N' 1 := B_end hb a2 (by rw [a5]; rfl) (a6 rfl)
            rw [hRd 1 G' X' a10, bd_s, bd_s]
            dsimp only
            rw [a2.2.1.2.2.1, if_pos (by decide), r1, bd_s, a11, hB, r2]
            exact ⟨_, _, rfl, rfl, rfl, hfin _ _⟩
          · have c1 : ¬ (0 : Int32) ≤ zI z := by rw [e0, zI_le (by omega) (by omega) (by omega) (by omega)]; omega
            have d1 : f_X12_log_n91 (zI n) y N' 0 = some (N'.1 11, sI N' 8 0) := by
              unfold f_X12_log_n91
              rw [lt_e, i00]; rfl
            rw [hRd 0 G' X' a2, bd_s, bd_s]
            dsimp only
            rw [z3, if_neg c1, a3, d1, z4]
            exact ⟨_, _, rfl, rfl, rfl, hfin _ _⟩
        · rw [decide_eq_false hck, b2_f, i00, if_neg (fun h => hck ((hasm_b hk (by omega)).mp h))]
          exact ⟨_, _, rfl, rfl, rfl, same⟩
    · rw [decide_eq_false hx, b2_f, i00, i00]; exact ⟨_, _, rfl, rfl, rfl, same⟩
  have E1 : f_X11_log (C 0) (C 1) (C 6) (C 7) x y = if ((0 : Int32) ≤ y ∧ y ≤ 7) then f_X11_log_n26 (C 0) x y (C 1) (C 6) (C 7) 1 else if ((100 : Int32) ≤ y ∧ y ≤ 104) then f_X11_log_n26 (C 0) x y (C 1) (C 6) (C 7) 1 else f_X11_log_n26 (C 0) x y (C 1) (C 6) (C 7) 0 := by
    unfold f_X11_log
    rw [within_e, bd_s, within_e, bd_s]
    by_cases h1 : (0 : Int32) ≤ y ∧ y ≤ 7
    · rw [decide_eq_true h1, b2_t, i10, if_pos h1]
    · rw [decide_eq_false h1, b2_f, i00, if_neg h1]
      by_cases h2 : (100 : Int32) ≤ y ∧ y ≤ 104
      · rw [decide_eq_true h2, b2_t, i10, if_pos h2]
      · rw [decide_eq_false h2, b2_f, i00, if_neg h2]
  have E2 : f_X12_log M x y = ((f_X12_in x 1 80).bind fun u1 => if u1 = 0 then (some ((-1), M)) else (if ((0 : Int32) ≤ y ∧ y ≤ 7) then f_X12_log_n31 x y M else if ((100 : Int32) ≤ y ∧ y ≤ 104) then f_X12_log_n31 x y M else some ((-1), M))) := by
    unfold f_X12_log
    rw [in_e y 0 7, bd_s, in_e y 100 104, bd_s]
    by_cases h1 : (0 : Int32) ≤ y ∧ y ≤ 7
    · rw [decide_eq_true h1, b2_t, i10, if_pos h1]
    · rw [decide_eq_false h1, b2_f, i00, if_neg h1]
      by_cases h2 : (100 : Int32) ≤ y ∧ y ≤ 104
      · rw [decide_eq_true h2, b2_t, i10, if_pos h2]
      · rw [decide_eq_false h2, b2_f, i00, if_neg h2]
  by_cases h1 : (0 : Int32) ≤ y ∧ y ≤ 7
  · rw [if_pos h1] at E1 E2
    exact way true E1 (by rw [E2]; rfl)
  · rw [if_neg h1] at E1 E2
    by_cases h2 : (100 : Int32) ≤ y ∧ y ≤ 104
    · rw [if_pos h2] at E1 E2
      exact way true E1 (by rw [E2]; rfl)
    · rw [if_neg h2] at E1 E2
      exact way false E1 (by rw [E2]; rfl)
