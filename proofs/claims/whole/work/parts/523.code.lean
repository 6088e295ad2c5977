/-! code -/
theorem qn_pos {P : Nat → Bool} : ∀ N, 0 < qn P N → ∃ j, j < N ∧ P j = true := by
  intro N
  induction N with
  | zero => intro h; exact absurd h (by show ¬ 0 < 0; omega)
  | succ N ih =>
    intro h
    have h : 0 < qn P N + (if P N = true then 1 else 0) := h
    by_cases hp : P N = true
    · exact ⟨N, by omega, hp⟩
    · rw [if_neg hp] at h
      obtain ⟨j, h1, h2⟩ := ih (by omega)
      exact ⟨j, by omega, h2⟩
theorem p2_1 : ∀ d : Nat, (1 : Int) ≤ 2 ^ d := by
  intro d
  induction d with
  | zero => decide
  | succ d ih => rw [Int.pow_succ]; omega
/-- weights: used ones have none in the reference -/
def cdW (D S : Gr) (k : Nat) (B : Int) : Prop := ∀ j, j < k → (D.2 5 j = 0 ∧ ∃ a : Int, 1 ≤ a ∧ a ≤ B ∧ D.2 3 j = zI a ∧ S.2 47 j = zI a) ∨ (¬ D.2 5 j = 0 ∧ S.2 47 j = 0)
def cdL (D S : Gr) (k : Nat) : Prop := ∀ j, j < k → ∃ l : Int, 0 ≤ l ∧ l ≤ j ∧ D.2 4 j = zI l ∧ S.2 48 j = zI l
def rrR (D : Gr) (i : Nat) (cb rb : Int32) : Prop := (rb = -1 ∧ (∃ c : Nat, c < 23 ∧ cb = zI c ∧ ¬ D.2 5 c = 0) ∧ ∀ j, j < i → ¬ D.2 5 j = 0) ∨ ∃ c : Nat, c < i ∧ cb = zI c ∧ rb = zI c ∧ D.2 5 c = 0
theorem rar_lp {D S : Gr} {k : Nat} {B : Int} (hk : k ≤ 22) (hB : B ≤ 1000000) (h : cdW D S k B) (hu : ∃ j, j < k ∧ D.2 5 j = 0) : ∀ (d i f f' : Nat) (cb rb : Int32), i + d = k → d < f → d < f' → rrR D i cb rb → ∃ c, c < k ∧ D.2 5 c = 0 ∧ f_X2_takeRarest_n4 (zI k) f D cb (zI i) = some (zI c, sA D 5 c 1) ∧ f_X12_rarest_n4 S (zI k) f' rb (zI i) = some (zI c) := by
  have e0 : (0 : Int32) = zI 0 := rfl
  intro d
  induction d with
  | zero =>
    intro i f f' cb rb hi hf hf' hr
    obtain ⟨f, rfl⟩ : ∃ k, f = k + 1 := ⟨f - 1, by omega⟩
    obtain ⟨f', rfl⟩ : ∃ k, f' = k + 1 := ⟨f' - 1, by omega⟩
    have hc : zI k ≤ zI i := (leN (by omega) (by omega)).mpr (by omega)
    rcases hr with ⟨r1, r2, r3⟩ | ⟨c, c1, c2, c3, c4⟩
    · obtain ⟨j, j1, j2⟩ := hu
      exact absurd j2 (r3 j (by omega))
    · refine ⟨c, by omega, c4, ?_, ?_⟩
      · rw [f_X2_takeRarest_n4, if_pos hc, c2, ckN (by omega) (by omega), clN (by omega), lt_e]; rfl
      · rw [f_X12_rarest_n4, if_pos hc, c3]
  | succ d ih =>
    intro i f f' cb rb hi hf hf' hr
    obtain ⟨f, rfl⟩ : ∃ k, f = k + 1 := ⟨f - 1, by omega⟩
    obtain ⟨f', rfl⟩ : ∃ k, f' = k + 1 := ⟨f' - 1, by omega⟩
    have hc : ¬ zI k ≤ zI i := fun h => absurd ((leN (by omega) (by omega)).mp h) (by omega)
    rw [f_X2_takeRarest_n4, if_neg hc, f_X12_rarest_n4, if_neg hc, rdN (f := D.2 5) (by omega) (by omega), rdN (f := S.2 47) (by omega) (by omega)]
    simp only [lt_e, zs1]
    rcases h i (by omega) with ⟨u1, a, a1, a2, a3, a4⟩ | ⟨u1, u2⟩
    · have hne : ¬ S.2 47 i = 0 := by rw [a4, e0, zI_eq (by omega) (by omega) (by omega) (by omega)]; omega
      rw [if_pos u1, if_neg hne]
      rcases id hr with ⟨r1, ⟨c, c0, c1, c2⟩, r3⟩ | ⟨c, c1, c2, c3, c4⟩
      · rw [if_pos r1, c1, rdN c0 (by omega), if_neg c2]
        exact ih (i + 1) f f' _ _ (by omega) (by omega) (by omega) (Or.inr ⟨i, by omega, rfl, rfl, u1⟩)
      · have hb : ¬ rb = -1 := by rw [c3]; exact zne1 c (by omega)
        rcases h c (by omega) with ⟨v1, a', b1, b2', b3, b4⟩ | ⟨v1, v2⟩
        · rw [if_neg hb, c2, c3, rdN (by omega) (by omega), if_pos c4, rdN (by omega) (by omega), rdN (by omega) (by omega), rdN (by omega) (by omega), rdN (by omega) (by omega), a3, a4, b3, b4]
          by_cases hle : zI a' ≤ zI a
          · rw [if_pos hle, if_pos hle]
            exact ih (i + 1) f f' _ _ (by omega) (by omega) (by omega) (Or.inr ⟨c, by omega, rfl, rfl, c4⟩)
          · rw [if_neg hle, if_neg hle]
            exact ih (i + 1) f f' _ _ (by omega) (by omega) (by omega) (Or.inr ⟨i, by omega, rfl, rfl, u1⟩)
        · exact absurd c4 v1
    · rw [if_neg u1, if_pos u2]
      refine ih (i + 1) f f' _ _ (by omega) (by omega) (by omega) ?_
      rcases hr with ⟨r1, r2, r3⟩ | ⟨c, c1, c2, c3, c4⟩
      · refine Or.inl ⟨r1, r2, fun j hj => ?_⟩
        by_cases e : j = i
        · rw [e]; exact u1
        · exact r3 j (by omega)
      · exact Or.inr ⟨c, by omega, c2, c3, c4⟩
theorem rar_b {D S : Gr} {k : Nat} {B : Int} (hk : k ≤ 22) (hk1 : 1 ≤ k) (hB : B ≤ 1000000) (h : cdW D S k B) (hu : ∃ j, j < k ∧ D.2 5 j = 0) : ∃ c, c < k ∧ D.2 5 c = 0 ∧ f_X2_takeRarest D (zI k) = some (zI c, sA D 5 c 1) ∧ f_X12_rarest S (zI k) = some (zI c) := by
  have e0 : (0 : Int32) = zI 0 := rfl
  have hc : ¬ zI k ≤ (0 : Int32) := fun h => absurd ((leN (a := k) (b := 0) (by omega) (by omega)).mp h) (by omega)
  have rd0 : ∀ {β : Type} {N : Nat} {g : Nat → Int32} {q : Int32 → Option β}, 0 < N → rd' g N 0 q = q (g 0) := fun hN => rdN (m := 0) hN (by omega)
  rcases h 0 (by omega) with ⟨u1, a, a1, a2, a3, a4⟩ | ⟨u1, u2⟩
  · obtain ⟨c, c1, c2, c3, c4⟩ := rar_lp hk hB h hu (k - 1) 1 fu 999 0 0 (by omega) (by show k - 1 < 1000; omega) (by omega) (Or.inr ⟨0, by omega, rfl, rfl, u1⟩)
    refine ⟨c, c1, c2, c3, ?_⟩
    have hne : ¬ S.2 47 0 = 0 := by rw [a4, e0, zI_eq (by omega) (by omega) (by omega) (by omega)]; omega
    unfold f_X12_rarest
    rw [fuS, f_X12_rarest_n4, if_neg hc, rd0 (by omega), if_neg hne, if_pos rfl, lt_e]
    exact c4
  · obtain ⟨c, c1, c2, c3, c4⟩ := rar_lp hk hB h hu (k - 1) 1 fu 999 0 (-1) (by omega) (by show k - 1 < 1000; omega) (by omega) (Or.inl ⟨rfl, ⟨0, by omega, rfl, u1⟩, fun j hj => by
      have e : j = 0 := by omega
      rw [e]; exact u1⟩)
    refine ⟨c, c1, c2, c3, ?_⟩
    unfold f_X12_rarest
    rw [fuS, f_X12_rarest_n4, if_neg hc, rd0 (by omega), if_pos u2, lt_e]
    exact c4
def unu (D : Gr) (j : Nat) : Bool := decide (D.2 5 j = 0)
theorem cod_lp {T : Gr} {n : Nat} (hn : 2 ≤ n) (hn2 : n ≤ 12) (x3 : Int32) : ∀ (d k f f' : Nat) (D S : Gr) (B : Int) (sg lo : Int32), k + d + 1 = 2 * n → n ≤ k → d < f → d < f' → 1 ≤ B → B * 2 ^ d ≤ 600000 → cdW D S k B → cdL D S k → qn (unu D) k + k = 2 * n → (k = n ∨ lo = S.2 48 (k - 1)) → ∃ r D' S', f_X2_shortestCode_n72 T (zI n) x3 f D sg lo (zI k) = some (r, D') ∧ f_X12_code_n81 (zI n) x3 f' S sg (zI k) = some (r, S') ∧ S'.1 = S.1 ∧ (∀ j, j ≠ 47 → j ≠ 48 → S'.2 j = S.2 j) := by
  have e1 : (1 : Int32) = zI 1 := rfl
  have e2 : (2 : Int32) = zI 2 := rfl
  have e23 : (23 : Int32) = zI ((23 : Nat) : Int) := rfl
  have en : (2 * zI n) - 1 = zI ((2 * n - 1 : Nat) : Int) := by rw [e1, e2, zI_mul, zI_sub]; congr 1; omega
  intro d
  induction d with
  | zero =>
    intro k f f' D S B sg lo hk hkn hf hf' hB1 hB hW hL hq hlo
    obtain ⟨f, rfl⟩ : ∃ k, f = k + 1 := ⟨f - 1, by omega⟩
    obtain ⟨f', rfl⟩ : ∃ k, f' = k + 1 := ⟨f' - 1, by omega⟩
    have hc : zI ((2 * n - 1 : Nat) : Int) ≤ zI k := (leN (by omega) (by omega)).mpr (by omega)
    have hlo : lo = S.2 48 (k - 1) := hlo.resolve_left (by omega)
    obtain ⟨k, rfl⟩ : ∃ j, k = j + 1 := ⟨k - 1, by omega⟩
    rw [f_X2_shortestCode_n72, en, if_pos hc, f_X12_code_n81, en, if_pos hc, zp1, rdN (by omega) (by omega)]
    by_cases h3 : x3 = 0
    · rw [if_pos h3, if_pos h3]; exact ⟨_, _, _, rfl, rfl, rfl, fun _ _ _ => rfl⟩
    · rw [if_neg h3, if_neg h3, hlo]; exact ⟨_, _, _, rfl, rfl, rfl, fun _ _ _ => rfl⟩
  | succ d ih =>
    intro k f f' D S B sg lo hk hkn hf hf' hB1 hB hW hL hq hlo
    obtain ⟨f, rfl⟩ : ∃ k, f = k + 1 := ⟨f - 1, by omega⟩
    obtain ⟨f', rfl⟩ : ∃ k, f' = k + 1 := ⟨f' - 1, by omega⟩
    have hc : ¬ zI ((2 * n - 1 : Nat) : Int) ≤ zI k := fun h => absurd ((leN (by omega) (by omega)).mp h) (by omega)
    have hc2 : ¬ (23 : Int32) ≤ zI k := fun h => by rw [e23] at h; exact absurd ((leN (by omega) (by omega)).mp h) (by omega)
    have hp : (2 : Int) ^ (d + 1) = 2 ^ d * 2 := Int.pow_succ 2 d
    have hp1 : (1 : Int) ≤ 2 ^ d := p2_1 d
    have hB2 : 2 * B * 2 ^ d ≤ 600000 := by rw [hp] at hB; rw [Int.mul_comm 2 B, Int.mul_assoc, Int.mul_comm 2 (2 ^ d)]; exact hB
    have hBB : 2 * B ≤ 600000 := by
      have : 2 * B * 1 ≤ 2 * B * 2 ^ d := Int.mul_le_mul_of_nonneg_left hp1 (by omega)
      omega
    obtain ⟨a, a1, a2, a3, a4⟩ := rar_b (by omega) (by omega) (by omega) hW (by
      obtain ⟨j, j1, j2⟩ := qn_pos (P := unu D) k (by omega)
      exact ⟨j, j1, of_decide_eq_true j2⟩)
    obtain ⟨wa, w1, w2, w3, w4⟩ : ∃ wa : Int, 1 ≤ wa ∧ wa ≤ B ∧ D.2 3 a = zI wa ∧ S.2 47 a = zI wa := by
      rcases hW a a1 with ⟨-, h⟩ | ⟨h, -⟩
      · exact h
      · exact absurd a2 h
    obtain ⟨la, m1, m2, m3, m4⟩ := hL a a1
    have q1 : qn (unu D) k = qn (unu (sA D 5 a 1)) k + 1 := (qn_up (P := unu (sA D 5 a 1)) (Q := unu D) (v := a) (by unfold unu; rw [sA_s, if_pos rfl]; rfl) (by unfold unu; exact decide_eq_true a2) (fun j hj => by unfold unu; rw [sA_s, if_neg hj]) k).1 a1
    rw [f_X2_shortestCode_n72, en, if_neg hc, if_neg hc2, a3, bd_s, f_X12_code_n81, en, if_neg hc, a4, bd_s, rdN (by omega) (by omega), w4, ckN (by omega) (by omega), clN (by omega), lt_e, rdN (by omega) (by omega), sA_o _ _ _ _ _ (by omega), m4, ckN (by omega) (by omega), lt_e, ckN (by omega) (by omega), clN (by omega), lt_e]
    generalize hS3 : sA (sA (sA S 47 k (zI wa)) 48 k (zI la + 1)) 47 a 0 = S3
    have s1 : S3.1 = S.1 := by rw [← hS3]; rfl
    have s2 : ∀ j, j ≠ 47 → j ≠ 48 → S3.2 j = S.2 j := fun j h1 h2 => by rw [← hS3, sA_o _ _ _ _ _ h1, sA_o _ _ _ _ _ h2, sA_o _ _ _ _ _ h1]
    have s3 : ∀ j, S3.2 47 j = if j = a then 0 else if j = k then zI wa else S.2 47 j := fun j => by
      rw [← hS3, sA_s, sA_o _ _ _ _ _ (by omega), sA_s]
    have s4 : ∀ j, S3.2 48 j = if j = k then zI la + 1 else S.2 48 j := fun j => by
      rw [← hS3, sA_o _ _ _ _ _ (by omega), sA_s, sA_o _ _ _ _ _ (by omega)]
    have hW1 : cdW (sA D 5 a 1) S3 k B := fun j hj => by
      rw [sA_s, sA_o _ _ _ _ _ (by omega), s3]
      by_cases e : j = a
      · rw [if_pos e, if_pos e]; exact Or.inr ⟨by decide, rfl⟩
      · rw [if_neg e, if_neg e, if_neg (by omega)]; exact hW j hj
    obtain ⟨b, b1, b2', b3, b4⟩ := rar_b (by omega) (by omega) (by omega) hW1 (by
      obtain ⟨j, j1, j2⟩ := qn_pos (P := unu (sA D 5 a 1)) k (by omega)
      exact ⟨j, j1, of_decide_eq_true j2⟩)
    have hba : b ≠ a := fun e => by
      rw [sA_s, if_pos e] at b2'
      exact absurd b2' (by decide)
    have b5 : D.2 5 b = 0 := by rw [sA_s, if_neg hba] at b2'; exact b2'
    obtain ⟨wb, x1, x2', x3', x4⟩ : ∃ wb : Int, 1 ≤ wb ∧ wb ≤ B ∧ D.2 3 b = zI wb ∧ S.2 47 b = zI wb := by
      rcases hW b b1 with ⟨-, h⟩ | ⟨h, -⟩
      · exact h
      · exact absurd b5 h
    obtain ⟨lb, y1, y2, y3, y4⟩ := hL b b1
    have q2 : qn (unu (sA D 5 a 1)) k = qn (unu (sA (sA D 5 a 1) 5 b 1)) k + 1 := (qn_up (P := unu (sA (sA D 5 a 1) 5 b 1)) (Q := unu (sA D 5 a 1)) (v := b) (by unfold unu; rw [sA_s, if_pos rfl]; rfl) (by unfold unu; exact decide_eq_true b2') (fun j hj => by unfold unu; rw [sA_s (sA D 5 a 1), if_neg hj]) k).1 b1
    show ∃ r D' S', ((f_X2_takeRarest (sA D 5 a 1) (zI k)).bind _) = some (r, D') ∧ _
    rw [b3, bd_s, b4, bd_s]
    generalize hD2 : sA (sA D 5 a 1) 5 b 1 = D2
    have d3 : D2.2 3 = D.2 3 := by rw [← hD2, sA_o _ _ _ _ _ (by omega), sA_o _ _ _ _ _ (by omega)]
    have d4 : D2.2 4 = D.2 4 := by rw [← hD2, sA_o _ _ _ _ _ (by omega), sA_o _ _ _ _ _ (by omega)]
    have d5 : ∀ j, D2.2 5 j = if j = b then 1 else if j = a then 1 else D.2 5 j := fun j => by rw [← hD2, sA_s, sA_s]
    rw [hD2] at q2
    show ∃ r D' S', (rd' (D2.2 3) 23 (zI a) _) = some (r, D') ∧ _
    rw [d3, rdN (by omega) (by omega), w3]
    show ∃ r D' S', (rd' (D.2 3) 23 (zI b) _) = some (r, D') ∧ _
    rw [rdN (by omega) (by omega), x3', zI_add, ckN (by omega) (by omega), clN (by omega)]
    show ∃ r D' S', (lt' (sA D2 3 k (zI (wa + wb))) _) = some (r, D') ∧ _
    rw [lt_e, sA_o _ _ _ _ _ (by omega), d4, rdN (by omega) (by omega), rdN (by omega) (by omega), m3, y3, lt_e, mx_z (by omega) (by omega) (by omega) (by omega), e1, zI_add, ckN (by omega) (by omega), lt_e, ckN (by omega) (by omega), lt_e, ← e1]
    generalize hD3 : sA (sA (sA D2 3 k (zI (wa + wb))) 4 k (zI (max la lb + 1))) 5 k (vp_nar .boolean 0) = D3
    have g3 : ∀ j, D3.2 3 j = if j = k then zI (wa + wb) else D.2 3 j := fun j => by rw [← hD3, sA_o _ _ _ _ _ (by omega), sA_o _ _ _ _ _ (by omega), sA_s, d3]
    have g4 : ∀ j, D3.2 4 j = if j = k then zI (max la lb + 1) else D.2 4 j := fun j => by rw [← hD3, sA_o _ _ _ _ _ (by omega), sA_s, sA_o _ _ _ _ _ (by omega), d4]
    have g5 : ∀ j, D3.2 5 j = if j = k then 0 else if j = b then 1 else if j = a then 1 else D.2 5 j := fun j => by rw [← hD3, sA_s, sA_o _ _ _ _ _ (by omega), sA_o _ _ _ _ _ (by omega), d5]; rfl
    rw [rdN (by omega) (by omega), g3, if_pos rfl, lt_e, rdN (by omega) (by omega), g4, if_pos rfl, lt_e, zs1]
    rw [rdN (by omega) (by omega), rdN (by omega) (by omega), s3, if_neg (by omega), if_pos rfl, s3, if_neg hba, if_neg (by omega), x4, zI_add, ckN (by omega) (by omega), lt_e, sA_o _ _ _ _ _ (by omega), rdN (by omega) (by omega), rdN (by omega) (by omega), s4, if_pos rfl, s4, if_neg (by omega), y4, e1, zI_add, zI_add, max_z (by omega) (by omega) (by omega) (by omega), bd_s, ckN (by omega) (by omega), lt_e, ckN (by omega) (by omega), lt_e, rdN (by omega) (by omega)]
    have em : max (la + 1) (lb + 1) = max la lb + 1 := by omega
    rw [em]
    generalize hS6 : sA (sA (sA S3 47 k (zI (wa + wb))) 48 k (zI (max la lb + 1))) 47 b 0 = S6
    have t1 : S6.1 = S.1 := by rw [← hS6]; exact s1
    have t2 : ∀ j, j ≠ 47 → j ≠ 48 → S6.2 j = S.2 j := fun j h1 h2 => by rw [← hS6, sA_o _ _ _ _ _ h1, sA_o _ _ _ _ _ h2, sA_o _ _ _ _ _ h1]; exact s2 j h1 h2
    have t3 : ∀ j, S6.2 47 j = if j = b then 0 else if j = k then zI (wa + wb) else if j = a then 0 else S.2 47 j := fun j => by
      rw [← hS6, sA_s, sA_o _ _ _ _ _ (by omega), sA_s, s3]
      by_cases e1 : j = b
      · rw [if_pos e1, if_pos e1]
      · rw [if_neg e1, if_neg e1]
        by_cases e2 : j = k
        · rw [if_pos e2, if_pos e2]
        · rw [if_neg e2, if_neg e2, if_neg e2]
    have t4 : ∀ j, S6.2 48 j = if j = k then zI (max la lb + 1) else S.2 48 j := fun j => by
      rw [← hS6, sA_o _ _ _ _ _ (by omega), sA_s, sA_o _ _ _ _ _ (by omega), s4]
      by_cases e2 : j = k
      · rw [if_pos e2, if_pos e2]
      · rw [if_neg e2, if_neg e2, if_neg e2]
    rw [t3, if_neg (by omega), if_pos rfl, lt_e, lt_e]
    obtain ⟨r, D', S', z1, z2, z3, z4⟩ := ih (k + 1) f f' D3 S6 (2 * B) (sg + zI (wa + wb)) (zI (max la lb + 1)) (by omega) (by omega) (by omega) (by omega) (by omega) hB2 (fun j hj => by
      rw [g3, g5, t3]
      by_cases e1 : j = k
      · rw [if_pos e1, if_pos e1, if_neg (show ¬ j = b by omega), if_pos e1]
        exact Or.inl ⟨rfl, wa + wb, by omega, by omega, rfl, rfl⟩
      · rw [if_neg e1, if_neg e1, if_neg e1]
        by_cases e2 : j = b
        · rw [if_pos e2, if_pos e2]; exact Or.inr ⟨by decide, rfl⟩
        · rw [if_neg e2, if_neg e2]
          by_cases e3 : j = a
          · rw [if_pos e3, if_pos e3]; exact Or.inr ⟨by decide, rfl⟩
          · rw [if_neg e3, if_neg e3]
            rcases hW j (by omega) with ⟨h, c, c1, c2, c3, c4⟩ | h
            · exact Or.inl ⟨h, c, c1, by omega, c3, c4⟩
            · exact Or.inr h) (fun j hj => by
      rw [g4, t4]
      by_cases e1 : j = k
      · rw [if_pos e1, if_pos e1]; exact ⟨max la lb + 1, by omega, by omega, rfl, rfl⟩
      · rw [if_neg e1, if_neg e1]; exact hL j (by omega)) (by
      have q3 : qn (unu D3) k = qn (unu D2) k := by
        have hh : ∀ N, N ≤ k → qn (unu D3) N = qn (unu D2) N := by
          intro N
          induction N with
          | zero => intro _; rfl
          | succ N ihN =>
            intro hN
            show qn (unu D3) N + (if unu D3 N = true then 1 else 0) = qn (unu D2) N + (if unu D2 N = true then 1 else 0)
            have : unu D3 N = unu D2 N := by unfold unu; rw [g5, d5, if_neg (show ¬ N = k by omega)]
            rw [ihN (by omega), this]
        exact hh k (Nat.le_refl _)
      have q4 : qn (unu D3) (k + 1) = qn (unu D3) k + (if unu D3 k = true then 1 else 0) := rfl
      have q5 : unu D3 k = true := by unfold unu; rw [g5, if_pos rfl]; rfl
      rw [if_pos q5] at q4
      omega) (Or.inr (by rw [show k + 1 - 1 = k by omega, t4, if_pos rfl]))
    exact ⟨r, D', S', z1, z2, z3.trans t1, fun j h1 h2 => (z4 j h1 h2).trans (t2 j h1 h2)⟩
