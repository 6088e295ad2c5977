/-! fleets that go on; when -/
def acz (c : Nat) : Int := ([0, 1, 1, 1, 0, -1, -1, -1] : List Int).getD c 0
def alz (c : Nat) : Int := ([-1, -1, 0, 1, 1, 1, 0, -1] : List Int).getD c 0
theorem ac_b : ∀ c : Nat, c < 8 → f_X1_stepAcross (zI c) = some (zI (acz c)) ∧ f_X12_stepAcross (zI c) = some (zI (acz c)) ∧ -1 ≤ acz c ∧ acz c ≤ 1 := by decide +kernel
theorem al_b : ∀ c : Nat, c < 8 → f_X1_stepAlong (zI c) = some (zI (alz c)) ∧ f_X12_stepAlong (zI c) = some (zI (alz c)) ∧ -1 ≤ alz c ∧ alz c ≤ 1 := by decide +kernel
theorem t48 : ∀ c : Nat, c < 8 → (zI c + 4) - (zI c + 4) / 8 * 8 = zI (((c + 4) % 8 : Nat) : Int) := by decide +kernel
theorem onChart_z {x y : Int} (h1 : -100 < x) (h2 : x < 100) (h3 : -100 < y) (h4 : y < 100) : f_X1_onChart (zI x) (zI y) = some (b2 (decide (0 ≤ x ∧ x ≤ 23 ∧ 0 ≤ y ∧ y ≤ 15))) := by
  unfold f_X1_onChart
  have e0 : (0 : Int32) = zI 0 := rfl
  have e23 : (23 : Int32) = zI 23 := rfl
  have e15 : (15 : Int32) = zI 15 := rfl
  have k1 : ((0 : Int32) ≤ zI x ∧ zI x ≤ 23) ↔ (0 ≤ x ∧ x ≤ 23) := by rw [e0, e23, zI_le (by omega) (by omega) (by omega) (by omega), zI_le (by omega) (by omega) (by omega) (by omega)]
  have k2 : ((0 : Int32) ≤ zI y ∧ zI y ≤ 15) ↔ (0 ≤ y ∧ y ≤ 15) := by rw [e0, e15, zI_le (by omega) (by omega) (by omega) (by omega), zI_le (by omega) (by omega) (by omega) (by omega)]
  rw [within_e, bd_s, within_e, bd_s]
  by_cases c1 : 0 ≤ x ∧ x ≤ 23
  · rw [decide_eq_true (k1.mpr c1), b2_t, i10]
    by_cases c2 : 0 ≤ y ∧ y ≤ 15
    · rw [decide_eq_true (k2.mpr c2), b2_t, i10, decide_eq_true (by omega)]; rfl
    · rw [decide_eq_false (fun h => c2 (k2.mp h)), b2_f, i00, decide_eq_false (by omega)]; rfl
  · rw [decide_eq_false (fun h => c1 (k1.mp h)), b2_f, i00, decide_eq_false (by omega)]; rfl
theorem stepOn_z {x y : Int} (h : 0 ≤ x ∧ x < 24 ∧ 0 ≤ y ∧ y < 16) {c : Nat} (hc : c < 8) : f_X12_stepOn (zI (24 * y + x)) (zI c) = some (if 0 ≤ x + acz c ∧ x + acz c ≤ 23 ∧ 0 ≤ y + alz c ∧ y + alz c ≤ 15 then zI (24 * (y + alz c) + (x + acz c)) else -1) := by
  obtain ⟨a1, a2, a3, a4⟩ := ac_b c hc
  obtain ⟨b1, b2', b3, b4⟩ := al_b c hc
  have e0 : (0 : Int32) = zI 0 := rfl
  have e23 : (23 : Int32) = zI 23 := rfl
  have e15 : (15 : Int32) = zI 15 := rfl
  have e24 : (24 : Int32) = zI 24 := rfl
  unfold f_X12_stepOn
  rw [lt_e, pl_rem (by omega) (by omega) (by omega) (by omega), a2, bd_s, lt_e, zI_add, lt_e, pl_div (by omega) (by omega) (by omega) (by omega), b2', bd_s, lt_e, zI_add, in_e, bd_s, in_e, bd_s]
  have k1 : ((0 : Int32) ≤ zI (x + acz c) ∧ zI (x + acz c) ≤ 23) ↔ (0 ≤ x + acz c ∧ x + acz c ≤ 23) := by rw [e0, e23, zI_le (by omega) (by omega) (by omega) (by omega), zI_le (by omega) (by omega) (by omega) (by omega)]
  have k2 : ((0 : Int32) ≤ zI (y + alz c) ∧ zI (y + alz c) ≤ 15) ↔ (0 ≤ y + alz c ∧ y + alz c ≤ 15) := by rw [e0, e15, zI_le (by omega) (by omega) (by omega) (by omega), zI_le (by omega) (by omega) (by omega) (by omega)]
  by_cases c1 : 0 ≤ x + acz c ∧ x + acz c ≤ 23
  · rw [decide_eq_true (k1.mpr c1), b2_t, i10]
    by_cases c2 : 0 ≤ y + alz c ∧ y + alz c ≤ 15
    · rw [decide_eq_true (k2.mpr c2), b2_t, i10, if_pos (by omega), e24, zI_mul, zI_add]
    · rw [decide_eq_false (fun h => c2 (k2.mp h)), b2_f, i00, if_neg (by omega)]
  · rw [decide_eq_false (fun h => c1 (k1.mp h)), b2_f, i00, if_neg (by omega)]
/-- class's sea and the reference's row say the same of what moves -/
def dynR (S N : Gr) (w f : Int32) : Prop := seaDyn (S.1 0) (S.1 1) (S.1 9) (S.1 10) (S.2 4) (S.2 5) (S.2 6) (S.2 8) w f (N.2 0)
/-- nothing but places and courses of fleets is other -/
def mvS (S S' : Gr) : Prop := S'.1 = S.1 ∧ S'.2 2 = S.2 2 ∧ S'.2 3 = S.2 3 ∧ S'.2 4 = S.2 4 ∧ S'.2 7 = S.2 7
def mvM (N N' : Gr) : Prop := N'.1 = N.1 ∧ (∀ j, j ≠ 0 → N'.2 j = N.2 j) ∧ (∀ j, j < 64 → N'.2 0 j = N.2 0 j) ∧ N'.2 0 80 = N.2 0 80 ∧ N'.2 0 81 = N.2 0 81
theorem mvS.rf (S : Gr) : mvS S S := ⟨rfl, rfl, rfl, rfl, rfl⟩
theorem mvM.rf (S : Gr) : mvM S S := ⟨rfl, fun _ _ => rfl, fun _ _ => rfl, rfl, rfl⟩
theorem mvS.tr {A B C : Gr} (h : mvS A B) (k : mvS B C) : mvS A C := ⟨k.1.trans h.1, k.2.1.trans h.2.1, k.2.2.1.trans h.2.2.1, k.2.2.2.1.trans h.2.2.2.1, k.2.2.2.2.trans h.2.2.2.2⟩
theorem mvM.tr {A B C : Gr} (h : mvM A B) (k : mvM B C) : mvM A C := ⟨k.1.trans h.1, fun j hj => (k.2.1 j hj).trans (h.2.1 j hj), fun j hj => (k.2.2.1 j hj).trans (h.2.2.1 j hj), k.2.2.2.1.trans h.2.2.2.1, k.2.2.2.2.trans h.2.2.2.2⟩
theorem move_b {S N : Gr} {w f : Int32} (H : dynR S N w f) (hf : N.1 6 = f) {g : Nat} (hg : g < 8) : ∃ S' N', f_X7_moveFleet S (zI g) = some S' ∧ f_X12_sails N (zI g) = some N' ∧ dynR S' N' w f ∧ mvS S S' ∧ mvM N N' := by
  obtain ⟨a1, a2, a3, a4, ⟨hh, b1, b2', b3, b4⟩, ⟨dd, c1, c2, c3, c4⟩, a7, a8⟩ := id H
  unfold f_X7_moveFleet f_X12_sails
  rw [hasFleet_e, isFleet_e, bd_s, bd_s, hf, a2]
  cases ht : tb f (zI g) with
  | false => rw [b2_f, i00, i00]; exact ⟨_, _, rfl, rfl, H, mvS.rf S, mvM.rf N⟩
  | true =>
    have htw := (tb_z (w := f) (p := g) hg).mp ht
    obtain ⟨x, y, c, d1, d2, d3, d4, d5, d6, d7, d8, d9, d10, d11⟩ := a8 g hg htw
    rw [b2_t, i10, i10, ix64, ix72]
    simp only [rdN (f := S.2 8) (N := 8) hg (by omega), rdN (f := S.2 5) (N := 8) hg (by omega), rdN (f := S.2 6) (N := 8) hg (by omega), rdN (f := N.2 0) (N := 82) (m := 64 + g) (by omega) (by omega), rdN (f := N.2 0) (N := 82) (m := 72 + g) (by omega) (by omega)]
    rw [d10, d11, d7, d8, d9]
    have e8 : (8 : Int32) = zI 8 := rfl
    have em : (-1 : Int32) = zI (-1) := rfl
    by_cases hc : c = 8
    · have q1 : zI c = (8 : Int32) := by rw [hc]; rfl
      rw [if_pos hc, if_pos q1, if_pos em.symm]
      exact ⟨_, _, rfl, rfl, H, mvS.rf S, mvM.rf N⟩
    · have q1 : ¬ zI c = (8 : Int32) := by rw [e8, zI_eq (by omega) (by omega) (by omega) (by omega)]; exact hc
      have q2 : ¬ zI c = (-1 : Int32) := by rw [em, zI_eq (by omega) (by omega) (by omega) (by omega)]; omega
      obtain ⟨k, rfl⟩ : ∃ k : Nat, c = k := ⟨c.toNat, by omega⟩
      have hk : k < 8 := by omega
      obtain ⟨m1, m2, m3, m4⟩ := ac_b k hk
      obtain ⟨n1, n2, n3, n4⟩ := al_b k hk
      rw [if_neg hc, if_neg q1, if_neg q2, m1, bd_s, lt_e, zI_add, n1, bd_s, lt_e, zI_add, onChart_z (by omega) (by omega) (by omega) (by omega), bd_s, stepOn_z ⟨d1, d2, d3, d4⟩ hk, bd_s]
      by_cases hon : 0 ≤ x + acz k ∧ x + acz k ≤ 23 ∧ 0 ≤ y + alz k ∧ y + alz k ≤ 15
      · have q3 : ¬ zI (24 * (y + alz k) + (x + acz k)) = (-1 : Int32) := by rw [em, zI_eq (by omega) (by omega) (by omega) (by omega)]; omega
        rw [decide_eq_true hon, b2_t, i10, if_pos hon, if_neg q3]
        simp only [ckN (N := 8) hg (by omega), ckN (N := 82) (m := 64 + g) (by omega) (by omega), clN (m := g) (by omega), clN (m := 64 + g) (by omega), lt_e]
        refine ⟨_, _, rfl, rfl, ⟨a1, a2, a3, a4, ⟨hh, b1, b2', b3, ?_⟩, ⟨dd, c1, c2, c3, ?_⟩, fun p hp ht s hs => ?_, fun g' hg' ht' => ?_⟩, ⟨rfl, rfl, rfl, rfl, rfl⟩, ⟨rfl, fun j hj => ?_, fun j hj => ?_, ?_, ?_⟩⟩
        · rw [sA_2, if_pos rfl, upd_e, if_neg (by omega)]; exact b4
        · rw [sA_2, if_pos rfl, upd_e, if_neg (by omega)]; exact c4
        · show ∃ t : Int, 0 ≤ t ∧ t ≤ 99 ∧ S.2 4 (8 * p + s) = zI t ∧ upd (N.2 0) (64 + g) _ (8 * p + s) = zI t
          rw [upd_e, if_neg (by omega)]; exact a7 p hp ht s hs
        · show ∃ x' y' c' : Int, 0 ≤ x' ∧ x' < 24 ∧ 0 ≤ y' ∧ y' < 16 ∧ 0 ≤ c' ∧ c' ≤ 8 ∧ upd (S.2 5) g (zI (x + acz k)) g' = zI x' ∧ upd (S.2 6) g (zI (y + alz k)) g' = zI y' ∧ upd (N.2 0) (64 + g) (zI (24 * (y + alz k) + (x + acz k))) (64 + g') = zI (24 * y' + x') ∧ S.2 8 g' = zI c' ∧ upd (N.2 0) (64 + g) (zI (24 * (y + alz k) + (x + acz k))) (72 + g') = zI (if c' = 8 then -1 else c')
          rw [upd_e (N.2 0), upd_e (N.2 0), if_neg (show ¬ 72 + g' = 64 + g by omega)]
          by_cases e : g' = g
          · subst e
            refine ⟨x + acz k, y + alz k, k, by omega, by omega, by omega, by omega, by omega, by omega, ?_, ?_, by rw [if_pos rfl], d10, by rw [if_neg hc]; rw [if_neg hc] at d11; exact d11⟩
            · show upd (S.2 5) g' _ g' = _
              rw [upd_e, if_pos rfl]
            · show upd (S.2 6) g' _ g' = _
              rw [upd_e, if_pos rfl]
          · rw [if_neg (show ¬ 64 + g' = 64 + g by omega)]
            obtain ⟨x', y', c', r1, r2, r3, r4, r5, r6, r7, r8, r9⟩ := a8 g' hg' ht'
            refine ⟨x', y', c', r1, r2, r3, r4, r5, r6, ?_, ?_, r9⟩
            · show upd (S.2 5) g _ g' = _
              rw [upd_e, if_neg e]; exact r7
            · show upd (S.2 6) g _ g' = _
              rw [upd_e, if_neg e]; exact r8
        · rw [sA_2, if_neg hj]
        · rw [sA_2, if_pos rfl, upd_e, if_neg (by omega)]
        · rw [sA_2, if_pos rfl, upd_e, if_neg (by omega)]
        · rw [sA_2, if_pos rfl, upd_e, if_neg (by omega)]
      · rw [decide_eq_false hon, b2_f, i00, if_neg hon, if_pos rfl]
        simp only [ckN (N := 8) hg (by omega), ckN (N := 82) (m := 72 + g) (by omega) (by omega), clN (m := g) (by omega), clN (m := 72 + g) (by omega), lt_e, t48 k hk]
        refine ⟨_, _, rfl, rfl, ⟨a1, a2, a3, a4, ⟨hh, b1, b2', b3, ?_⟩, ⟨dd, c1, c2, c3, ?_⟩, fun p hp ht s hs => ?_, fun g' hg' ht' => ?_⟩, ⟨rfl, rfl, rfl, rfl, rfl⟩, ⟨rfl, fun j hj => ?_, fun j hj => ?_, ?_, ?_⟩⟩
        · rw [sA_2, if_pos rfl, upd_e, if_neg (by omega)]; exact b4
        · rw [sA_2, if_pos rfl, upd_e, if_neg (by omega)]; exact c4
        · show ∃ t : Int, 0 ≤ t ∧ t ≤ 99 ∧ S.2 4 (8 * p + s) = zI t ∧ upd (N.2 0) (72 + g) _ (8 * p + s) = zI t
          rw [upd_e, if_neg (by omega)]; exact a7 p hp ht s hs
        · show ∃ x' y' c' : Int, 0 ≤ x' ∧ x' < 24 ∧ 0 ≤ y' ∧ y' < 16 ∧ 0 ≤ c' ∧ c' ≤ 8 ∧ S.2 5 g' = zI x' ∧ S.2 6 g' = zI y' ∧ upd (N.2 0) (72 + g) (zI (((k + 4) % 8 : Nat) : Int)) (64 + g') = zI (24 * y' + x') ∧ upd (S.2 8) g (zI (((k + 4) % 8 : Nat) : Int)) g' = zI c' ∧ upd (N.2 0) (72 + g) (zI (((k + 4) % 8 : Nat) : Int)) (72 + g') = zI (if c' = 8 then -1 else c')
          rw [upd_e (N.2 0), upd_e (N.2 0), if_neg (show ¬ 64 + g' = 72 + g by omega)]
          by_cases e : g' = g
          · subst e
            refine ⟨x, y, (((k + 4) % 8 : Nat) : Int), d1, d2, d3, d4, by omega, by omega, d7, d8, d9, ?_, ?_⟩
            · show upd (S.2 8) g' _ g' = _
              rw [upd_e, if_pos rfl]
            · rw [if_pos rfl, if_neg (by omega)]
          · rw [if_neg (show ¬ 72 + g' = 72 + g by omega)]
            obtain ⟨x', y', c', r1, r2, r3, r4, r5, r6, r7, r8, r9, r10, r11⟩ := a8 g' hg' ht'
            refine ⟨x', y', c', r1, r2, r3, r4, r5, r6, r7, r8, r9, ?_, r11⟩
            show upd (S.2 8) g _ g' = _
            rw [upd_e, if_neg e]; exact r10
        · rw [sA_2, if_neg hj]
        · rw [sA_2, if_pos rfl, upd_e, if_neg (by omega)]
        · rw [sA_2, if_pos rfl, upd_e, if_neg (by omega)]
        · rw [sA_2, if_pos rfl, upd_e, if_neg (by omega)]
