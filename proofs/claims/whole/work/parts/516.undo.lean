theorem tb_and {a b : Int32} {p : Nat} (hp : p < 8) (ha : tw a p) : tb (a &&& b) (zI p) = true ↔ tb b (zI p) = true := by
  rw [tb_z hp, tb_z hp, tw_and hp]
  exact ⟨fun h => h.2, fun h => ⟨ha, h⟩⟩
theorem undo_ok : hp_undo Inv := by
  intro C M hI
  obtain ⟨h1, h2, h3, h4, h5⟩ := id hI
  unfold f_X11_undo f_X12_undo
  rw [h4.1]
  rcases h4.2 with hk | ⟨hk, hd⟩
  · rw [if_pos hk, if_pos hk]
    exact ⟨_, _, rfl, rfl, rfl, h1, h2, h3, h4, h5⟩
  · have hk0 : ¬ M.1 54 = 0 := by rw [hk]; decide
    rw [if_neg hk0, if_neg hk0]
    obtain ⟨S1, a1, a2, a3, a4⟩ := tk1 (K := C 15) 8 0 fu (C 13) (by omega) (by decide)
    obtain ⟨S', b1, b2, b3, b4, b5, b6, b7⟩ := tk2 (K := C 15) 8 0 fu S1 (by omega) (by decide)
    obtain ⟨N, c1, c2, c3, c4, c5, c6, c7⟩ := un_out 8 0 fu M (by omega) (by decide)
    have hT : f_X7_takeBack (C 13) (C 15) = some S' := a1.trans b1
    have hN : f_X12_undo_n11 fu M 0 = some (1, N) := c1
    rw [hT, bd_s, hN]
    refine ⟨_, _, rfl, rfl, rfl, ?_⟩
    obtain ⟨d1, d2, d3, d4, ⟨dh, e1, e2, e3, e4⟩, ⟨dd, f1, f2, f3, f4⟩, d7, d8⟩ := hd
    obtain ⟨g1, g2, g3, g4, g5, g6, g7, g8⟩ := id h2
    have w5 : N.1 5 = M.1 5 := by rw [c2]
    have w6 : N.1 6 = M.1 6 := by rw [c2]
    refine ⟨?_, ?_, ?_, ?_, ?_⟩
    · show tapeOK ((C 1).1 1) ((C 1).2 0) (N.1 8) (N.2 7)
      rw [c2, c3 7 (by omega)]; exact h1
    · show seaDyn (S'.1 0) (S'.1 1) (S'.1 9) (S'.1 10) (S'.2 4) (S'.2 5) (S'.2 6) (S'.2 8) (N.1 5) (N.1 6) (N.2 0)
      rw [w5, w6, b2, b3, a2, b4, b5]
      refine ⟨g1, g2, g3, g4, ⟨dh, e1, e2, e3, c4.trans e4⟩, ⟨dd, f1, f2, f3, c5.trans f4⟩, fun p hp ht s hs => ?_, fun g hg ht => ?_⟩
      · rw [b6 4 (by omega) (by omega) (by omega), a4 p s hp hs, c6 p s hp hs, d1]
        by_cases hb : tb (M.1 55) (zI p) = true
        · rw [if_pos ⟨Nat.zero_le _, hb⟩, if_pos ⟨Nat.zero_le _, (tb_and hp ht).mpr hb⟩]
          exact d7 p hp ((tb_z hp).mp hb) s hs
        · rw [if_neg (fun h : 0 ≤ p ∧ _ => hb h.2), if_neg (fun h : 0 ≤ p ∧ _ => hb ((tb_and hp ht).mp h.2))]
          exact g7 p hp ht s hs
      · obtain ⟨q1, q2, q3⟩ := b7 g hg
        obtain ⟨r1, r2⟩ := c7 g hg
        rw [q1, q2, q3, r1, r2, d2, a3 5 (by omega), a3 6 (by omega), a3 8 (by omega)]
        by_cases hb : tb (M.1 56) (zI g) = true
        · have k1 : (0 ≤ g ∧ tb (M.1 56) (zI g) = true) := ⟨Nat.zero_le _, hb⟩
          have k2 : (0 ≤ g ∧ tb (M.1 6 &&& M.1 56) (zI g) = true) := ⟨Nat.zero_le _, (tb_and hg ht).mpr hb⟩
          simp only [if_pos k1, if_pos k2]
          exact d8 g hg ((tb_z hg).mp hb)
        · have k1 : ¬ (0 ≤ g ∧ tb (M.1 56) (zI g) = true) := fun h => hb h.2
          have k2 : ¬ (0 ≤ g ∧ tb (M.1 6 &&& M.1 56) (zI g) = true) := fun h => hb ((tb_and hg ht).mp h.2)
          simp only [if_neg k1, if_neg k2]
          exact g8 g hg ht
    · show seaFix (S'.2 2) (S'.2 3) (S'.2 7) (N.1 5) (N.1 6) (N.2 3) (N.2 4)
      rw [w5, w6, c3 3 (by omega), c3 4 (by omega), b6 2 (by omega) (by omega) (by omega), b6 3 (by omega) (by omega) (by omega), b6 7 (by omega) (by omega) (by omega), a3 2 (by omega), a3 3 (by omega), a3 7 (by omega)]
      exact h3
    · show keptOK ((C 0).1 12) ((C 15).1 0) ((C 15).1 1) ((C 15).1 9) ((C 15).1 10) ((C 15).2 4) ((C 15).2 5) ((C 15).2 6) ((C 15).2 8) (N.1 54) (N.1 55) (N.1 56) (N.2 2)
      rw [c2, c3 2 (by omega)]; exact h4
    · show lawOK ((C 11).1 0) ((C 11).2 1) ((C 11).2 2) ((C 11).2 3) ((C 11).1 4) ((C 11).2 5) ((C 11).2 6) (N.1 17) (N.2 24) (N.2 25) (N.2 26) (N.2 27) (N.2 28)
      rw [c2, c3 24 (by omega), c3 25 (by omega), c3 26 (by omega), c3 27 (by omega), c3 28 (by omega)]; exact h5
