/-! law: tests -/
section
variable {b : Nat → Int} {n : Nat}
/-- the second half of a comparison -/
theorem cmp_b (hb : txB b n) {E o s : Nat} (ho : o ≤ 6) (hE : 21 ≤ E) (hs : 7 ≤ s ∧ s ≤ 9) {X L N : Gr} {i c0 a0 cm m w f0 : Nat} {ty : Nat → Nat} {P : Nat → Prop} (hst : lst X L N b n i c0 a0 cm m [] ty P w o) (ht : ty cm = 1) (hT : stopT N w 2) (hlt : i < n) (hf0 : n - i + 1 ≤ f0) : ∃ X' L' N', lrF c0 L L' ∧ lnF a0 N N' ∧ ((∃ (i' cm' m' : Nat) (ty' : Nat → Nat), i < i' ∧ lst X' L' N' b n i' c0 a0 cm' m' [] ty' P w o ∧ ty' cm' = 100 ∧ m' + i ≤ m + i' ∧ skF w N N' ∧ f_X4_test_n150 (kX4 E).1 (kX4 E).2.1 (kX4 E).2.2.1 (kX4 E).2.2.2.1 (kX4 E).2.2.2.2 (zI o) X L (zI (sgOf s)) = some (1, X', L') ∧ (f_X12_readsCompared_n52 N (zI s)) = (f_X12_endsPiece N').bind fun u14 => some (1, u14)) ∨ (flR X' N' ∧ f_X4_test_n150 (kX4 E).1 (kX4 E).2.1 (kX4 E).2.2.1 (kX4 E).2.2.2.1 (kX4 E).2.2.2.2 (zI o) X L (zI (sgOf s)) = some (0, X', L') ∧ f_X12_readsCompared_n52 N (zI s) = some (0, N'))) := by
  obtain ⟨h, he, h13, h15, hw, hm⟩ := hst
  have hn := hb.1
  have hi := h.1
  have ns : ¬ zI (s : Int) = -1 := zne1 s (by omega)
  have hst1 : lst (sI X 2 (zI ((i + 1 : Nat) : Int))) L (sI N 9 (zI ((i + 1 : Nat) : Int))) b n (i + 1) c0 a0 cm m [] ty P w o := ⟨h.nx hlt (sI_s _ _ _) rfl rfl, he.nm rfl rfl, h13, h15, by omega, by omega⟩
  obtain ⟨X1, L1, N1, r1, r2, r3⟩ := rsum_b hb ho hE hst1 (by omega) hT
  unfold f_X4_test_n150 f_X12_readsCompared_n52
  rw [stp_b hb h hlt, bd_s, if_neg ns, h.2.2.1, zs1, lt_e]
  have F1 : lnF a0 N N1 := (lnF.i N (k := 9) (by omega) _).tr r2
  rcases r3 with ⟨i1, cm1, m1, ty1, u1, ⟨v1, v2, v3, v4, v5, v6⟩, u3, u4, u5, u6, u7, u8⟩ | ⟨u1, u2, u3⟩
  · have hi1 := v1.1
    obtain ⟨⟨g1, g2, g3, g4, g5, g6⟩, -⟩ := id v2
    have g5 : m1 = c0 + (cm1 - a0) := g5
    have hnt : f_X12_notes N1 (zI s) 0 = some (ntN N1 cm1 (zI (1048576 * (s : Int) + 0))) := notes_e (by omega) g1 s 0
    have e1 := em_cw v2 s
    have e2 := em_rn (q := []) e1 100 (by omega) ⟨fun h => by omega, fun _ => ⟨by omega, rfl⟩, fun h => by omega⟩
    rw [u7, bd_s, u8, bd_s]
    dsimp only
    rw [i10, i10, wsign_e (by omega) g2, bd_s, hnt, bd_s]
    refine ⟨X1, _, _, r1.tr (lrF.w L1 (by omega) _ _), F1.tr (lnF.nt N1 g4 _), Or.inl ⟨i1, cm1 + 1, m1 + 1, _, by omega, ⟨v1.nm rfl rfl rfl, e2, v3, v4, v5, by omega⟩, tyU_s _ _ _, by omega, fun j hj => ?_, rfl, rfl⟩⟩
    have e3 : (ntN N1 cm1 (zI (1048576 * (s : Int) + 0))).2 19 j = N1.2 19 j := rfl
    rw [e3]; exact u5 j hj
  · rw [u2, bd_s, u3, bd_s]
    dsimp only
    rw [i00, i00]
    exact ⟨X1, L1, N1, r1, F1, Or.inr ⟨u1, rfl, rfl⟩⟩
theorem test_b (hb : txB b n) {E o : Nat} (ho : o ≤ 6) (hE : 21 ≤ E) (Hor : o < 6 → orP b n E (o + 1)) (Hte : o < 6 → testP b n E (o + 1)) : testP b n (E + 1) o := by
  intro X L N i c0 a0 cm m ty P w f0 hst hty hw1 hT hf0
  obtain ⟨h, he, h13, h15, hw, hm⟩ := id hst
  have hn := hb.1
  have hi := h.1
  have hc := cu_b hb i
  obtain ⟨⟨g1, g2, g3, g4, g5, g6⟩, -⟩ := id he
  have g5 : m = c0 + (cm - a0) := g5
  obtain ⟨f0, rfl⟩ : ∃ k, f0 = k + 1 := ⟨f0 - 1, by omega⟩
  have e6 : (6 : Int32) = zI ((6 : Nat) : Int) := rfl
  have hK : (kX4 (E + 1)).2.1 X L (zI o) = fo_X4_test (kX4 E).1 (kX4 E).2.1 (kX4 E).2.2.1 (kX4 E).2.2.2.1 (kX4 E).2.2.2.2 X L (zI o) := rfl
  have kne : ∀ {j : Nat} (v : Int), 0 ≤ v → v < 256 → cu b n j ≠ v → ¬ zI (cu b n j) = zI v := fun {j} v v0 v1 hne => by
    have := cu_b hb j
    rw [zI_eq (by omega) (by omega) (by omega) (by omega)]; exact hne
  rw [hK]
  unfold fo_X4_test
  rw [peek_b hb h, bd_s]
  by_cases q33 : cu b n i = 33
  · have y : zI (cu b n i) = 33 := by rw [q33]; rfl
    have n40 : ¬ zI (cu b n i) = 40 := by rw [y]; decide
    have hlt : i < n := cu_lt (b := b) (by omega)
    rw [if_pos y]
    unfold f_X4_test_n20
    rw [f_X12_readsCondition_n40, here_b hb h, bd_s, if_pos y]
    unfold f_X12_readsCondition_n58
    rw [here_b hb h, bd_s, if_pos y]
    rcases opn_b hb (s := 10) h hlt hw h13 h15 ho (Or.inl rfl) with ⟨eo, a1⟩ | ⟨ho6, N1, a1, a2, a3, a4, a5, a6, a7, a8, a9⟩
    · have a1 : f_X12_opens N 10 = _ := a1
      have c6 : ¬ zI (o : Int) < 6 := by rw [e6, ltN (by omega) (by omega)]; omega
      have w2 : f_X9_fail X 5 = _ := fal_b h 5
      rw [a1, bd_s, if_neg c6, w2, bd_s, zb_0]
      dsimp only
      rw [i00]
      exact ⟨_, L, _, lrF.rf c0 L, lnF.i N (k := 11) (by omega) _, Or.inr ⟨fl_of X N (by omega) (by omega) (by omega), rfl, rfl⟩⟩
    · have a1 : f_X12_opens N 10 = _ := a1
      have c6 : zI (o : Int) < 6 := by rw [e6, ltN (by omega) (by omega)]; exact ho6
      obtain ⟨X2, L2, N2, r1, r2, r3⟩ := Hte ho6 _ L N1 (i + 1) c0 a0 cm m ty P (w + 1) f0 ⟨a2, he.nm a5 a6, a3, a4, by omega, by omega⟩ hty (by omega) (Or.inr ⟨10, a7, by omega⟩) (by omega)
      rw [a1, bd_s, if_pos c6, stp_b hb h hlt, bd_s, if_neg n40, zs1]
      dsimp only
      rw [i10]
      rcases r3 with ⟨i2, cm2, m2, ty2, f0', f1', fe, u1, ⟨v1, v2, v3, v4, v5, v6⟩, u3, u4, u5, u6, u7, u8, u9, u10⟩ | ⟨u1, u2, u3⟩
      · have hi2 := v1.1
        obtain ⟨⟨z1, z2, z3, z4, z5, z6⟩, -⟩ := id v2
        have z5 : m2 = c0 + (cm2 - a0) := z5
        obtain ⟨fe, rfl⟩ : ∃ k, fe = k + 1 := ⟨fe - 1, by omega⟩
        have e33 : (33 : Int32) = zI (sgOf 10) := rfl
        have s10 : stE N2 w 10 := a7.mv (u5 w (by omega))
        obtain ⟨N3, ty3, b1, b2', b3, b4, b5, b6, b7, b8⟩ := cE_not (f0 := f0') (f1 := f1') (fe := fe) (w := w) (o := o) (by omega) (by omega) v4 v3 s10 (em_cw v2 10) u3
        rw [u9, bd_s, u10, b1]
        dsimp only
        rw [i10, e33, wsign_e (by omega) z2, bd_s]
        refine ⟨X2, _, N3, r1.tr (lrF.w L2 (by omega) _ _), (a9 a0).tr (r2.tr b8), Or.inl ⟨i2, cm2 + 1, m2 + 1, ty3, f0', f1', fe, by omega, ⟨v1.nm (b6 9 (by omega) (by omega) (by omega)) (b6 10 (by omega) (by omega) (by omega)) (b7 7 (by omega)), b2', b5, b4, by omega, by omega⟩, b3, by omega, fun j hj => ?_, u6, u7, by omega, rfl, rfl⟩⟩
        rw [b7 19 (by omega), u5 j (by omega)]; exact a8 j hj
      · rw [u2, bd_s, u3]
        dsimp only
        rw [i00]
        exact ⟨X2, L2, N2, r1, (a9 a0).tr r2, Or.inr ⟨u1, rfl, rfl⟩⟩
  · have n33 : ¬ zI (cu b n i) = 33 := kne 33 (by omega) (by omega) q33
    rw [if_neg n33]
    by_cases q40 : cu b n i = 40
    · have y : zI (cu b n i) = 40 := by rw [q40]; rfl
      have hlt : i < n := cu_lt (b := b) (by omega)
      rw [if_pos y]
      unfold f_X4_test_n20
      rw [f_X12_readsCondition_n40, here_b hb h, bd_s, if_neg n33, bd_s, if_pos y]
      unfold f_X12_readsCondition_n58
      rw [here_b hb h, bd_s, if_neg n33]
      rcases opn_b hb (s := 13) h hlt hw h13 h15 ho (Or.inr rfl) with ⟨eo, a1⟩ | ⟨ho6, N1, a1, a2, a3, a4, a5, a6, a7, a8, a9⟩
      · have a1 : f_X12_opens N 13 = _ := a1
        have c6 : ¬ zI (o : Int) < 6 := by rw [e6, ltN (by omega) (by omega)]; omega
        have w2 : f_X9_fail X 5 = _ := fal_b h 5
        rw [a1, bd_s, if_neg c6, w2, bd_s, zb_0]
        dsimp only
        rw [i00]
        exact ⟨_, L, _, lrF.rf c0 L, lnF.i N (k := 11) (by omega) _, Or.inr ⟨fl_of X N (by omega) (by omega) (by omega), rfl, rfl⟩⟩
      · have a1 : f_X12_opens N 13 = _ := a1
        have c6 : zI (o : Int) < 6 := by rw [e6, ltN (by omega) (by omega)]; exact ho6
        obtain ⟨X2, L2, N2, r1, r2, r3⟩ := Hor ho6 _ L N1 (i + 1) c0 a0 cm m ty P (w + 1) f0 ⟨a2, he.nm a5 a6, a3, a4, by omega, by omega⟩ hty (by omega) a7 (by omega)
        rw [a1, bd_s, if_pos c6, stp_b hb h hlt, bd_s, if_pos y, zs1]
        dsimp only
        rw [i10]
        rcases r3 with ⟨i2, cm2, m2, ty2, N3, f0', f1', u1, u2, u3, u4, u5, u6, u7, u8, u9, u10, u11, u12, u13⟩ | ⟨u1, u2, u3⟩
        · have hi2 := u2.1
          obtain ⟨f1', rfl⟩ : ∃ k, f1' = k + 1 := ⟨f1' - 1, by omega⟩
          rw [u12, bd_s, u13]
          dsimp only
          rw [i10]
          rcases clo_b (f0 := f0') (f1 := f1') hb u2 u3 u4 u5 u9 with ⟨N4, c1, c2, c3, c4, c5, c7⟩ | ⟨c1, c2⟩
          · rw [c2, bd_s, c3, if_neg (show ¬ w = 0 by omega)]
            dsimp only
            rw [i10]
            exact ⟨_, L2, N4, r1, (a9 a0).tr (r2.tr (u4.tr c7)), Or.inl ⟨i2 + 1, cm2, m2, ty2, f0', f1', fu, by omega, c4, u6, by omega, fun j hj => by rw [c5 j hj, u8 j (by omega)]; exact a8 j hj, by omega, by omega, by show o + 1 ≤ 1000; omega, rfl, rfl⟩⟩
          · rw [c1, bd_s, c2]
            dsimp only
            rw [i00]
            exact ⟨_, L2, _, r1, (a9 a0).tr (r2.tr (lnF.i N2 (k := 11) (by omega) _)), Or.inr ⟨fl_of X2 N2 (by omega) (by omega) (by omega), rfl, rfl⟩⟩
        · rw [u2, bd_s, u3]
          dsimp only
          rw [i00]
          exact ⟨X2, L2, N2, r1, (a9 a0).tr r2, Or.inr ⟨u1, rfl, rfl⟩⟩
    · have n40 : ¬ zI (cu b n i) = 40 := kne 40 (by omega) (by omega) q40
      obtain ⟨X1, L1, N1, r1, r2, r3⟩ := rsum_b hb ho hE hst (by omega) hT
      rw [if_neg n40, f_X12_readsCondition_n40, here_b hb h, bd_s, if_neg n33, bd_s, if_neg n40]
      unfold f_X12_readsCompared
      rcases r3 with ⟨i1, cm1, m1, ty1, u1, u2, u3, u4, u5, u6, u7, u8⟩ | ⟨u1, u2, u3⟩
      · have v1 := u2.1
        have hi1 := v1.1
        have hc1 := cu_b hb i1
        have hT1 : stopT N1 w 2 := by
          rcases hT with e | ⟨s', s1, s2⟩
          · exact Or.inl e
          · exact Or.inr ⟨s', s1.mv (u5 (w - 1) (by omega)), s2⟩
        rw [u7, bd_s, u8, bd_s]
        dsimp only
        rw [i10, i10, peek_b hb v1, bd_s, here_b hb v1, bd_s, bd_s, bd_s]
        have go : ∀ s : Nat, 7 ≤ s → s ≤ 9 → cu b n i1 = sgOf s → ∃ X' L' N', lrF c0 L L' ∧ lnF a0 N N' ∧ ((∃ (i' cm' m' : Nat) (ty' : Nat → Nat) (f0' f1' fe : Nat), i < i' ∧ lst X' L' N' b n i' c0 a0 cm' m' [] ty' P w o ∧ ty' cm' = 100 ∧ m' + i ≤ m + i' ∧ skF w N N' ∧ n - i' + 1 ≤ f0' ∧ n - i' + 1 ≤ f1' ∧ o + 1 ≤ fe ∧ f_X4_test_n150 (kX4 E).1 (kX4 E).2.1 (kX4 E).2.2.1 (kX4 E).2.2.2.1 (kX4 E).2.2.2.2 (zI o) X1 L1 (zI (cu b n i1)) = some (1, X', L') ∧ ((f_X12_readsCompared_n52 N1 (zI s)).bind fun u12 => if u12.1 = 0 then (some (0, u12.2)) else (f_X12_readsCondition_n92 (f_X12_readsCondition_n40 f0) fu u12.2)) = cE f0' f1' fe N') ∨ (flR X' N' ∧ f_X4_test_n150 (kX4 E).1 (kX4 E).2.1 (kX4 E).2.2.1 (kX4 E).2.2.2.1 (kX4 E).2.2.2.2 (zI o) X1 L1 (zI (cu b n i1)) = some (0, X', L') ∧ ((f_X12_readsCompared_n52 N1 (zI s)).bind fun u12 => if u12.1 = 0 then (some (0, u12.2)) else (f_X12_readsCondition_n92 (f_X12_readsCondition_n40 f0) fu u12.2)) = some (0, N'))) := by
          intro s s7 s9 es
          have hsb : 0 ≤ sgOf s := by
            have : s = 7 ∨ s = 8 ∨ s = 9 := by omega
            rcases this with rfl | rfl | rfl <;> decide
          have hlt1 : i1 < n := cu_lt (b := b) (by omega)
          obtain ⟨X2, L2, N2, p1, p2, p3⟩ := cmp_b (s := s) (f0 := f0 + 1) hb ho hE ⟨s7, s9⟩ u2 (by omega) hT1 hlt1 (by omega)
          rw [es]
          rcases p3 with ⟨i2, cm2, m2, ty2, w1, w2, w3, w4, w5, w6, w7⟩ | ⟨w1, w2, w3⟩
          · have hi2 := w2.1.1
            rw [w6, w7]
            refine ⟨X2, L2, N2, r1.tr p1, r2.tr p2, Or.inl ⟨i2, cm2, m2, ty2, f0, fu, fu, by omega, w2, w3, by omega, u5.tr w5, by omega, by show n - i2 + 1 ≤ 1000; omega, by show o + 1 ≤ 1000; omega, rfl, ?_⟩⟩
            unfold cE f_X12_endsPiece
            cases f_X12_endsPiece_n0 fu N2 with
            | none => rfl
            | some u => rw [bd_s, bd_s, bd_s]; dsimp only; rw [i10]
          · rw [w2, w3, bd_s]
            dsimp only
            rw [i00]
            exact ⟨X2, L2, N2, r1.tr p1, r2.tr p2, Or.inr ⟨w1, rfl, rfl⟩⟩
        by_cases q60 : cu b n i1 = 60
        · have y : zI (cu b n i1) = 60 := by rw [q60]; rfl
          rw [if_pos y, if_pos y]; exact go 7 (by omega) (by omega) q60
        · have n60 : ¬ zI (cu b n i1) = 60 := kne 60 (by omega) (by omega) q60
          rw [if_neg n60, if_neg n60]
          by_cases q62 : cu b n i1 = 62
          · have y : zI (cu b n i1) = 62 := by rw [q62]; rfl
            rw [if_pos y, if_pos y]; exact go 8 (by omega) (by omega) q62
          · have n62 : ¬ zI (cu b n i1) = 62 := kne 62 (by omega) (by omega) q62
            rw [if_neg n62, if_neg n62]
            by_cases q61 : cu b n i1 = 61
            · have y : zI (cu b n i1) = 61 := by rw [q61]; rfl
              rw [if_pos y, if_pos y]; exact go 9 (by omega) (by omega) q61
            · have n61 : ¬ zI (cu b n i1) = 61 := kne 61 (by omega) (by omega) q61
              have w1 : f_X12_wrongAt N1 1 (N1.1 9) = _ := wro_b v1 1
              have w2 : f_X9_fail X1 1 = _ := fal_b v1 1
              have h52 : f_X12_readsCompared_n52 N1 (-1) = some (0, sI N1 11 (zI (ft 1 i1))) := by
                unfold f_X12_readsCompared_n52
                rw [if_pos rfl, w1, bd_s, zb_0]
              rw [if_neg n61, if_neg n61, h52, bd_s, w2, bd_s, zb_0]
              dsimp only
              rw [i00]
              exact ⟨_, L1, _, r1, r2.tr (lnF.i N1 (k := 11) (by omega) _), Or.inr ⟨fl_of X1 N1 (by omega) (by omega) (by omega), rfl, rfl⟩⟩
      · rw [u2, bd_s, u3, bd_s]
        dsimp only
        rw [i00, i00, bd_s]
        dsimp only
        rw [i00]
        exact ⟨X1, L1, N1, r1, r2, Or.inr ⟨u1, rfl, rfl⟩⟩
theorem test_all (hb : txB b n) : ∀ (r o D : Nat), o + r = 6 → 22 + 3 * r ≤ D → testP b n D o := by
  intro r
  induction r with
  | zero =>
    intro o D ho hD
    obtain ⟨E, rfl⟩ : ∃ E, D = E + 1 := ⟨D - 1, by omega⟩
    exact test_b hb (by omega) (by omega) (fun h => by omega) (fun h => by omega)
  | succ r ih =>
    intro o D ho hD
    obtain ⟨E, rfl⟩ : ∃ E, D = E + 1 + 1 + 1 := ⟨D - 3, by omega⟩
    exact test_b hb (by omega) (by omega) (fun _ => or_b hb (and_b hb (ih (o + 1) E (by omega) (by omega)))) (fun _ => ih (o + 1) (E + 1 + 1) (by omega) (by omega))
theorem or_all (hb : txB b n) : orP b n 60 1 := or_b hb (and_b hb (test_all hb 5 1 58 (by omega) (by omega)))
end
