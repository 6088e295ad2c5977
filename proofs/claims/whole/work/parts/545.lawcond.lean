/-! law: conditions -/
def testP (b : Nat → Int) (n D o : Nat) : Prop := ∀ (X L N : Gr) (i c0 a0 cm m : Nat) (ty : Nat → Nat) (P : Nat → Prop) (w f0 : Nat), lst X L N b n i c0 a0 cm m [] ty P w o → ty cm = 0 → 1 ≤ w → stopT N w 2 → n - i + 1 ≤ f0 → ∃ X' L' N', lrF c0 L L' ∧ lnF a0 N N' ∧ ((∃ (i' cm' m' : Nat) (ty' : Nat → Nat) (f0' f1' fe : Nat), i < i' ∧ lst X' L' N' b n i' c0 a0 cm' m' [] ty' P w o ∧ ty' cm' = 100 ∧ m' + i ≤ m + i' ∧ skF w N N' ∧ n - i' + 1 ≤ f0' ∧ n - i' + 1 ≤ f1' ∧ o + 1 ≤ fe ∧ (kX4 D).2.1 X L (zI o) = some (1, X', L') ∧ f_X12_readsCondition_n40 f0 N = cE f0' f1' fe N') ∨ (flR X' N' ∧ (kX4 D).2.1 X L (zI o) = some (0, X', L') ∧ f_X12_readsCondition_n40 f0 N = some (0, N')))
def andP (b : Nat → Int) (n D o : Nat) : Prop := ∀ (X L N : Gr) (i c0 a0 cm m : Nat) (ty : Nat → Nat) (P : Nat → Prop) (w f0 : Nat), lst X L N b n i c0 a0 cm m [] ty P w o → ty cm = 0 → 1 ≤ w → (∃ s, stE N (w - 1) s ∧ (s = 12 ∨ s = 13)) → n - i + 1 ≤ f0 → ∃ X' L' N', lrF c0 L L' ∧ lnF a0 N N' ∧ ((∃ (i' cm' m' : Nat) (ty' : Nat → Nat) (g : Nat) (PP : Nat → Prop) (f0' f1' : Nat), i < i' ∧ lst X' L' N' b n i' c0 a0 cm' m' [] ty' PP g o ∧ pnd L' N' c0 a0 cm' w 11 P PP g ∧ ty' cm' = 100 ∧ m' + i ≤ m + i' ∧ skF w N N' ∧ cu b n i' ≠ 38 ∧ n - i' + 1 ≤ f0' ∧ n - i' + 1 ≤ f1' ∧ (kX4 D).1 X L (zI o) 38 = some (1, X', L') ∧ f_X12_readsCondition_n40 f0 N = f_X12_readsCondition_n92 (f_X12_readsCondition_n40 f0') f1' N') ∨ (flR X' N' ∧ (kX4 D).1 X L (zI o) 38 = some (0, X', L') ∧ f_X12_readsCondition_n40 f0 N = some (0, N')))
def orP (b : Nat → Int) (n D o : Nat) : Prop := ∀ (X L N : Gr) (i c0 a0 cm m : Nat) (ty : Nat → Nat) (P : Nat → Prop) (w f0 : Nat), lst X L N b n i c0 a0 cm m [] ty P w o → ty cm = 0 → 1 ≤ w → stE N (w - 1) 13 → n - i + 1 ≤ f0 → ∃ X' L' N', lrF c0 L L' ∧ lnF a0 N N' ∧ ((∃ (i' cm' m' : Nat) (ty' : Nat → Nat) (N'' : Gr) (f0' f1' : Nat), i < i' ∧ txR X' N' b n i' ∧ f_X12_lands N' 1 = some N'' ∧ lnF a0 N' N'' ∧ lst X' L' N'' b n i' c0 a0 cm' m' [] ty' P w o ∧ ty' cm' = 100 ∧ m' + i ≤ m + i' ∧ skF w N N'' ∧ (cu b n i' ≠ 38 ∧ cu b n i' ≠ 124) ∧ n - i' + 1 ≤ f0' ∧ n - i' + 1 ≤ f1' ∧ (kX4 D).1 X L (zI o) 124 = some (1, X', L') ∧ f_X12_readsCondition_n40 f0 N = f_X12_readsCondition_n92 (f_X12_readsCondition_n40 f0') f1' N') ∨ (flR X' N' ∧ (kX4 D).1 X L (zI o) 124 = some (0, X', L') ∧ f_X12_readsCondition_n40 f0 N = some (0, N')))
section
variable {b : Nat → Int} {n : Nat}
theorem al_lp (hb : txB b n) {E o : Nat} (Ht : testP b n E o) {c0 a0 w : Nat} {P : Nat → Prop} (hw1 : 1 ≤ w) : ∀ (d k i f : Nat) (X L N : Gr) (cm m : Nat) (ty : Nat → Nat) (PP : Nat → Prop) (g : Nat) (jm : Int32) (f0 : Nat), n < i + d → k ≤ i → d ≤ f → lst X L N b n i c0 a0 cm m [] ty PP g o → ty cm = 0 → ((g = w ∧ PP = P ∧ jm = -1) ∨ ∃ k : Nat, g = w + 1 ∧ N.2 19 w = zI (1048576 * ((11 : Nat) : Int) + k) ∧ ¬ P k ∧ PP = (fun j => P j ∨ j = k) ∧ jm = zI ((c0 + (k - a0) : Nat) : Int)) → (∃ s, stE N (w - 1) s ∧ (s = 12 ∨ s = 13)) → n - i + 1 ≤ f0 → ∃ X' L' N', lrF c0 L L' ∧ lnF a0 N N' ∧ ((∃ (i' cm' m' : Nat) (ty' : Nat → Nat) (g' : Nat) (PP' : Nat → Prop) (f0' f1' : Nat), i < i' ∧ lst X' L' N' b n i' c0 a0 cm' m' [] ty' PP' g' o ∧ pnd L' N' c0 a0 cm' w 11 P PP' g' ∧ ty' cm' = 100 ∧ m' + i ≤ m + i' ∧ skF w N N' ∧ cu b n i' ≠ 38 ∧ n - i' + 1 ≤ f0' ∧ n - i' + 1 ≤ f1' ∧ f_X4_condition_n6 (kX4 E).1 (kX4 E).2.1 (kX4 E).2.2.1 (kX4 E).2.2.2.1 (kX4 E).2.2.2.2 (zI o) 38 f X L jm (zI k) = some (1, X', L') ∧ f_X12_readsCondition_n40 f0 N = f_X12_readsCondition_n92 (f_X12_readsCondition_n40 f0') f1' N') ∨ (flR X' N' ∧ f_X4_condition_n6 (kX4 E).1 (kX4 E).2.1 (kX4 E).2.2.1 (kX4 E).2.2.2.1 (kX4 E).2.2.2.2 (zI o) 38 f X L jm (zI k) = some (0, X', L') ∧ f_X12_readsCondition_n40 f0 N = some (0, N'))) := by
  have hn := hb.1
  intro d
  induction d with
  | zero => intro k i f X L N cm m ty PP g jm f0 hd _ _ hst; have := hst.1.1; omega
  | succ d ih =>
    intro k i f X L N cm m ty PP g jm f0 hd hki hf hst hty hj htop hf0
    obtain ⟨f, rfl⟩ : ∃ k, f = k + 1 := ⟨f - 1, by omega⟩
    have hi := hst.1.1
    have hgi := hst.2.2.2.2.1
    obtain ⟨s0, t1, t2⟩ := htop
    have e240 : (240 : Int32) = zI ((240 : Nat) : Int) := rfl
    have c1 : ¬ (240 : Int32) < zI k := by rw [e240, ltN (by omega) (by omega)]; omega
    have n124 : ¬ (38 : Int32) = 124 := by decide
    have hPb := hst.2.1.2.2.1
    have hcmb : cm ≤ 240 := by
      obtain ⟨⟨x1, x2, x3, x4, x5, x6⟩, -⟩ := hst.2.1
      have x5 : m = c0 + (cm - a0) := x5
      have := hst.2.2.2.2.2
      omega
    obtain ⟨sT, hgw, st1, st2⟩ : ∃ sT, w ≤ g ∧ stE N (g - 1) sT ∧ 11 ≤ sT := by
      rcases hj with ⟨e1, -⟩ | ⟨k, e1, k2, -, k4, -⟩
      · exact ⟨s0, by omega, by rw [e1]; exact t1, by omega⟩
      · have hk := hPb k (by rw [k4]; exact Or.inr rfl)
        exact ⟨11, by omega, by rw [e1, Nat.add_sub_cancel]; exact ⟨by omega, k, by omega, by omega, k2⟩, by omega⟩
    obtain ⟨X1, L1, N1, r1, r2, r3⟩ := Ht X L N i c0 a0 cm m ty PP g f0 hst hty (by omega) (Or.inr ⟨sT, st1, by omega⟩) hf0
    rw [f_X4_condition_n6, if_neg c1, if_neg n124]
    rcases r3 with ⟨i1, cm1, m1, ty1, f0', f1', fe, u1, u2, u3, u4, u5, u6, u7, u8, u9, u10⟩ | ⟨u1, u2, u3⟩
    · obtain ⟨v1, v2, v3, v4, v5, v6⟩ := id u2
      have hi1 := v1.1
      have hc := cu_b hb i1
      obtain ⟨⟨g1, g2, g3, g4, g5, g6⟩, -⟩ := id v2
      have g5 : m1 = c0 + (cm1 - a0) := g5
      obtain ⟨fe, rfl⟩ : ∃ k, fe = k + 1 := ⟨fe - 1, by omega⟩
      obtain ⟨f1', rfl⟩ : ∃ k, f1' = k + 1 := ⟨f1' - 1, by omega⟩
      have st1' : stE N1 (g - 1) sT := st1.mv (u5 (g - 1) (by omega))
      have t1' : stE N1 (w - 1) s0 := t1.mv (u5 (w - 1) (by omega))
      have hS : cE f0' (f1' + 1) (fe + 1) N1 = f_X12_readsCondition_n92 (f_X12_readsCondition_n40 f0') (f1' + 1) N1 := cE_stop (w := g - 1) (by omega) (by rw [v4]; congr 2; omega) st1' (by omega)
      have hj' : (g = w ∧ PP = P ∧ jm = -1) ∨ ∃ k : Nat, g = w + 1 ∧ N1.2 19 w = zI (1048576 * ((11 : Nat) : Int) + k) ∧ ¬ P k ∧ PP = (fun j => P j ∨ j = k) ∧ jm = zI ((c0 + (k - a0) : Nat) : Int) := by
        rcases hj with e | ⟨k, e1, k2, k3⟩
        · exact Or.inl e
        · exact Or.inr ⟨k, e1, by rw [u5 w (by omega)]; exact k2, k3⟩
      obtain ⟨L2, l1, l2, l3, l4, -⟩ := clj_b (P1 := PP) (by omega) v2 hj' (fun _ h => h)
      rw [u9, bd_s, u10, hS]
      dsimp only
      unfold f_X4_condition_n37
      rw [i10, l1, bd_s, peek_b hb v1, bd_s]
      by_cases q : cu b n i1 = 38
      · have q1 : zI (cu b n i1) = 38 := by rw [q]; rfl
        have hlt : i1 < n := cu_lt (b := b) (by omega)
        obtain ⟨N2, a1, a2, a3, a4, a5, a6⟩ := lnd_a (w := w) (by omega) (by omega) v4 l2 u3 l3 hw1 t1' (by omega)
        have h2 : txR X1 N2 b n i1 := v1.nm (a4 9 (by omega)) (a4 10 (by omega)) (a5 7 (by omega))
        obtain ⟨N3, ty3, b1, b2', b3, b4, b5, b6, b7, b8, b9, b10⟩ := jmp_b hb (s := 11) (⟨h2, a2, (a4 13 (by omega)).trans v3, a3, by omega, v6⟩ : lst X1 L2 N2 b n i1 c0 a0 cm1 m1 [] ty1 P w o) u3 hlt (Or.inl rfl)
        have b1 : f_X12_jumps N2 11 = some N3 := b1
        have b2' : f_X3_writeSign L2 38 = some (wrL L2 m1 (zI (sgOf 11)) 0) := b2'
        have hR : f_X12_readsCondition_n92 (f_X12_readsCondition_n40 f0') (f1' + 1) N1 = f_X12_readsCondition_n40 f0' N3 := by
          have n41 : ¬ zI (cu b n i1) = 41 := by rw [q1]; decide
          have n124' : ¬ zI (cu b n i1) = 124 := by rw [q1]; decide
          rw [f_X12_readsCondition_n92, here_b hb v1, bd_s, if_neg n41, bd_s, if_pos q1]
          unfold f_X12_readsCondition_n180
          rw [here_b hb v1, bd_s, if_neg n124', a1, bd_s, here_b hb h2, bd_s, if_pos q1, b1, bd_s]
        rw [if_pos q1, stp_b hb v1 hlt, bd_s, b2', bd_s, b3, bd_s, lt_e, zs1, hR]
        obtain ⟨X4, L4, N4, p1, p2, p3⟩ := ih (k + 1) (i1 + 1) f _ _ N3 (cm1 + 1) (m1 + 1) ty3 _ (w + 1) (zI ((c0 + (cm1 - a0) : Nat) : Int)) f0' (by omega) (by omega) (by omega) b4 b5 (Or.inr ⟨cm1, rfl, b7, b6, rfl, rfl⟩) ⟨s0, (t1'.mv (by rw [a5 19 (by omega)])).mv (b8 (w - 1) (by omega)), t2⟩ (by omega)
        have K4 : skF w N N3 := (u5.le hgw).tr (skF.tr (fun j hj => by rw [a5 19 (by omega)]) b8)
        refine ⟨X4, L4, N4, r1.tr (l4.tr (b10.tr p1)), r2.tr (a6.tr (b9.tr p2)), ?_⟩
        rcases p3 with ⟨i', cm', m', ty', g', PP', ff0, ff1, w1, w2, w3, w4, w5, w6, w7⟩ | p
        · exact Or.inl ⟨i', cm', m', ty', g', PP', ff0, ff1, by omega, w2, w3, w4, by omega, K4.tr w6, w7⟩
        · exact Or.inr p
      · have q1 : ¬ zI (cu b n i1) = 38 := by
          have e : (38 : Int32) = zI 38 := rfl
          rw [e, zI_eq (by omega) (by omega) (by omega) (by omega)]; exact q
        rw [if_neg q1]
        exact ⟨X1, L2, N1, r1.tr l4, r2, Or.inl ⟨i1, cm1, m1, ty1, g, PP, f0', f1' + 1, u1, ⟨v1, l2, v3, v4, v5, v6⟩, l3, u3, u4, u5.le hgw, q, u6, u7, rfl, rfl⟩⟩
    · rw [u2, bd_s, u3]
      dsimp only
      unfold f_X4_condition_n37
      rw [i00]
      exact ⟨X1, L1, N1, r1, r2, Or.inr ⟨u1, rfl, rfl⟩⟩
theorem and_b (hb : txB b n) {E o : Nat} (Ht : testP b n E o) : andP b n (E + 1) o := by
  intro X L N i c0 a0 cm m ty P w f0 hst hty hw1 htop hf0
  have hn := hb.1
  have hi := hst.1.1
  have hK : (kX4 (E + 1)).1 X L (zI o) 38 = f_X4_condition_n6 (kX4 E).1 (kX4 E).2.1 (kX4 E).2.2.1 (kX4 E).2.2.2.1 (kX4 E).2.2.2.2 (zI o) 38 fu X L (-1) (zI ((0 : Nat) : Int)) := rfl
  rw [hK]
  exact al_lp hb Ht hw1 (n + 1) 0 i fu X L N cm m ty P w (-1) f0 (by omega) (by omega) (by show n + 1 ≤ 1000; omega) hst hty (Or.inl ⟨rfl, rfl, rfl⟩) htop hf0
theorem ol_lp (hb : txB b n) {E o : Nat} (Ha : andP b n E o) {c0 a0 w : Nat} {P : Nat → Prop} (hw1 : 1 ≤ w) : ∀ (d k i f : Nat) (X L N : Gr) (cm m : Nat) (ty : Nat → Nat) (P1 : Nat → Prop) (g1 : Nat) (jm : Int32) (f0 : Nat), n < i + d → k ≤ i → d ≤ f → lst X L N b n i c0 a0 cm m [] ty P1 g1 o → ty cm = 0 → ((g1 = w ∧ P1 = P ∧ jm = -1) ∨ ∃ k : Nat, g1 = w + 1 ∧ N.2 19 w = zI (1048576 * ((12 : Nat) : Int) + k) ∧ ¬ P k ∧ P1 = (fun j => P j ∨ j = k) ∧ jm = zI ((c0 + (k - a0) : Nat) : Int)) → stE N (w - 1) 13 → n - i + 1 ≤ f0 → ∃ X' L' N', lrF c0 L L' ∧ lnF a0 N N' ∧ ((∃ (i' cm' m' : Nat) (ty' : Nat → Nat) (N'' : Gr) (f0' f1' : Nat), i < i' ∧ txR X' N' b n i' ∧ f_X12_lands N' 1 = some N'' ∧ lnF a0 N' N'' ∧ lst X' L' N'' b n i' c0 a0 cm' m' [] ty' P w o ∧ ty' cm' = 100 ∧ m' + i ≤ m + i' ∧ skF w N N'' ∧ (cu b n i' ≠ 38 ∧ cu b n i' ≠ 124) ∧ n - i' + 1 ≤ f0' ∧ n - i' + 1 ≤ f1' ∧ f_X4_condition_n6 (kX4 E).1 (kX4 E).2.1 (kX4 E).2.2.1 (kX4 E).2.2.2.1 (kX4 E).2.2.2.2 (zI o) 124 f X L jm (zI k) = some (1, X', L') ∧ f_X12_readsCondition_n40 f0 N = f_X12_readsCondition_n92 (f_X12_readsCondition_n40 f0') f1' N') ∨ (flR X' N' ∧ f_X4_condition_n6 (kX4 E).1 (kX4 E).2.1 (kX4 E).2.2.1 (kX4 E).2.2.2.1 (kX4 E).2.2.2.2 (zI o) 124 f X L jm (zI k) = some (0, X', L') ∧ f_X12_readsCondition_n40 f0 N = some (0, N'))) := by
  have hn := hb.1
  intro d
  induction d with
  | zero => intro k i f X L N cm m ty PP g jm f0 hd _ _ hst; have := hst.1.1; omega
  | succ d ih =>
    intro k i f X L N cm m ty P1 g1 jm f0 hd hki hf hst hty hj htop hf0
    obtain ⟨f, rfl⟩ : ∃ k, f = k + 1 := ⟨f - 1, by omega⟩
    have hi := hst.1.1
    have hgi := hst.2.2.2.2.1
    have e240 : (240 : Int32) = zI ((240 : Nat) : Int) := rfl
    have c1 : ¬ (240 : Int32) < zI k := by rw [e240, ltN (by omega) (by omega)]; omega
    have hPb := hst.2.1.2.2.1
    have hcmb : cm ≤ 240 := by
      obtain ⟨⟨x1, x2, x3, x4, x5, x6⟩, -⟩ := hst.2.1
      have x5 : m = c0 + (cm - a0) := x5
      have := hst.2.2.2.2.2
      omega
    obtain ⟨sT, hgw, st1, st2⟩ : ∃ sT, (w ≤ g1 ∧ g1 ≤ w + 1) ∧ stE N (g1 - 1) sT ∧ (sT = 12 ∨ sT = 13) := by
      rcases hj with ⟨e1, -⟩ | ⟨k, e1, k2, -, k4, -⟩
      · exact ⟨13, by omega, by rw [e1]; exact htop, by omega⟩
      · have hk := hPb k (by rw [k4]; exact Or.inr rfl)
        exact ⟨12, by omega, by rw [e1, Nat.add_sub_cancel]; exact ⟨by omega, k, by omega, by omega, k2⟩, by omega⟩
    obtain ⟨X1, L1, N1, r1, r2, r3⟩ := Ha X L N i c0 a0 cm m ty P1 g1 f0 hst hty (by omega) ⟨sT, st1, st2⟩ hf0
    rw [f_X4_condition_n6, if_neg c1, if_pos rfl]
    rcases r3 with ⟨i1, cm1, m1, ty1, g, PP, f0', f1', u1, u2, u3, u4, u5, u6, u7, u8, u9, u10, u11⟩ | ⟨u1, u2, u3⟩
    · obtain ⟨v1, v2, v3, v4, v5, v6⟩ := id u2
      have hi1 := v1.1
      have hc := cu_b hb i1
      obtain ⟨⟨z1, z2, z3, z4, z5, z6⟩, -, z8, -⟩ := id v2
      have z5 : m1 = c0 + (cm1 - a0) := z5
      obtain ⟨f1', rfl⟩ : ∃ k, f1' = k + 1 := ⟨f1' - 1, by omega⟩
      have t1' : stE N1 (w - 1) 13 := htop.mv (u6 (w - 1) (by omega))
      have hj' : (g1 = w ∧ P1 = P ∧ jm = -1) ∨ ∃ k : Nat, g1 = w + 1 ∧ N1.2 19 w = zI (1048576 * ((12 : Nat) : Int) + k) ∧ ¬ P k ∧ P1 = (fun j => P j ∨ j = k) ∧ jm = zI ((c0 + (k - a0) : Nat) : Int) := by
        rcases hj with e | ⟨k, e1, k2, k3⟩
        · exact Or.inl e
        · exact Or.inr ⟨k, e1, by rw [u6 w (by omega)]; exact k2, k3⟩
      have hsub : ∀ k, P1 k → PP k := fun k hk => by
        rcases u3 with ⟨-, e⟩ | ⟨k', -, -, -, e, -⟩
        · rw [e]; exact hk
        · rw [e]; exact Or.inl hk
      obtain ⟨L2, l1, l2, l3, l4, l5⟩ := clj_b (P1 := P1) (s := 12) (w := w) (P := P) (by omega) v2 hj' hsub
      have l6 : pnd L2 N1 c0 a0 cm1 g1 11 P1 PP g := by
        rcases u3 with e | ⟨k', e1, e2, e3, e4, e5⟩
        · exact Or.inl e
        · have hk' := z8 k' (by rw [e4]; exact Or.inr rfl)
          exact Or.inr ⟨k', e1, e2, e3, e4, by rw [l5 k' e3 hk'.1]; exact e5⟩
      obtain ⟨N2, a1, a2, a3, a4, a5, a6⟩ := lnd_o (w := w) (P := P) (by omega) (by omega) v4 l2 u4 l3 l6 hw1 t1'
      have h2 : txR X1 N2 b n i1 := v1.nm (a4 9 (by omega)) (a4 10 (by omega)) (a5 7 (by omega))
      have hst2 : lst X1 L2 N2 b n i1 c0 a0 cm1 m1 [] ty1 P w o := ⟨h2, a2, (a4 13 (by omega)).trans v3, a3, by omega, v6⟩
      have K2 : skF w N N2 := skF.tr (u6.le hgw.1) (fun j hj => by rw [a5 19 (by omega)])
      rw [u10, bd_s, u11]
      dsimp only
      unfold f_X4_condition_n37
      rw [i10, l1, bd_s, peek_b hb v1, bd_s]
      by_cases q : cu b n i1 = 124
      · have q1 : zI (cu b n i1) = 124 := by rw [q]; rfl
        have hlt : i1 < n := cu_lt (b := b) (by omega)
        obtain ⟨N3, ty3, b1, b2', b3, b4, b5, b6, b7, b8, b9, b10⟩ := jmp_b hb (s := 12) hst2 u4 hlt (Or.inr rfl)
        have b1 : f_X12_jumps N2 12 = some N3 := b1
        have b2' : f_X3_writeSign L2 124 = some (wrL L2 m1 (zI (sgOf 12)) 0) := b2'
        have hR : f_X12_readsCondition_n92 (f_X12_readsCondition_n40 f0') (f1' + 1) N1 = f_X12_readsCondition_n40 f0' N3 := by
          have n41 : ¬ zI (cu b n i1) = 41 := by rw [q1]; decide
          have n38 : ¬ zI (cu b n i1) = 38 := by rw [q1]; decide
          rw [f_X12_readsCondition_n92, here_b hb v1, bd_s, if_neg n41, bd_s, if_neg n38, bd_s, if_pos q1]
          unfold f_X12_readsCondition_n180
          rw [here_b hb v1, bd_s, if_pos q1, a1, bd_s, here_b hb h2, bd_s, if_neg n38, b1, bd_s]
        rw [if_pos q1, stp_b hb v1 hlt, bd_s, b2', bd_s, b3, bd_s, lt_e, zs1, hR]
        obtain ⟨X4, L4, N4, p1, p2, p3⟩ := ih (k + 1) (i1 + 1) f _ _ N3 (cm1 + 1) (m1 + 1) ty3 _ (w + 1) (zI ((c0 + (cm1 - a0) : Nat) : Int)) f0' (by omega) (by omega) (by omega) b4 b5 (Or.inr ⟨cm1, rfl, b7, b6, rfl, rfl⟩) ((t1'.mv (by rw [a5 19 (by omega)])).mv (b8 (w - 1) (by omega))) (by omega)
        have K4 : skF w N N3 := K2.tr b8
        refine ⟨X4, L4, N4, r1.tr (l4.tr (b10.tr p1)), r2.tr (a6.tr (b9.tr p2)), ?_⟩
        rcases p3 with ⟨i', cm', m', ty', N'', ff0, ff1, w1, w2, w3, w4, w5, w6, w7, w8, w9⟩ | p
        · exact Or.inl ⟨i', cm', m', ty', N'', ff0, ff1, by omega, w2, w3, w4, w5, w6, by omega, K4.tr w8, w9⟩
        · exact Or.inr p
      · have q1 : ¬ zI (cu b n i1) = 124 := by
          have e : (124 : Int32) = zI 124 := rfl
          rw [e, zI_eq (by omega) (by omega) (by omega) (by omega)]; exact q
        rw [if_neg q1]
        exact ⟨X1, L2, N1, r1.tr l4, r2, Or.inl ⟨i1, cm1, m1, ty1, N2, f0', f1' + 1, u1, v1, a1, a6, hst2, u4, u5, K2, ⟨u7, q⟩, u8, u9, rfl, rfl⟩⟩
    · rw [u2, bd_s, u3]
      dsimp only
      unfold f_X4_condition_n37
      rw [i00]
      exact ⟨X1, L1, N1, r1, r2, Or.inr ⟨u1, rfl, rfl⟩⟩
theorem or_b (hb : txB b n) {E o : Nat} (Ha : andP b n E o) : orP b n (E + 1) o := by
  intro X L N i c0 a0 cm m ty P w f0 hst hty hw1 htop hf0
  have hn := hb.1
  have hi := hst.1.1
  have hK : (kX4 (E + 1)).1 X L (zI o) 124 = f_X4_condition_n6 (kX4 E).1 (kX4 E).2.1 (kX4 E).2.2.1 (kX4 E).2.2.2.1 (kX4 E).2.2.2.2 (zI o) 124 fu X L (-1) (zI ((0 : Nat) : Int)) := rfl
  rw [hK]
  exact ol_lp hb Ha hw1 (n + 1) 0 i fu X L N cm m ty P w (-1) f0 (by omega) (by omega) (by show n + 1 ≤ 1000; omega) hst hty (Or.inl ⟨rfl, rfl, rfl⟩) htop hf0
/-- the closing bracket: class and reference -/
theorem clo_b (hb : txB b n) {X L N N'' : Gr} {i c0 a0 cm m w o f0 f1 : Nat} {ty : Nat → Nat} {P : Nat → Prop} (h : txR X N b n i) (hln : f_X12_lands N 1 = some N'') (hF : lnF a0 N N'') (hst : lst X L N'' b n i c0 a0 cm m [] ty P (w + 1) (o + 1)) (hcu : cu b n i ≠ 38 ∧ cu b n i ≠ 124) : (∃ N4, i < n ∧ f_X9_stepOver X 41 = some (1, sI X 2 (zI ((i + 1 : Nat) : Int))) ∧ f_X12_readsCondition_n92 (f_X12_readsCondition_n40 f0) (f1 + 1) N = (if w = 0 then some (1, N4) else cE f0 f1 fu N4) ∧ lst (sI X 2 (zI ((i + 1 : Nat) : Int))) L N4 b n (i + 1) c0 a0 cm m [] ty P w o ∧ skF w N'' N4 ∧ lnF a0 N'' N4) ∨ (f_X9_stepOver X 41 = some (0, sI X 3 (zI (ft 1 i))) ∧ f_X12_readsCondition_n92 (f_X12_readsCondition_n40 f0) (f1 + 1) N = some (0, sI N 11 (zI (ft 1 i)))) := by
  have hn := hb.1
  have hi := h.1
  have hc := cu_b hb i
  obtain ⟨v1, v2, v3, v4, v5, v6⟩ := hst
  rcases over_b hb h 41 (by omega) (by omega) with ⟨a1, a2, a3, -⟩ | ⟨a1, a3, -⟩
  · have a3 : f_X9_stepOver X 41 = _ := a3
    have y : zI (cu b n i) = 41 := by rw [a1]; rfl
    obtain ⟨N4, eN4⟩ : ∃ N4, N4 = sI (sI (sI N'' 15 (zI w)) 13 (zI o)) 9 (zI ((i + 1 : Nat) : Int)) := ⟨_, rfl⟩
    refine Or.inl ⟨N4, a2, a3, ?_, ⟨?_, ?_, ?_, ?_, by omega, by omega⟩, fun j hj => ?_, ?_⟩
    · have e13 : (sI N'' 15 (zI w)).1 13 = zI ((o + 1 : Nat) : Int) := v3
      have e9 : (sI (sI N'' 15 (zI w)) 13 (zI o)).1 9 = zI i := v1.2.2.1
      have e15 : N4.1 15 = zI w := by rw [eN4]; rfl
      have e0 : (0 : Int32) = zI ((0 : Nat) : Int) := rfl
      rw [f_X12_readsCondition_n92, here_b hb h, bd_s, if_pos y, hln, bd_s, v4, zp1, lt_e, e13, zp1, lt_e, e9, zs1, lt_e, ← eN4, e15]
      by_cases w0 : w = 0
      · rw [if_pos w0, if_pos (by rw [w0]; rfl)]
      · rw [if_neg w0, if_neg (by rw [e0, eqN (by omega) (by omega)]; exact w0)]; rfl
    · rw [eN4]; exact v1.nx a2 (sI_s _ _ _) rfl rfl
    · rw [eN4]; exact v2.nm rfl rfl
    · rw [eN4]; rfl
    · rw [eN4]; rfl
    · rw [eN4]; rfl
    · rw [eN4]; exact (lnF.i _ (by omega) _).tr ((lnF.i _ (by omega) _).tr (lnF.i _ (by omega) _))
  · have a3 : f_X9_stepOver X 41 = _ := a3
    have k : ∀ v : Int, 0 ≤ v → v < 256 → cu b n i ≠ v → ¬ zI (cu b n i) = zI v := fun v v0 v1 hne => by rw [zI_eq (by omega) (by omega) (by omega) (by omega)]; exact hne
    have n41 : ¬ zI (cu b n i) = 41 := k 41 (by omega) (by omega) a1
    have n38 : ¬ zI (cu b n i) = 38 := k 38 (by omega) (by omega) hcu.1
    have n124 : ¬ zI (cu b n i) = 124 := k 124 (by omega) (by omega) hcu.2
    have w1 : f_X12_wrongAt N 1 (N.1 9) = _ := wro_b h 1
    refine Or.inr ⟨a3, ?_⟩
    rw [f_X12_readsCondition_n92, here_b hb h, bd_s, if_neg n41, bd_s, if_neg n38, bd_s, if_neg n124, w1, bd_s, zb_0]
end
