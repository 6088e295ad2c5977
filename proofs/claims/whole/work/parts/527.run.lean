section
variable {sg vl codes : Nat → Int32} {a b c m : Nat} {ty : Nat → Nat}
theorem run_end (hb : b ≤ 240) (hm : m ≤ 240) (hab : a ≤ b) (hcm : c + (b - a) < m) (hstop : sg (c + (b - a)) = 46) (x1 : Int32) {i f f' : Nat} {L S : Gr} {x3 : Int32} (hi : i ≤ b - a) (hl : lsR L S m sg vl codes) (hr : rnR (ty b) L S x3) : ∃ L' r S', f_X3_run_n19 x1 (f + 1) L (zI ((c + (b - a) : Nat) : Int)) (zI i) = some L' ∧ f_X12_reckonsTo_n16 (zI a) (zI b) (f' + 1) S x3 0 (zI b) = some (r, S') ∧ lF L L' ∧ sF S S' ∧ ocR (ty b) L' r := by
  have e0 : (0 : Int32) = zI ((0 : Nat) : Int) := rfl
  have rd0 : ∀ {β : Type} {N : Nat} {g : Nat → Int32} {q : Int32 → Option β}, 0 < N → rd' g N 0 q = q (g 0) := fun hN => rdN (m := 0) hN (by omega)
  have c1 : ¬ L.1 4 ≤ zI i := by rw [hl.1, leN (by omega) (by omega)]; omega
  have c2 : ¬ zI ((c + (b - a) : Nat) : Int) < 0 := by rw [e0, ltN (by omega) (by omega)]; omega
  have c3 : ¬ L.1 4 ≤ zI ((c + (b - a) : Nat) : Int) := by rw [hl.1, leN (by omega) (by omega)]; omega
  have c4 : zI b ≤ zI b := (leN (by omega) (by omega)).mpr (by omega)
  rw [f_X3_run_n19, if_neg c1, if_pos hr.1, if_neg c2, if_neg c3, rdN (by omega) (by omega), rdN (by omega) (by omega), lt_e, hl.2.1, hstop, if_neg (by decide), if_neg (by decide), if_pos rfl, f_X12_reckonsTo_n16, if_pos c4, rd0 (by omega)]
  refine ⟨L, _, S, rfl, rfl, lF.rf L, sF.rf S, Or.inr ⟨hr.1, ?_⟩⟩
  rcases hr.2 with ⟨r1, r2, r3, r4⟩ | ⟨r1, r2, r3, h, r4, r5⟩
  · exact Or.inl ⟨r1, r2, fun h => r4 0 (by omega)⟩
  · exact Or.inr ⟨r1, h, r4, r5⟩
theorem run_lp (hb : b ≤ 240) (hm : m ≤ 240) (hab : a ≤ b) (hcm : c + (b - a) < m) (hir : ∀ j : Nat, j < b - a → irel (sg (c + j)) (vl (c + j)) (codes (a + j)) ((c : Int) - a)) (hstop : sg (c + (b - a)) = 46) (hty : ityp codes ty a b) (x1 : Int32) : ∀ (d k i f f' : Nat) (L S : Gr) (x3 : Int32), b ≤ k + d → a ≤ k → k ≤ b → i ≤ k - a → d + 1 < f → d < f' → lsR L S m sg vl codes → rnR (ty k) L S x3 → ∃ L' r S', f_X3_run_n19 x1 f L (zI ((c + (k - a) : Nat) : Int)) (zI i) = some L' ∧ f_X12_reckonsTo_n16 (zI a) (zI b) f' S x3 0 (zI k) = some (r, S') ∧ lF L L' ∧ sF S S' ∧ ocR (ty b) L' r := by
  have e0 : (0 : Int32) = zI ((0 : Nat) : Int) := rfl
  intro d
  induction d with
  | zero =>
    intro k i f f' L S x3 hk hak hkb hi hf hf' hl hr
    obtain ⟨f, rfl⟩ : ∃ k, f = k + 1 := ⟨f - 1, by omega⟩
    obtain ⟨f', rfl⟩ : ∃ k, f' = k + 1 := ⟨f' - 1, by omega⟩
    have ek : k = b := by omega
    subst ek
    exact run_end hb hm hab hcm hstop x1 hi hl hr
  | succ d ih =>
    intro k i f f' L S x3 hk hak hkb hi hf hf' hl hr
    obtain ⟨f, rfl⟩ : ∃ k, f = k + 1 := ⟨f - 1, by omega⟩
    obtain ⟨f', rfl⟩ : ∃ k, f' = k + 1 := ⟨f' - 1, by omega⟩
    by_cases hkk : k = b
    · subst hkk
      exact run_end hb hm hab hcm hstop x1 hi hl hr
    obtain ⟨o, v, o1, v1, v2, s1, s2, s3, s4, s5⟩ := hir (k - a) (by omega)
    have eak : a + (k - a) = k := by omega
    rw [eak] at s2
    obtain ⟨o', v', t1, t2, t3, t4, y1, y2, y3, y4, y5⟩ := hty k hak (by omega)
    obtain ⟨rfl, rfl⟩ := cd_inj o1 v1 v2 t1 t3 t4 (s2.symm.trans t2)
    have c1 : ¬ L.1 4 ≤ zI i := by rw [hl.1, leN (by omega) (by omega)]; omega
    have c2 : ¬ zI ((c + (k - a) : Nat) : Int) < 0 := by rw [e0, ltN (by omega) (by omega)]; omega
    have c3 : ¬ L.1 4 ≤ zI ((c + (k - a) : Nat) : Int) := by rw [hl.1, leN (by omega) (by omega)]; omega
    have c4 : ¬ zI b ≤ zI k := fun h => absurd ((leN (by omega) (by omega)).mp h) (by omega)
    have ep : zI ((c + (k - a) + 1 : Nat) : Int) = zI ((c + (k + 1 - a) : Nat) : Int) := by congr 2; omega
    rw [f_X3_run_n19, if_neg c1, if_pos hr.1, if_neg c2, if_neg c3, rdN (by omega) (by omega), rdN (by omega) (by omega), hl.2.1, hl.2.2.1, s1, s3, f_X12_reckonsTo_n16, if_neg c4]
    simp only [lt_e, zs1]
    rw [ep, rdN (f := S.2 24) (by omega) (by omega), rdN (f := S.2 24) (by omega) (by omega), hl.2.2.2.1, s2, cd_rem o1 v1 v2, cd_div o1 v1 v2]
    have go := fun (L2 S2 : Gr) (x : Int32) (kL : lF L L2) (kS : sF S S2) (hr2 : rnR (ty (k + 1)) L2 S2 x) => ih (k + 1) (i + 1) f f' L2 S2 x (by omega) (by omega) (by omega) (by omega) (by omega) (by omega) (hl.mv kL kS) hr2
    have fin : ∀ (L2 S2 : Gr) (x : Int32), lF L L2 → sF S S2 → rnR (ty (k + 1)) L2 S2 x → ∃ L' r S', f_X3_run_n19 x1 f L2 (zI ((c + (k + 1 - a) : Nat) : Int)) (zI ((i + 1 : Nat) : Int)) = some L' ∧ f_X12_reckonsTo_n16 (zI a) (zI b) f' S2 x 0 (zI ((k + 1 : Nat) : Int)) = some (r, S') ∧ lF L L' ∧ sF S S' ∧ ocR (ty b) L' r := fun L2 S2 x kL kS hr2 => by
      obtain ⟨L', r, S', q1, q2, q3, q4, q5⟩ := go L2 S2 x kL kS hr2
      exact ⟨L', r, S', q1, q2, kL.tr q3, kS.tr q4, q5⟩
    have finj : ∀ w : Nat, v = w → k < w → w ≤ b → ty w = 100 → rnR 100 L S x3 → ∃ L' r S', f_X3_run_n19 x1 f L (zI (v + ((c : Int) - a))) (zI ((i + 1 : Nat) : Int)) = some L' ∧ f_X12_reckonsTo_n16 (zI a) (zI b) f' S x3 0 (0 + zI v) = some (r, S') ∧ lF L L' ∧ sF S S' ∧ ocR (ty b) L' r := fun w hw h1 h2 h3 h4 => by
      have j1 : zI (v + ((c : Int) - a)) = zI ((c + (w - a) : Nat) : Int) := by congr 1; omega
      have j2 : 0 + zI v = zI w := by rw [Int32.zero_add, hw]
      rw [j1, j2]
      obtain ⟨L', r, S', q1, q2, q3, q4, q5⟩ := ih w (i + 1) f f' L S x3 (by omega) (by omega) h2 (by omega) (by omega) (by omega) hl (by rw [h3]; exact h4)
      exact ⟨L', r, S', q1, q2, q3, q4, q5⟩
    have ho : o = 0 ∨ o = 1 ∨ (2 ≤ o ∧ o ≤ 6) ∨ (7 ≤ o ∧ o ≤ 9) ∨ o = 10 ∨ o = 11 ∨ o = 12 := by omega
    rcases ho with rfl | rfl | ho | ho | rfl | rfl | rfl
    · -- a number
      obtain ⟨z1, z2⟩ := y1 (by omega)
      rcases hr.2 with ⟨r1, r2, r3, r4⟩ | ⟨r1, -⟩
      · have es : zI (sgOf 0) = 110 := rfl
        have eo : zI ((0 : Nat) : Int) = 0 := rfl
        rw [es, eo, if_neg (by decide), if_neg (by decide), if_neg (by decide), if_neg (by decide), if_neg (by decide), if_neg (by decide), if_neg (by decide), if_pos rfl, if_neg (by omega), hup_b z1 r2, bd_s, if_pos rfl]
        unfold f_X12_reckonsTo_n63
        rw [if_pos rfl, r3, ckN (by omega) (by omega), clN (by omega), lt_e, lt_e, zs1]
        refine fin _ _ _ ⟨fun j h1 h2 h3 => by rw [sI_o _ _ _ _ h1]; rfl, fun j hj => by rw [sI_2, sA_o _ _ _ _ _ hj]⟩ ⟨rfl, fun j hj => sA_o _ _ _ _ _ hj⟩ ⟨by rw [sI_o _ _ _ _ (by omega)]; exact hr.1, Or.inl ⟨by omega, by rw [sI_s, z2], by rw [z2], fun j hj => ?_⟩⟩
        rw [sI_2, sA_s, sA_s]
        by_cases e : j = ty k
        · rw [if_pos e, if_pos e]
        · rw [if_neg e, if_neg e]; exact r4 j (by omega)
      · omega
    · -- a letter
      obtain ⟨z1, z2⟩ := y1 (by omega)
      have hv := s4 rfl
      rcases hr.2 with ⟨r1, r2, r3, r4⟩ | ⟨r1, -⟩
      · have es : zI (sgOf 1) = 108 := rfl
        have eo : zI ((1 : Nat) : Int) = 1 := rfl
        obtain ⟨u, rfl⟩ : ∃ u : Nat, v = u := ⟨v.toNat, by omega⟩
        have d1 : ¬ zI (u : Int) < 0 := by rw [e0, ltN (by omega) (by omega)]; omega
        have d2 : ¬ (10 : Int32) ≤ zI (u : Int) := by
          have e10 : (10 : Int32) = zI ((10 : Nat) : Int) := rfl
          rw [e10, leN (by omega) (by omega)]; omega
        rw [es, eo, if_neg (by decide), if_neg (by decide), if_neg (by decide), if_neg (by decide), if_neg (by decide), if_neg (by decide), if_pos rfl, if_neg (show ¬ ((1 : Nat) = 11 ∨ (1 : Nat) = 12) by omega), if_neg d1, if_neg d2, rdN (by omega) (by omega), hup_b z1 r2, bd_s, if_neg (by decide), if_pos rfl]
        unfold f_X12_reckonsTo_n63
        rw [if_neg (by decide), rdN (by omega) (by omega), r3, ckN (by omega) (by omega), clN (by omega), lt_e, lt_e, zs1]
        refine fin _ _ _ ⟨fun j h1 h2 h3 => by rw [sI_o _ _ _ _ h1]; rfl, fun j hj => by rw [sI_2, sA_o _ _ _ _ _ hj]⟩ ⟨rfl, fun j hj => sA_o _ _ _ _ _ hj⟩ ⟨by rw [sI_o _ _ _ _ (by omega)]; exact hr.1, Or.inl ⟨by omega, by rw [sI_s, z2], by rw [z2], fun j hj => ?_⟩⟩
        rw [sI_2, sA_s, sA_s]
        by_cases e : j = ty k
        · rw [if_pos e, if_pos e]; exact hl.2.2.2.2 u (by omega)
        · rw [if_neg e, if_neg e]; exact r4 j (by omega)
      · omega
    · -- reckoning
      obtain ⟨z1, z2, z3⟩ := y2 ho
      rcases hr.2 with ⟨r1, r2, r3, r4⟩ | ⟨r1, -⟩
      · obtain ⟨t, et⟩ : ∃ t, ty k = t + 2 := ⟨ty k - 2, by omega⟩
        have et1 : ty (k + 1) = t + 1 := by omega
        rw [et] at r2 r3
        have p1 : x3 - 1 = zI ((t + 1 : Nat) : Int) := by rw [r3]; exact zp1 (t + 1)
        have nO : ∀ q : Nat, q ≠ o → q < 100 → ¬ zI (o : Int) = zI (q : Int) := fun q hq hq2 h => hq ((eqN (by omega) (by omega)).mp h).symm
        have n0 : ¬ zI (o : Int) = 0 := nO 0 (by omega) (by omega)
        have n1 : ¬ zI (o : Int) = 1 := nO 1 (by omega) (by omega)
        have n10 : ¬ zI (o : Int) = 10 := nO 10 (by omega) (by omega)
        have n11 : ¬ zI (o : Int) = 11 := nO 11 (by omega) (by omega)
        have n12 : ¬ zI (o : Int) = 12 := nO 12 (by omega) (by omega)
        have sgc : ∀ o : Nat, 2 ≤ o → o ≤ 6 → ¬ zI (sgOf o) = 33 ∧ ¬ zI (sgOf o) = 38 ∧ ¬ zI (sgOf o) = 46 ∧ ¬ zI (sgOf o) = 60 ∧ ¬ zI (sgOf o) = 61 ∧ ¬ zI (sgOf o) = 62 ∧ ¬ zI (sgOf o) = 108 ∧ ¬ zI (sgOf o) = 110 ∧ ¬ zI (sgOf o) = 124 := fun o h1 h2 => by
          have hoo : o = 2 ∨ o = 3 ∨ o = 4 ∨ o = 5 ∨ o = 6 := by omega
          rcases hoo with rfl | rfl | rfl | rfl | rfl <;> decide
        obtain ⟨g1, g2, g3, g4, g5, g6, g7, g8, g9⟩ := sgc o ho.1 ho.2
        have ht1 : L.2 8 (t + 1) = S.2 29 (t + 1) := r4 (t + 1) (by omega)
        have ht0 : L.2 8 t = S.2 29 t := r4 t (by omega)
        rw [if_neg g1, if_neg g2, if_neg g3, if_neg g4, if_neg g5, if_neg g6, if_neg g7, if_neg g8, if_neg g9, if_neg n0, if_neg n1, if_neg n10, if_neg n11, if_neg n12, p1]
        have r203 : ∀ z, f_X12_reckon (zI o) (L.2 8 t) (L.2 8 (t + 1)) = some z → f_X12_reckonsTo_n203 (zI a) (zI b) (f_X12_reckonsTo_n16 (zI a) (zI b) f') S (zI ((t + 1 : Nat) : Int)) 0 (zI ((k + 1 : Nat) : Int)) (zI o) = f_X12_reckonsTo_n16 (zI a) (zI b) f' (sA S 29 t z) (zI ((t + 1 : Nat) : Int)) 0 (zI ((k + 1 : Nat) : Int)) := fun z hz => by
          unfold f_X12_reckonsTo_n203
          rw [zp1, rdN (by omega) (by omega), rdN (by omega) (by omega), ← ht0, ← ht1, hz, bd_s, ckN (by omega) (by omega), clN (by omega), lt_e]
        have rr : ∀ {α : Type} (A B : Option α), 2 ≤ o → (if zI (o : Int) = 5 then (rd' (S.2 29) 260 (zI ((t + 1 : Nat) : Int)) fun v17 => if v17 = 0 then A else B) else (if zI (o : Int) = 6 then (rd' (S.2 29) 260 (zI ((t + 1 : Nat) : Int)) fun v20 => if v20 = 0 then A else B) else B)) = (if 5 ≤ o ∧ L.2 8 (t + 1) = 0 then A else B) := fun A B _ => by
          rw [rdN (by omega) (by omega), ← ht1]
          by_cases h5 : o = 5
          · have e5 : zI (o : Int) = 5 := by rw [h5]; rfl
            rw [if_pos e5]
            by_cases h0 : L.2 8 (t + 1) = 0
            · rw [if_pos h0, if_pos ⟨by omega, h0⟩]
            · rw [if_neg h0, if_neg (fun h => h0 h.2)]
          · have e5 : ¬ zI (o : Int) = 5 := nO 5 (Ne.symm h5) (by omega)
            rw [if_neg e5]
            by_cases h6 : o = 6
            · have e6 : zI (o : Int) = 6 := by rw [h6]; rfl
              rw [if_pos e6]
              by_cases h0 : L.2 8 (t + 1) = 0
              · rw [if_pos h0, if_pos ⟨by omega, h0⟩]
              · rw [if_neg h0, if_neg (fun h => h0 h.2)]
            · have e6 : ¬ zI (o : Int) = 6 := nO 6 (Ne.symm h6) (by omega)
              rw [if_neg e6, if_neg (fun h => by omega)]
        rw [rr _ _ ho.1]
        rcases rk_b (L := L) (t := t) (o := o) (by omega) r2 ho.1 ho.2 with ⟨k1, k2, k3⟩ | ⟨k1, z, k2, k3⟩
        · rw [k3, bd_s, if_pos ⟨k1, k2⟩]
          obtain ⟨f, rfl⟩ : ∃ k, f = k + 1 := ⟨f - 1, by omega⟩
          have w4 : (sI (sI L 9 (zI ((t + 1 : Nat) : Int))) 11 1).1 4 = zI m := by rw [sI_o _ _ _ _ (by omega), sI_o _ _ _ _ (by omega)]; exact hl.1
          have w5 : ¬ (sI (sI L 9 (zI ((t + 1 : Nat) : Int))) 11 1).1 11 = 0 := by rw [sI_s]; decide
          refine ⟨sI (sI L 9 (zI ((t + 1 : Nat) : Int))) 11 1, 0, S, ?_, rfl, ⟨fun j h1 h2 h3 => by rw [sI_o _ _ _ _ h3, sI_o _ _ _ _ h1], fun j hj => rfl⟩, sF.rf S, Or.inl ⟨sI_s _ _ _, rfl⟩⟩
          rw [f_X3_run_n19, if_neg w5]
          by_cases q : (sI (sI L 9 (zI ((t + 1 : Nat) : Int))) 11 1).1 4 ≤ zI ((i + 1 : Nat) : Int)
          · rw [if_pos q]
          · rw [if_neg q]
        · rw [k3, bd_s, if_neg k1, r203 z k2]
          refine fin _ _ _ ⟨fun j h1 h2 h3 => by rw [sA_1, sI_o _ _ _ _ h1], fun j hj => by rw [sA_o _ _ _ _ _ hj, sI_2]⟩ ⟨rfl, fun j hj => sA_o _ _ _ _ _ hj⟩ ⟨by rw [sA_1, sI_o _ _ _ _ (by omega)]; exact hr.1, Or.inl ⟨by omega, by rw [sA_1, sI_s, et1], by rw [et1], fun j hj => ?_⟩⟩
          rw [sA_s, sA_s, sI_2]
          by_cases e : j = t
          · rw [if_pos e, if_pos e]
          · rw [if_neg e, if_neg e]; exact r4 j (by omega)
      · omega
    · -- comparing
      obtain ⟨z1, z2⟩ := y3 ho
      rcases hr.2 with ⟨r1, r2, r3, r4⟩ | ⟨r1, -⟩
      · rw [z1] at r2 r3
        have p1 : x3 - 1 = 1 := by rw [r3]; rfl
        have nO : ∀ q : Nat, q ≠ o → q < 100 → ¬ zI (o : Int) = zI (q : Int) := fun q hq hq2 h => hq ((eqN (by omega) (by omega)).mp h).symm
        have n0 : ¬ zI (o : Int) = 0 := nO 0 (by omega) (by omega)
        have n1 : ¬ zI (o : Int) = 1 := nO 1 (by omega) (by omega)
        have n5 : ¬ zI (o : Int) = 5 := nO 5 (by omega) (by omega)
        have n6 : ¬ zI (o : Int) = 6 := nO 6 (by omega) (by omega)
        have n10 : ¬ zI (o : Int) = 10 := nO 10 (by omega) (by omega)
        have n11 : ¬ zI (o : Int) = 11 := nO 11 (by omega) (by omega)
        have n12 : ¬ zI (o : Int) = 12 := nO 12 (by omega) (by omega)
        obtain ⟨h, h1, h2⟩ := cm_b (L := L) (o := o) r2 ho.1 ho.2
        have rd0 : ∀ {β : Type} {N : Nat} {g : Nat → Int32} {q : Int32 → Option β}, 0 < N → rd' g N 0 q = q (g 0) := fun hN => rdN (m := 0) hN (by omega)
        have rd1 : ∀ {β : Type} {N : Nat} {g : Nat → Int32} {q : Int32 → Option β}, 1 < N → rd' g N 1 q = q (g 1) := fun hN => rdN (m := 1) hN (by omega)
        have ck0 : ∀ {β : Type} {q : Option β}, ck' 260 0 q = q := fun {β} {q} => ckN (m := 0) (by omega) (by omega)
        have cl0 : Int32.toNatClampNeg 0 = 0 := rfl
        have d1 : (1 : Int32) - 1 = 0 := rfl
        have r203 : f_X12_reckonsTo_n203 (zI a) (zI b) (f_X12_reckonsTo_n16 (zI a) (zI b) f') S 1 0 (zI ((k + 1 : Nat) : Int)) (zI o) = f_X12_reckonsTo_n16 (zI a) (zI b) f' (sA S 29 0 (b2 h)) 1 0 (zI ((k + 1 : Nat) : Int)) := by
          unfold f_X12_reckonsTo_n203
          rw [d1, rd0 (by omega), rd1 (by omega), ← r4 0 (by omega), ← r4 1 (by omega), h2, bd_s, ck0, cl0, lt_e]
        rw [if_neg n0, if_neg n1, if_neg n10, if_neg n11, if_neg n12, p1, if_neg n5, if_neg n6, r203, h1]
        have hch : ∀ (A B C D E F G H : Option Gr) (K : Option Gr), (if zI (sgOf o) = 33 then A else if zI (sgOf o) = 38 then B else if zI (sgOf o) = 46 then C else if zI (sgOf o) = 60 then K else if zI (sgOf o) = 61 then K else if zI (sgOf o) = 62 then K else if zI (sgOf o) = 108 then D else if zI (sgOf o) = 110 then E else if zI (sgOf o) = 124 then F else G) = K := fun A B C D E F G H K => by
          have hoo : o = 7 ∨ o = 8 ∨ o = 9 := by omega
          rcases hoo with rfl | rfl | rfl
          · have es : zI (sgOf 7) = 60 := rfl
            rw [es, if_neg (by decide), if_neg (by decide), if_neg (by decide), if_pos rfl]
          · have es : zI (sgOf 8) = 62 := rfl
            rw [es, if_neg (by decide), if_neg (by decide), if_neg (by decide), if_neg (by decide), if_neg (by decide), if_pos rfl]
          · have es : zI (sgOf 9) = 61 := rfl
            rw [es, if_neg (by decide), if_neg (by decide), if_neg (by decide), if_neg (by decide), if_pos rfl]
        rw [hch _ _ _ _ _ _ _ none _, bd_s]
        refine fin _ _ _ ⟨fun j h1 h2 h3 => by rw [sI_o _ _ _ _ h2, sI_o _ _ _ _ h1], fun j hj => rfl⟩ ⟨rfl, fun j hj => sA_o _ _ _ _ _ hj⟩ ⟨by rw [sI_o _ _ _ _ (by omega), sI_o _ _ _ _ (by omega)]; exact hr.1, Or.inr ⟨z2, by rw [sI_o _ _ _ _ (by omega), sI_s], rfl, h, sI_s _ _ _, by rw [sA_s, if_pos rfl]⟩⟩
      · omega
    · -- not
      obtain ⟨z1, z2⟩ := y4 rfl
      rcases hr.2 with ⟨r1, -⟩ | ⟨r1, r2, r3, h, r4, r5⟩
      · omega
      · have es : zI (sgOf 10) = 33 := rfl
        have eo : zI ((10 : Nat) : Int) = 10 := rfl
        have rd0 : ∀ {β : Type} {N : Nat} {g : Nat → Int32} {q : Int32 → Option β}, 0 < N → rd' g N 0 q = q (g 0) := fun hN => rdN (m := 0) hN (by omega)
        have ck0 : ∀ {β : Type} {q : Option β}, ck' 260 0 q = q := fun {β} {q} => ckN (m := 0) (by omega) (by omega)
        have cl0 : Int32.toNatClampNeg 0 = 0 := rfl
        have d1 : (1 : Int32) - 1 = 0 := rfl
        rw [es, eo, if_pos (show (33 : Int32) = 33 from rfl), if_neg (show ¬ (10 : Int32) = 0 by decide), if_neg (show ¬ (10 : Int32) = 1 by decide), if_pos (show (10 : Int32) = 10 from rfl), r3, d1, rd0 (by omega), r5, ck0, cl0, r4]
        have nx : ∀ h' : Bool, 1 - b2 h = b2 h' → ∃ L' r S', f_X3_run_n19 x1 f (sI L 10 (b2 h')) (zI ((c + (k + 1 - a) : Nat) : Int)) (zI ((i + 1 : Nat) : Int)) = some L' ∧ f_X12_reckonsTo_n16 (zI a) (zI b) f' (sA S 29 0 (1 - b2 h)) 1 0 (zI ((k + 1 : Nat) : Int)) = some (r, S') ∧ lF L L' ∧ sF S S' ∧ ocR (ty b) L' r := fun h' e => by
          rw [e]
          exact fin _ _ _ ⟨fun j h1 h2 h3 => by rw [sI_o _ _ _ _ h2], fun j hj => rfl⟩ ⟨rfl, fun j hj => sA_o _ _ _ _ _ hj⟩ ⟨by rw [sI_o _ _ _ _ (by omega)]; exact hr.1, Or.inr ⟨z2, by rw [sI_o _ _ _ _ (by omega)]; exact r2, rfl, h', sI_s _ _ _, by rw [sA_s, if_pos rfl]⟩⟩
        cases h with
        | false => rw [b2_f, i00]; exact nx true rfl
        | true => rw [b2_t, i10]; exact nx false rfl
    · -- and
      obtain ⟨z1, z2, z3, z4, z5⟩ := y5 (by omega)
      rcases hr.2 with ⟨r1, -⟩ | ⟨r1, r2, r3, h, r4, r5⟩
      · omega
      · have es : zI (sgOf 11) = 38 := rfl
        have eo : zI ((11 : Nat) : Int) = 11 := rfl
        have rd0 : ∀ {β : Type} {N : Nat} {g : Nat → Int32} {q : Int32 → Option β}, 0 < N → rd' g N 0 q = q (g 0) := fun hN => rdN (m := 0) hN (by omega)
        have d1 : (1 : Int32) - 1 = 0 := rfl
        have hj := finj v.toNat (by omega) (by omega) (by omega) z5 (z1 ▸ hr)
        rw [r3] at hj
        rw [es, eo, if_neg (show ¬ (38 : Int32) = 33 by decide), if_pos (show (38 : Int32) = 38 from rfl), r4, if_neg (show ¬ (11 : Int32) = 0 by decide), if_neg (show ¬ (11 : Int32) = 1 by decide), if_neg (show ¬ (11 : Int32) = 10 by decide), if_pos (show (11 : Int32) = 11 from rfl), if_pos (show ((11 : Nat) = 11 ∨ (11 : Nat) = 12) from Or.inl rfl)]
        unfold f_X12_reckonsTo_n135
        rw [r3, d1, rd0 (by omega), r5, if_neg (show ¬ (11 : Int32) = 12 by decide), lt_e, lt_e]
        cases h with
        | false => rw [b2_f, i00, i00]; exact hj
        | true =>
          rw [b2_t, i10, i10]
          exact fin L S 0 (lF.rf L) (sF.rf S) ⟨hr.1, Or.inl ⟨by omega, by rw [z2]; exact r2, by rw [z2]; rfl, fun j hj => by omega⟩⟩
    · -- or
      obtain ⟨z1, z2, z3, z4, z5⟩ := y5 (by omega)
      rcases hr.2 with ⟨r1, -⟩ | ⟨r1, r2, r3, h, r4, r5⟩
      · omega
      · have es : zI (sgOf 12) = 124 := rfl
        have eo : zI ((12 : Nat) : Int) = 12 := rfl
        have rd0 : ∀ {β : Type} {N : Nat} {g : Nat → Int32} {q : Int32 → Option β}, 0 < N → rd' g N 0 q = q (g 0) := fun hN => rdN (m := 0) hN (by omega)
        have d1 : (1 : Int32) - 1 = 0 := rfl
        have hj := finj v.toNat (by omega) (by omega) (by omega) z5 (z1 ▸ hr)
        rw [r3] at hj
        rw [es, eo, if_neg (show ¬ (124 : Int32) = 33 by decide), if_neg (show ¬ (124 : Int32) = 38 by decide), if_neg (show ¬ (124 : Int32) = 46 by decide), if_neg (show ¬ (124 : Int32) = 60 by decide), if_neg (show ¬ (124 : Int32) = 61 by decide), if_neg (show ¬ (124 : Int32) = 62 by decide), if_neg (show ¬ (124 : Int32) = 108 by decide), if_neg (show ¬ (124 : Int32) = 110 by decide), if_pos (show (124 : Int32) = 124 from rfl), r4, if_neg (show ¬ (12 : Int32) = 0 by decide), if_neg (show ¬ (12 : Int32) = 1 by decide), if_neg (show ¬ (12 : Int32) = 10 by decide), if_neg (show ¬ (12 : Int32) = 11 by decide), if_pos (show (12 : Int32) = 12 from rfl), if_pos (show ((12 : Nat) = 11 ∨ (12 : Nat) = 12) from Or.inr rfl)]
        unfold f_X12_reckonsTo_n135
        rw [r3, d1, rd0 (by omega), r5, if_pos rfl, lt_e, lt_e]
        cases h with
        | true => rw [b2_t, i10, if_pos rfl]; exact hj
        | false =>
          rw [b2_f, i00, if_neg (by decide)]
          exact fin L S 0 (lF.rf L) (sF.rf S) ⟨hr.1, Or.inl ⟨by omega, by rw [z2]; exact r2, by rw [z2]; rfl, fun j hj => by omega⟩⟩
end
theorem run_b {L S : Gr} {sg vl codes : Nat → Int32} {a b c e m : Nat} (hb : b ≤ 240) (hm : m ≤ 240) (hp : piece sg vl codes a b c e) (hcm : c + (b - a) < m) (hl : lsR L S m sg vl codes) : ∃ L' r S', f_X3_run L (zI c) = some L' ∧ f_X12_reckonsTo S (zI a) (zI b) = some (r, S') ∧ lF L L' ∧ sF S S' ∧ ocR e L' r := by
  obtain ⟨hab, hir, hst, ty, t1, t2, hty⟩ := hp
  have d0 : zI (a : Int) / 260 = 0 := by
    have e : (260 : Int32) = nI 260 := rfl
    rw [← zI_nI, e, pk_div (by omega) (by omega) (by omega), Nat.div_eq_of_lt (by omega)]; rfl
  have d1 : (260 : Int32) * 0 = 0 := rfl
  have kL : lF L (sI (sI (sI L 9 0) 10 0) 11 0) := ⟨fun j h1 h2 h3 => by rw [sI_o _ _ _ _ h3, sI_o _ _ _ _ h2, sI_o _ _ _ _ h1], fun j hj => rfl⟩
  obtain ⟨L', r, S', q1, q2, q3, q4, q5⟩ := run_lp hb hm hab hcm hir hst hty (zI c) (b - a) a 0 fu fu (sI (sI (sI L 9 0) 10 0) 11 0) S 0 (by omega) (by omega) hab (by omega) (by show b - a + 1 < 1000; omega) (by show b - a < 1000; omega) (hl.mv kL (sF.rf S)) ⟨sI_s _ _ _, Or.inl ⟨by omega, by rw [t1, sI_o _ _ _ _ (by omega), sI_o _ _ _ _ (by omega), sI_s]; rfl, by rw [t1]; rfl, fun j hj => by omega⟩⟩
  unfold f_X3_run f_X12_reckonsTo
  rw [lt_e, lt_e, lt_e, d0, lt_e, d1, lt_e]
  have ea : c + (a - a) = c := by omega
  rw [ea] at q1
  exact ⟨L', r, S', q1, q2, kL.tr q3, q4, t2 ▸ q5⟩
