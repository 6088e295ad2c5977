/-! tried -/
theorem bc0 : f_J6_bitCount_0f7a4 0 = some 0 := by decide +kernel
theorem slackN_f {S : Gr} {x : Int32} (ht : tb (S.1 0) x = false) : f_X7_slackSpokes S x = some 0 := by
  unfold f_X7_slackSpokes f_X7_slackBits
  rw [fuS, f_X7_slackBits_n4, if_neg (by decide), hasWeb_e, ht, bd_s, b2_f, if_pos rfl, bd_s, bc0, bd_s]
theorem allS_lp {S M : Gr} (hw : S.1 0 = M.1 5) (he : ∀ p : Nat, p < 8 → tw (M.1 5) p → ∀ s : Nat, s < 8 → S.2 4 (8 * p + s) = M.2 0 (8 * p + s)) : ∀ (d m n n' : Nat) (acc : Int32), m + d = 8 → d < n → d < n' → ∃ r, f_X7_allSlackSpokes_n4 S n acc (zI m) = some r ∧ f_X12_slackOfAll_n4 M n' acc (zI m) = some r := by
  intro d
  induction d with
  | zero =>
    intro m n n' acc hm hn hn'
    obtain ⟨n, rfl⟩ : ∃ k, n = k + 1 := ⟨n - 1, by omega⟩
    obtain ⟨n', rfl⟩ : ∃ k, n' = k + 1 := ⟨n' - 1, by omega⟩
    rw [f_X7_allSlackSpokes_n4, if_pos (le8 (by omega) (by omega)), f_X12_slackOfAll_n4, if_pos (le8 (by omega) (by omega))]
    exact ⟨_, rfl, rfl⟩
  | succ d ih =>
    intro m n n' acc hm hn hn'
    obtain ⟨n, rfl⟩ : ∃ k, n = k + 1 := ⟨n - 1, by omega⟩
    obtain ⟨n', rfl⟩ : ∃ k, n' = k + 1 := ⟨n' - 1, by omega⟩
    rw [f_X7_allSlackSpokes_n4, if_neg (nle8 (by omega)), f_X12_slackOfAll_n4, if_neg (nle8 (by omega)), isWeb_e, bd_s]
    cases ht : tb (M.1 5) (zI m) with
    | false =>
      rw [slackN_f (by rw [hw]; exact ht), bd_s, b2_f, i00, lt_e, lt_e, lt_e, zs1, Int32.add_zero]
      exact ih (m + 1) n n' _ (by omega) (by omega) (by omega)
    | true =>
      obtain ⟨r, q, k1, k2, k3⟩ := slackN_b (S := S) (M := M) (p := m) (by omega) (by rw [hw]; exact ht) (he m (by omega) ((tb_z (by omega)).mp ht))
      rw [k1, bd_s, b2_t, i10, k2, bd_s, k3, bd_s, lt_e, lt_e, lt_e, lt_e, zs1]
      exact ih (m + 1) n n' _ (by omega) (by omega) (by omega)
def canP (w f x : Int32) : Prop := x = 0 ∨ x = 1 ∨ tb w (x - 10) = true ∨ tb f (x - 20) = true ∨ tb f (x - 30) = true
theorem can_c (A S : Gr) (x : Int32) : (canP (S.1 0) (S.1 1) x ∧ f_X11_canBeTried A S x = some 1) ∨ (¬ canP (S.1 0) (S.1 1) x ∧ f_X11_canBeTried A S x = some 0) := by
  unfold f_X11_canBeTried canP
  by_cases h0 : x = 0
  · rw [if_pos h0]; exact Or.inl ⟨Or.inl h0, rfl⟩
  · rw [if_neg h0]
    by_cases h1 : x = 1
    · rw [if_pos h1]; exact Or.inl ⟨Or.inr (Or.inl h1), rfl⟩
    · rw [if_neg h1, hasWeb_e, bd_s, hasFleet_e, bd_s, hasFleet_e, bd_s]
      cases h2 : tb (S.1 0) (x - 10) with
      | true => rw [b2_t, i10]; exact Or.inl ⟨Or.inr (Or.inr (Or.inl rfl)), rfl⟩
      | false =>
        rw [b2_f, i00]
        cases h3 : tb (S.1 1) (x - 20) with
        | true => rw [b2_t, i10]; exact Or.inl ⟨Or.inr (Or.inr (Or.inr (Or.inl rfl))), rfl⟩
        | false =>
          rw [b2_f, i00]
          cases h4 : tb (S.1 1) (x - 30) with
          | true => rw [b2_t, i10]; exact Or.inl ⟨Or.inr (Or.inr (Or.inr (Or.inr rfl))), rfl⟩
          | false =>
            rw [b2_f, i00]
            refine Or.inr ⟨?_, rfl⟩
            rintro (h | h | h | h | h)
            · exact h0 h
            · exact h1 h
            · cases h
            · cases h
            · cases h
theorem in01 (x : Int32) : ((0 : Int32) ≤ x ∧ x ≤ 1) ↔ (x = 0 ∨ x = 1) := by
  obtain ⟨z, z1, z2, rfl⟩ := zI_of x
  have e0 : (0 : Int32) = zI 0 := rfl
  have e1 : (1 : Int32) = zI 1 := rfl
  rw [e0, e1, zI_le (by omega) (by omega) z1 z2, zI_le z1 z2 (by omega) (by omega), zI_eq z1 z2 (by omega) (by omega), zI_eq z1 z2 (by omega) (by omega)]; omega
theorem can_m (M : Gr) (x1 x : Int32) : (canP (M.1 5) (M.1 6) x → ((f_X12_in x 0 1).bind fun u3 => if u3 = 0 then ((f_X12_isWeb M (x - 10)).bind fun u5 => if u5 = 0 then ((f_X12_isFleet M (x - 20)).bind fun u7 => if u7 = 0 then ((f_X12_isFleet M (x - 30)).bind fun u9 => if u9 = 0 then (some ((-1), M)) else (f_X12_tried_n54 x1 x M)) else (f_X12_tried_n54 x1 x M)) else (f_X12_tried_n54 x1 x M)) else (f_X12_tried_n54 x1 x M)) = f_X12_tried_n54 x1 x M) ∧ (¬ canP (M.1 5) (M.1 6) x → ((f_X12_in x 0 1).bind fun u3 => if u3 = 0 then ((f_X12_isWeb M (x - 10)).bind fun u5 => if u5 = 0 then ((f_X12_isFleet M (x - 20)).bind fun u7 => if u7 = 0 then ((f_X12_isFleet M (x - 30)).bind fun u9 => if u9 = 0 then (some ((-1), M)) else (f_X12_tried_n54 x1 x M)) else (f_X12_tried_n54 x1 x M)) else (f_X12_tried_n54 x1 x M)) else (f_X12_tried_n54 x1 x M)) = some ((-1), M)) := by
  unfold canP
  rw [in_e, bd_s, isWeb_e, bd_s, isFleet_e, bd_s, isFleet_e, bd_s]
  by_cases h : (0 : Int32) ≤ x ∧ x ≤ 1
  · rw [decide_eq_true h, b2_t, i10]
    exact ⟨fun _ => rfl, fun k => absurd ((in01 x).mp h) (fun e => k (by rcases e with e | e; exact Or.inl e; exact Or.inr (Or.inl e)))⟩
  · have h' : ¬ (x = 0 ∨ x = 1) := fun e => h ((in01 x).mpr e)
    rw [decide_eq_false h, b2_f, i00]
    cases h2 : tb (M.1 5) (x - 10) with
    | true => rw [b2_t, i10]; exact ⟨fun _ => rfl, fun k => absurd (Or.inr (Or.inr (Or.inl rfl))) k⟩
    | false =>
      rw [b2_f, i00]
      cases h3 : tb (M.1 6) (x - 20) with
      | true => rw [b2_t, i10]; exact ⟨fun _ => rfl, fun k => absurd (Or.inr (Or.inr (Or.inr (Or.inl rfl)))) k⟩
      | false =>
        rw [b2_f, i00]
        cases h4 : tb (M.1 6) (x - 30) with
        | true => rw [b2_t, i10]; exact ⟨fun _ => rfl, fun k => absurd (Or.inr (Or.inr (Or.inr (Or.inr rfl)))) k⟩
        | false =>
          rw [b2_f, i00]
          refine ⟨?_, fun _ => rfl⟩
          rintro (e | e | e | e | e)
          · exact absurd (Or.inl e) h'
          · exact absurd (Or.inr e) h'
          · cases e
          · cases e
          · cases e
theorem Inv_try {C : Nat → Gr} {M N N' : Gr} {L' S' : Gr} (hI : Inv C M) (k : hF M N) (h1 : ∀ j, j ≠ 0 → j ≠ 1 → N'.2 j = N.2 j) (h0 : N'.1 = N.1) (h2 : ∀ j, j < 82 → N'.2 0 j = M.2 0 j) (hL : lwR L' N) : Inv (va_up (va_up C 14 S') 11 L') N' := by
  obtain ⟨a1, a2, a3, a4, a5⟩ := hI
  have q1 : ∀ j, j ≠ 39 → j ≠ 40 → N'.1 j = M.1 j := fun j p1 p2 => by rw [h0]; exact k.1 j p1 p2
  have q2 : ∀ j, j ≠ 0 → j ≠ 1 → j ≠ 29 → j ≠ 30 → N'.2 j = M.2 j := fun j p1 p2 p3 p4 => (h1 j p1 p2).trans (k.2 j p1 p3 p4)
  refine ⟨?_, ?_, ?_, ?_, ?_⟩
  · show tapeOK ((C 1).1 1) ((C 1).2 0) (N'.1 8) (N'.2 7)
    rw [q1 8 (by omega) (by omega), q2 7 (by omega) (by omega) (by omega) (by omega)]; exact a1
  · show seaDyn ((C 13).1 0) ((C 13).1 1) ((C 13).1 9) ((C 13).1 10) ((C 13).2 4) ((C 13).2 5) ((C 13).2 6) ((C 13).2 8) (N'.1 5) (N'.1 6) (N'.2 0)
    rw [q1 5 (by omega) (by omega), q1 6 (by omega) (by omega)]
    exact dyn_congr a2 (fun _ _ => rfl) (fun _ _ => rfl) (fun _ _ => rfl) (fun _ _ => rfl) h2
  · show seaFix ((C 13).2 2) ((C 13).2 3) ((C 13).2 7) (N'.1 5) (N'.1 6) (N'.2 3) (N'.2 4)
    rw [q1 5 (by omega) (by omega), q1 6 (by omega) (by omega), q2 3 (by omega) (by omega) (by omega) (by omega), q2 4 (by omega) (by omega) (by omega) (by omega)]; exact a3
  · show keptOK ((C 0).1 12) ((C 15).1 0) ((C 15).1 1) ((C 15).1 9) ((C 15).1 10) ((C 15).2 4) ((C 15).2 5) ((C 15).2 6) ((C 15).2 8) (N'.1 54) (N'.1 55) (N'.1 56) (N'.2 2)
    rw [q1 54 (by omega) (by omega), q1 55 (by omega) (by omega), q1 56 (by omega) (by omega), q2 2 (by omega) (by omega) (by omega) (by omega)]; exact a4
  · show lawOK (L'.1 0) (L'.2 1) (L'.2 2) (L'.2 3) (L'.1 4) (L'.2 5) (L'.2 6) (N'.1 17) (N'.2 24) (N'.2 25) (N'.2 26) (N'.2 27) (N'.2 28)
    rw [h0, h1 24 (by omega) (by omega), h1 25 (by omega) (by omega), h1 26 (by omega) (by omega), h1 27 (by omega) (by omega), h1 28 (by omega) (by omega)]; exact hL
theorem tried_ok : hp_tried Inv := by
  intro C M hI x y
  obtain ⟨h1, h2, h3, h4, h5⟩ := id hI
  have same : ∀ A B : Gr, B = C 11 → Inv (va_up (va_up C 14 A) 11 B) M := fun A B e => by subst e; exact Inv_keep hI (keepM.rf M) hI.1 rfl rfl rfl rfl
  unfold f_X11_tried f_X12_tried
  rw [within_e, in_e, bd_s, bd_s]
  by_cases hx : (1 : Int32) ≤ x ∧ x ≤ 100
  · rw [decide_eq_true hx, b2_t, i10, i10]
    obtain ⟨c, hc1, hc2, rfl⟩ := in_of2 1 100 (by omega) (by omega) hx
    rcases can_c (C 0) (C 13) y with ⟨hp, hc⟩ | ⟨hp, hc⟩
    · rw [h2.1, h2.2.1] at hp
      rw [hc, bd_s, i10, (can_m M (zI c) y).1 hp]
      obtain ⟨R, q1, q2⟩ := copyFrom_b (C 14) (C 13)
      obtain ⟨U, p1, p2⟩ := copies_b ((fun _ => 0, fun _ => M.2 0) : Gr) ((fun _ => 0, fun _ => M.2 1) : Gr)
      obtain ⟨c1, c2, c3, c4, c5, c6, c7, c8, c9, c10, c11⟩ := q2
      have k01 : ∀ j, j ≠ 1 → (sR M 1 (U.2 0)).2 j = M.2 j := fun j hj => by rw [sR_2, if_neg hj]
      have hr : hrR R (C 11) (sR M 1 (U.2 0)) (M.1 5) (M.1 6) := by
        refine ⟨?_, ?_, ⟨rfl, rfl⟩, h5⟩
        · show seaDyn (R.1 0) (R.1 1) (R.1 9) (R.1 10) (R.2 4) (R.2 5) (R.2 6) (R.2 8) (M.1 5) (M.1 6) (M.2 0)
          rw [c1, c2, c3, c4]
          exact dyn_congr h2 c7 c8 c9 c11 (fun _ _ => rfl)
        · refine ⟨fun p hp ht => ?_, fun g hg ht => ?_⟩
          · rw [c5 p hp, c6 p hp]; exact h3.1 p hp ht
          · rw [c10 g hg]; exact h3.2 g hg ht
      obtain ⟨u, S', L', N', a1, a2, hr', a4, a5⟩ := hrs_b hc2 hr
      obtain ⟨V, v1, v2⟩ := copies_b ((fun _ => 0, fun _ => N'.2 1) : Gr) ((fun _ => 0, fun _ => N'.2 0) : Gr)
      have hfin : Inv (va_up (va_up C 14 S') 11 L') (sR N' 0 (V.2 0)) := by
        refine Inv_try (M := M) (N := sR N' 1 (M.2 1)) hI ?_ (fun j j0 j1 => by rw [sR_2, if_neg j0, sR_2, if_neg j1]) rfl (fun j hj => ?_) hr'.2.2.2
        · refine ⟨fun j q1 q2 => (a4.1 j q1 q2), fun j q1 q2 q3 => ?_⟩
          rw [sR_2]
          by_cases e : j = 1
          · rw [if_pos e, e]
          · rw [if_neg e, a4.2 j q1 q2 q3, k01 j e]
        · rw [sR_2, if_pos rfl, v2 j hj]
          show N'.2 1 j = M.2 0 j
          rw [a4.2 1 (by omega) (by omega) (by omega), sR_2, if_pos rfl]
          exact p2 j hj
      have h165 : ∀ r, f_X12_tried_n165 (zI c) y N' r = some (r, sR N' 0 (V.2 0)) := fun r => by
        unfold f_X12_tried_n165
        rw [v1, bd_s, lt_e]
      obtain ⟨H, F, ⟨n5, n6⟩, W⟩ := id hr'
      have he : ∀ p : Nat, p < 8 → tw (N'.1 5) p → ∀ s : Nat, s < 8 → S'.2 4 (8 * p + s) = N'.2 0 (8 * p + s) := fun p hp ht => dyn_te H hp (n5 ▸ ht)
      unfold f_X12_tried_n54
      rw [q1, bd_s, a1, bd_s, p1, bd_s, lt_e, a2, bd_s]
      show ∃ u_1 w, (if y = 0 then (some (u, S', L')) else (if y = 1 then ((f_X7_allSlackSpokes S').bind fun u14 => some (u14, S', L')) else (if 20 ≤ y then (if 30 ≤ y then ((f_X7_toldCourse S' (y - 30)).bind fun u11 => some (u11, S', L')) else ((f_X7_placeOfFleet S' (y - 20)).bind fun u12 => some (u12, S', L'))) else ((f_X7_tensionsOf S' (y - 10)).bind fun u13 => some (u13, S', L'))))) = some u_1 ∧ _
      have e1 : (1 : Int32) = zI ((1 : Nat) : Int) := rfl
      have e0 : (0 : Int32) = zI ((0 : Nat) : Int) := rfl
      have e10 : (10 : Int32) = zI ((10 : Nat) : Int) := rfl
      have e20 : (20 : Int32) = zI ((20 : Nat) : Int) := rfl
      have e30 : (30 : Int32) = zI ((30 : Nat) : Int) := rfl
      by_cases y0 : y = 0
      · rw [if_pos y0, if_pos y0, lt_e, v1, bd_s, lt_e]
        exact ⟨_, _, rfl, rfl, a5.symm, hfin⟩
      · rw [if_neg y0, if_neg y0]
        by_cases y1 : y = 1
        · obtain ⟨r, r1, r2⟩ := allS_lp (S := S') (M := N') (H.1.trans n5.symm) he 8 0 fu fu 0 (by omega) (by decide) (by decide)
          have r1 : f_X7_allSlackSpokes S' = some r := r1
          have r2 : f_X12_slackOfAll N' = some r := r2
          rw [if_pos y1, if_pos y1, r1, bd_s, r2, bd_s, v1, bd_s, lt_e]
          exact ⟨_, _, rfl, rfl, rfl, hfin⟩
        · rw [if_neg y1, if_neg y1]
          rcases hp with hp | hp | hp | hp | hp
          · exact absurd hp y0
          · exact absurd hp y1
          · obtain ⟨p, p8, ep, tp⟩ := tb_t hp
            have ey : y = zI ((p + 10 : Nat) : Int) := by rw [← Int32.sub_add_cancel y 10, ep, e10, zaN]
            have n20 : ¬ (20 : Int32) ≤ y := by rw [ey, e20, leN (by omega) (by omega)]; omega
            obtain ⟨r, r1, r2⟩ := tens_b (S := S') (M := N') p8 (by rw [H.1]; exact (tb_z p8).mpr tp) (he p p8 (by rw [n5]; exact tp))
            rw [if_neg n20, if_neg n20, ep, r1, bd_s, r2, bd_s, h165]
            exact ⟨_, _, rfl, rfl, rfl, hfin⟩
          · obtain ⟨g, g8, eg, tg⟩ := tb_t hp
            have ey : y = zI ((g + 20 : Nat) : Int) := by rw [← Int32.sub_add_cancel y 20, eg, e20, zaN]
            have n20 : (20 : Int32) ≤ y := by rw [ey, e20, leN (by omega) (by omega)]; omega
            have n30 : ¬ (30 : Int32) ≤ y := by rw [ey, e30, leN (by omega) (by omega)]; omega
            have ei : (64 + y) - 20 = zI ((64 + g : Nat) : Int) := by
              have e64 : (64 : Int32) = zI 64 := rfl
              have e20' : (20 : Int32) = zI 20 := rfl
              rw [ey, e64, e20', zI_add, zI_sub]; exact congrArg zI (by omega)
            obtain ⟨a, b, cc, d1, d2, d3, d4, d5, d6, d7, d8, d9, d10, d11⟩ := H.2.2.2.2.2.2.2 g g8 tg
            have r1 : f_X7_placeOfFleet S' (zI g) = some (zI (24 * b + a)) := by
              have e24 : (24 : Int32) = zI 24 := rfl
              unfold f_X7_placeOfFleet f_X1_place
              rw [hasFleet_e, H.2.1, (tb_z g8).mpr tg, bd_s, b2_t, i10, rdN g8 (by omega), rdN g8 (by omega), bd_s, d7, d8, e24, zI_mul, zI_add]
            rw [if_pos n20, if_neg n30, if_pos n20, if_neg n30, eg, r1, bd_s, ei, rdN (by omega) (by omega), d9, h165]
            exact ⟨_, _, rfl, rfl, rfl, hfin⟩
          · obtain ⟨g, g8, eg, tg⟩ := tb_t hp
            have ey : y = zI ((g + 30 : Nat) : Int) := by rw [← Int32.sub_add_cancel y 30, eg, e30, zaN]
            have n20 : (20 : Int32) ≤ y := by rw [ey, e20, leN (by omega) (by omega)]; omega
            have n30 : (30 : Int32) ≤ y := by rw [ey, e30, leN (by omega) (by omega)]; omega
            have ei : (72 + y) - 30 = zI ((72 + g : Nat) : Int) := by
              have e72 : (72 : Int32) = zI 72 := rfl
              have e30' : (30 : Int32) = zI 30 := rfl
              rw [ey, e72, e30', zI_add, zI_sub]; exact congrArg zI (by omega)
            obtain ⟨a, b, cc, d1, d2, d3, d4, d5, d6, d7, d8, d9, d10, d11⟩ := H.2.2.2.2.2.2.2 g g8 tg
            have e8 : (8 : Int32) = zI 8 := rfl
            have em : (-1 : Int32) = zI (-1) := rfl
            have r1 : ∃ r, f_X7_toldCourse S' (zI g) = some r ∧ f_X12_orNone (zI (if cc = 8 then -1 else cc)) = some r := by
              unfold f_X7_toldCourse f_X12_orNone
              rw [hasFleet_e, H.2.1, (tb_z g8).mpr tg, bd_s, b2_t, i10, rdN g8 (by omega), rdN g8 (by omega), d10]
              by_cases hc : cc = 8
              · have q1 : zI cc = (8 : Int32) := by rw [hc]; rfl
                rw [if_pos hc, if_pos q1, if_pos em.symm]
                exact ⟨_, rfl, rfl⟩
              · have q1 : ¬ zI cc = (8 : Int32) := by rw [e8, zI_eq (by omega) (by omega) (by omega) (by omega)]; exact hc
                have q2 : ¬ zI cc = (-1 : Int32) := by rw [em, zI_eq (by omega) (by omega) (by omega) (by omega)]; omega
                rw [if_neg hc, if_neg q1, if_neg q2]
                exact ⟨_, rfl, rfl⟩
            obtain ⟨r, r2, r3⟩ := r1
            rw [if_pos n20, if_pos n30, if_pos n20, if_pos n30, eg, r2, bd_s, ei, rdN (by omega) (by omega), d11, r3, bd_s, h165]
            exact ⟨_, _, rfl, rfl, rfl, hfin⟩
    · rw [h2.1, h2.2.1] at hp
      rw [hc, bd_s, i00, (can_m M (zI c) y).2 hp]
      exact ⟨_, _, rfl, rfl, rfl, same _ _ rfl⟩
  · rw [decide_eq_false hx, b2_f, i00, i00]
    exact ⟨_, _, rfl, rfl, rfl, same _ _ rfl⟩
