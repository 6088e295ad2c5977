/-! chart: what is told, lines, the end -/
theorem tw_or {w : Int32} {k p : Nat} (hk : k < 8) (hp : p < 8) : tw (w ||| (1 <<< (zI k &&& 31))) p ↔ (tw w p ∨ p = k) := by
  rw [tw_bt hp, tw_bt hp, bt_or1 hk (by omega), Bool.or_eq_true, decide_eq_true_eq]
theorem tlw_lp {k : Nat} (hk : k < 8) (x2 x3 : Int32) : ∀ (d s f : Nat) (Z : Gr), s + d = 8 → d < f → ∃ Z', f_X7_tellWeb_n40 (zI k) x2 x3 f Z (zI s) = some Z' ∧ Z'.1 = Z.1 ∧ (∀ j, j ≠ 4 → Z'.2 j = Z.2 j) ∧ ∀ j, Z'.2 4 j = if 8 * k + s ≤ j ∧ j < 8 * k + 8 then 99 else Z.2 4 j := by
  intro d
  induction d with
  | zero =>
    intro s f Z hs hf
    obtain ⟨f, rfl⟩ : ∃ k, f = k + 1 := ⟨f - 1, by omega⟩
    rw [f_X7_tellWeb_n40, if_pos (le8 (by omega) (by omega))]
    exact ⟨Z, rfl, rfl, fun _ _ => rfl, fun j => by rw [if_neg (by omega)]⟩
  | succ d ih =>
    intro s f Z hs hf
    obtain ⟨f, rfl⟩ : ∃ k, f = k + 1 := ⟨f - 1, by omega⟩
    rw [f_X7_tellWeb_n40, if_neg (nle8 (by omega)), ix8, ckN (by omega) (by omega), clN (by omega), lt_e, lt_e, zs1]
    obtain ⟨Z', q1, q2, q3, q4⟩ := ih (s + 1) f (sA Z 4 (8 * k + s) 99) (by omega) (by omega)
    refine ⟨Z', q1, q2, fun j hj => by rw [q3 j hj, sA_o _ _ _ _ _ hj], fun j => ?_⟩
    rw [q4 j, sA_s]
    by_cases e : j = 8 * k + s
    · rw [if_pos e, if_neg (by omega), if_pos (by omega)]
    · rw [if_neg e]
      by_cases e2 : 8 * k + (s + 1) ≤ j ∧ j < 8 * k + 8
      · rw [if_pos e2, if_pos (by omega)]
      · rw [if_neg e2, if_neg (by omega)]
theorem in07 {k : Nat} (hk : k < 8) : (0 : Int32) ≤ zI k ∧ zI k ≤ 7 := by
  have e0 : (0 : Int32) = zI ((0 : Nat) : Int) := rfl
  have e7 : (7 : Int32) = zI ((7 : Nat) : Int) := rfl
  rw [e0, e7, leN (by omega) (by omega), leN (by omega) (by omega)]; omega
theorem tlw_b (Z : Gr) {k : Nat} (hk : k < 8) (x y : Int32) : ∃ Z', f_X7_tellWeb Z (zI k) x y = some Z' ∧ Z'.1 0 = Z.1 0 ||| (1 <<< (zI k &&& 31)) ∧ (∀ j, j ≠ 0 → Z'.1 j = Z.1 j) ∧ (∀ j, Z'.2 2 j = if j = k then x else Z.2 2 j) ∧ (∀ j, Z'.2 3 j = if j = k then y else Z.2 3 j) ∧ (∀ j, Z'.2 4 j = if 8 * k ≤ j ∧ j < 8 * k + 8 then 99 else Z.2 4 j) ∧ ∀ j, j ≠ 2 → j ≠ 3 → j ≠ 4 → Z'.2 j = Z.2 j := by
  obtain ⟨Z', q1, q2, q3, q4⟩ := tlw_lp hk x y 8 0 fu (sA (sA (sI Z 0 (Z.1 0 ||| (1 <<< (zI k &&& 31)))) 2 k x) 3 k y) (by omega) (by decide)
  refine ⟨Z', ?_, ?_, fun j hj => ?_, fun j => ?_, fun j => ?_, fun j => ?_, fun j h1 h2 h3 => ?_⟩
  · unfold f_X7_tellWeb
    rw [within_e, decide_eq_true (in07 hk), bd_s, b2_t, i10, lt_e, ckN hk (by omega), clN (by omega), lt_e, ckN hk (by omega), lt_e]
    exact q1
  · rw [q2]; rfl
  · rw [q2]; exact sI_o _ _ _ _ hj
  · rw [q3 2 (by omega), sA_o _ _ _ _ _ (by omega), sA_s, sI_2]
  · rw [q3 3 (by omega), sA_s, sA_o _ _ _ _ _ (by omega), sI_2]
  · rw [q4 j, sA_o _ _ _ _ _ (by omega), sA_o _ _ _ _ _ (by omega), sI_2]; rfl
  · rw [q3 j h3, sA_o _ _ _ _ _ h2, sA_o _ _ _ _ _ h1, sI_2]
theorem tlf_b (Z : Gr) {k : Nat} (hk : k < 8) (x y v c : Int32) : f_X7_tellFleet Z (zI k) x y v c = some (sA (sA (sA (sA (sI Z 1 (Z.1 1 ||| (1 <<< (zI k &&& 31)))) 5 k x) 6 k y) 7 k v) 8 k c) := by
  unfold f_X7_tellFleet
  rw [within_e, decide_eq_true (in07 hk), bd_s, b2_t, i10, lt_e, ckN hk (by omega), clN (by omega), lt_e, ckN hk (by omega), lt_e, ckN hk (by omega), lt_e, ckN hk (by omega), lt_e]
def chR (Z N : Gr) : Prop := Z.1 0 = N.1 35 ∧ Z.1 1 = N.1 36 ∧ lt256 (N.1 35) ∧ lt256 (N.1 36) ∧
  (∀ p : Nat, p < 8 → tw (N.1 35) p → ∃ x y : Int, (0 ≤ x ∧ x < 24 ∧ 0 ≤ y ∧ y < 16) ∧ Z.2 2 p = zI x ∧ Z.2 3 p = zI y ∧ N.2 31 p = zI (24 * y + x) ∧ ∀ s : Nat, s < 8 → Z.2 4 (8 * p + s) = 99) ∧
  (∀ g : Nat, g < 8 → tw (N.1 36) g → ∃ x y v c : Int, (0 ≤ x ∧ x < 24 ∧ 0 ≤ y ∧ y < 16) ∧ (0 ≤ v ∧ v ≤ 99 ∧ 0 ≤ c ∧ c ≤ 8) ∧ Z.2 5 g = zI x ∧ Z.2 6 g = zI y ∧ N.2 32 g = zI (24 * y + x) ∧ Z.2 7 g = zI v ∧ N.2 33 g = zI v ∧ Z.2 8 g = zI c ∧ N.2 34 g = zI (if c = 8 then -1 else c))
section
variable {b : Nat → Int} {n : Nat}
theorem has_d {w : Int32} {k : Nat} (hk : k < 8) : f_X12_has w (zI k) = some (b2 (tb w (zI k))) := by
  rw [has_e]
  congr 2
  rw [Bool.eq_iff_iff, decide_eq_true_eq, tb_z hk]; exact Iff.rfl
theorem line_b (hb : txB b n) {X Z N : Gr} {i l : Nat} (h : txR X N b n i) (hch : chR Z N) (hl : N.1 37 = zI l) (hl2 : l ≤ 24) : ∃ X' Z' N', crF N N' ∧ ((∃ i' : Nat, i < i' ∧ txR X' N' b n i' ∧ chR Z' N' ∧ l < 24 ∧ N'.1 37 = zI ((l + 1 : Nat) : Int) ∧ f_X0_line X Z (zI ((l + 1 : Nat) : Int)) = some (1, X', Z') ∧ f_X12_readsLine N = some (1, N')) ∨ (flR X' N' ∧ f_X0_line X Z (zI ((l + 1 : Nat) : Int)) = some (0, X', Z') ∧ f_X12_readsLine N = some (0, N'))) := by
  have hi0 := h.1
  have hn := hb.1
  have hc := cu_b hb i
  have e97 : (97 : Int32) = zI 97 := rfl
  have e65 : (65 : Int32) = zI 65 := rfl
  have iw : ∀ N' : Gr, txR X N' b n i → f_X12_isWebLetter N' = some (b2 (decide (97 ≤ cu b n i ∧ cu b n i ≤ 104))) := fun N' h' => by
    have ii : f_X12_in (zI (cu b n i - 97)) 0 7 = some (b2 (decide (0 ≤ cu b n i - 97 ∧ cu b n i - 97 ≤ 7))) := in_z (a := 0) (b := 7) (by omega) (by omega) (by omega) (by omega) (by omega) (by omega)
    unfold f_X12_isWebLetter
    rw [here_b hb h', bd_s, e97, zI_sub, ii, bd_s, zb_b]
    congr 2; rw [Bool.eq_iff_iff, decide_eq_true_eq, decide_eq_true_eq]; omega
  have ifl : f_X12_isFleetLetter N = some (b2 (decide (65 ≤ cu b n i ∧ cu b n i ≤ 72))) := by
    have ii : f_X12_in (zI (cu b n i - 65)) 0 7 = some (b2 (decide (0 ≤ cu b n i - 65 ∧ cu b n i - 65 ≤ 7))) := in_z (a := 0) (b := 7) (by omega) (by omega) (by omega) (by omega) (by omega) (by omega)
    unfold f_X12_isFleetLetter
    rw [here_b hb h, bd_s, e65, zI_sub, ii, bd_s, zb_b]
    congr 2; rw [Bool.eq_iff_iff, decide_eq_true_eq, decide_eq_true_eq]; omega
  have a1 : f_X9_isAt X 97 104 = some (b2 (decide (97 ≤ cu b n i ∧ cu b n i ≤ 104))) := isAt_b hb h 97 104 (by omega) (by omega) (by omega) (by omega)
  have a2 : f_X9_isAt X 65 72 = some (b2 (decide (65 ≤ cu b n i ∧ cu b n i ≤ 72))) := isAt_b hb h 65 72 (by omega) (by omega) (by omega) (by omega)
  have eC : ∀ w : Bool, decide (97 ≤ cu b n i ∧ cu b n i ≤ 104) = w → (w = true ∨ (65 ≤ cu b n i ∧ cu b n i ≤ 72)) → f_X0_line X Z (zI ((l + 1 : Nat) : Int)) = f_X0_line_n39 (zI ((l + 1 : Nat) : Int)) X Z (b2 w) ∧ f_X12_readsLine N = f_X12_readsLine_n24 N := fun w hw hor => by
    unfold f_X0_line f_X12_readsLine
    rw [a1, iw N h, bd_s, bd_s, a2, ifl, bd_s, bd_s, hw]
    cases w with
    | true => rw [b2_t, i10, i10]; exact ⟨rfl, rfl⟩
    | false =>
      rcases hor with hor | hor
      · cases hor
      · rw [b2_f, i00, i00, decide_eq_true hor, b2_t, i10, i10]; exact ⟨rfl, rfl⟩
  by_cases hor : (97 ≤ cu b n i ∧ cu b n i ≤ 104) ∨ (65 ≤ cu b n i ∧ cu b n i ≤ 72)
  · have hlt : i < n := cu_lt (b := b) (by omega)
    obtain ⟨w, hw⟩ : ∃ w, decide (97 ≤ cu b n i ∧ cu b n i ≤ 104) = w := ⟨_, rfl⟩
    have hor' : w = true ∨ (65 ≤ cu b n i ∧ cu b n i ≤ 72) := by
      rcases hor with c | c
      · left; rw [← hw]; exact decide_eq_true c
      · exact Or.inr c
    obtain ⟨E1, E2⟩ := eC w hw hor'
    rw [E1, E2]
    unfold f_X0_line_n39 f_X12_readsLine_n24
    by_cases h24 : l = 24
    · have c1 : ¬ zI ((l + 1 : Nat) : Int) ≤ 24 := by
        have e : (24 : Int32) = zI ((24 : Nat) : Int) := rfl
        rw [e, leN (by omega) (by omega)]; omega
      have c2 : N.1 37 = 24 := by rw [hl, h24]; rfl
      have w1 : f_X12_wrongAt N 4 (N.1 9) = _ := wro_b h 4
      have w2 : f_X9_fail X 4 = _ := fal_b h 4
      rw [if_neg c1, if_pos c2, w1, bd_s, zb_0, w2, bd_s, zb_0]
      exact ⟨_, _, _, crF.i N (k := 11) (by omega) _, Or.inr ⟨fl_of X N (by omega) (by omega) (by omega), rfl, rfl⟩⟩
    · have c1 : zI ((l + 1 : Nat) : Int) ≤ 24 := by
        have e : (24 : Int32) = zI ((24 : Nat) : Int) := rfl
        rw [e, leN (by omega) (by omega)]; omega
      have c2 : ¬ N.1 37 = 24 := by
        have e : (24 : Int32) = zI ((24 : Nat) : Int) := rfl
        rw [hl, e, eqN (by omega) (by omega)]; omega
      obtain ⟨N7, eN7⟩ : ∃ N7, N7 = sI N 37 (zI ((l + 1 : Nat) : Int)) := ⟨_, rfl⟩
      have f7 : crF N N7 := by rw [eN7]; exact crF.i N (by omega) _
      have h7 : txR X N7 b n i := by rw [eN7]; exact h.nm rfl rfl rfl
      have n35 : N7.1 35 = N.1 35 := by rw [eN7, sI_o _ _ _ _ (by omega)]
      have n36 : N7.1 36 = N.1 36 := by rw [eN7, sI_o _ _ _ _ (by omega)]
      have n37 : N7.1 37 = zI ((l + 1 : Nat) : Int) := by rw [eN7, sI_s]
      have n2 : N7.2 = N.2 := by rw [eN7]; rfl
      rw [if_pos c1, if_neg c2, hl, zs1, lt_e, ← eN7, iw N7 h7, bd_s, here_b hb h7, bd_s, peek_b hb h, bd_s, hw]
      -- after the letter k
      cases w with
      | true =>
        have hcw := of_decide_eq_true hw
        obtain ⟨k, hk⟩ : ∃ k : Nat, cu b n i - 97 = k := ⟨(cu b n i - 97).toNat, by omega⟩
        have hk8 : k < 8 := by omega
        rw [b2_t, i10, i10, e97, zI_sub, hk, lt_e, i10]
        unfold f_X0_line_n72 f_X12_readsLine_n90
        rw [zI_sub, hk, lt_e, i10, hasWeb_e, bd_s, hch.1, n35, has_d hk8, bd_s]
        cases htb : tb (N.1 35) (zI k) with
        | true =>
          have w1 : f_X12_wrongAt N7 6 (N7.1 9) = _ := wro_b h7 6
          have w2 : f_X9_fail X 6 = _ := fal_b h 6
          rw [b2_t, i10, i10, w1, bd_s, zb_0, w2, bd_s, zb_0]
          exact ⟨_, _, _, f7.tr (crF.i N7 (k := 11) (by omega) _), Or.inr ⟨fl_of X N7 (by omega) (by omega) (by omega), rfl, rfl⟩⟩
        | false =>
          obtain ⟨N8, eN8⟩ : ∃ N8, N8 = sI (sI N7 9 (zI ((i + 1 : Nat) : Int))) 35 (N.1 35 ||| (1 <<< (zI k &&& 31))) := ⟨_, rfl⟩
          have h8 : txR (sI X 2 (zI ((i + 1 : Nat) : Int))) N8 b n (i + 1) := by rw [eN8]; exact h7.nx hlt rfl rfl rfl
          have f8 : crF N N8 := by rw [eN8]; exact f7.tr ((crF.i _ (by omega) _).tr (crF.i _ (by omega) _))
          have e35 : (sI N7 9 (zI ((i + 1 : Nat) : Int))).1 35 = N.1 35 := n35
          rw [b2_f, i00, i00, n110_e, stp_b hb h hlt, bd_s, h7.2.2.1, zs1, lt_e, i10, e35, lt_e, ← eN8]
          obtain ⟨X', N', q1, q2, q3⟩ := spot_b hb h8
          have g36 : N'.1 36 = N.1 36 := by rw [q2.1.2.1, eN8]; exact n36
          have g35 : N'.1 35 = N.1 35 ||| (1 <<< (zI k &&& 31)) := by rw [q2.1.1, eN8, sI_s]
          have g37 : N'.1 37 = zI ((l + 1 : Nat) : Int) := by rw [q2.1.2.2, eN8]; exact n37
          have g2 : N'.2 = N.2 := by rw [q2.2, eN8]; exact n2
          rcases q3 with ⟨i', x, y, m1, m2, m3, m4, m5, m6⟩ | ⟨m1, m2, m3⟩
          · obtain ⟨Z', t1, t2, t3, t4, t5, t6, t7⟩ := tlw_b Z hk8 (zI x) (zI y)
            rw [m5, i10, t1, bd_s, m6, bd_s]
            dsimp only
            rw [i10, m4, ckN hk8 (by omega), clN (by omega), lt_e]
            refine ⟨X', Z', sA N' 31 k (zI (24 * y + x)), f8.tr (q1.tr (crF.a _ (by omega) _ _)), Or.inl ⟨i', by omega, m2.nm rfl rfl rfl, ⟨?_, ?_, ?_, ?_, fun p hp ht => ?_, fun g hg ht => ?_⟩, by omega, g37, rfl, rfl⟩⟩
            · rw [t2, hch.1]; exact g35.symm
            · rw [t3 1 (by omega), hch.2.1]; exact g36.symm
            · show lt256 (N'.1 35)
              rw [g35]; exact lt256_or hch.2.2.1 hk8
            · show lt256 (N'.1 36)
              rw [g36]; exact hch.2.2.2.1
            · have ht : tw (N'.1 35) p := ht
              rw [g35, tw_or hk8 hp] at ht
              rw [t4, t5, sA_s, g2]
              by_cases e : p = k
              · rw [if_pos e, if_pos e, if_pos e]
                exact ⟨x, y, m3, rfl, rfl, rfl, fun s hs => by rw [t6, if_pos (by omega)]⟩
              · rw [if_neg e, if_neg e, if_neg e]
                obtain ⟨x', y', u1, u2, u3, u4, u5⟩ := hch.2.2.2.2.1 p hp (ht.resolve_right e)
                exact ⟨x', y', u1, u2, u3, u4, fun s hs => by rw [t6, if_neg (by omega)]; exact u5 s hs⟩
            · have ht : tw (N'.1 36) g := ht
              rw [g36] at ht
              rw [t7 5 (by omega) (by omega) (by omega), t7 6 (by omega) (by omega) (by omega), t7 7 (by omega) (by omega) (by omega), t7 8 (by omega) (by omega) (by omega), sA_o _ _ _ _ _ (show (32 : Nat) ≠ 31 by omega), sA_o _ _ _ _ _ (show (33 : Nat) ≠ 31 by omega), sA_o _ _ _ _ _ (show (34 : Nat) ≠ 31 by omega), g2]
              exact hch.2.2.2.2.2 g hg ht
          · rw [m2, m3, bd_s]
            dsimp only
            rw [i00]
            exact ⟨X', Z, N', f8.tr q1, Or.inr ⟨m1, rfl, rfl⟩⟩
      | false =>
        have hcw : 65 ≤ cu b n i ∧ cu b n i ≤ 72 := hor'.resolve_left (by decide)
        obtain ⟨k, hk⟩ : ∃ k : Nat, cu b n i - 65 = k := ⟨(cu b n i - 65).toNat, by omega⟩
        have hk8 : k < 8 := by omega
        rw [b2_f, i00, i00, e65, zI_sub, hk, lt_e, i00]
        unfold f_X0_line_n72 f_X12_readsLine_n90
        rw [zI_sub, hk, lt_e, i00, hasFleet_e, bd_s, hch.2.1, n36, has_d hk8, bd_s]
        cases htb : tb (N.1 36) (zI k) with
        | true =>
          have w1 : f_X12_wrongAt N7 6 (N7.1 9) = _ := wro_b h7 6
          have w2 : f_X9_fail X 6 = _ := fal_b h 6
          rw [b2_t, i10, i10, w1, bd_s, zb_0, w2, bd_s, zb_0]
          exact ⟨_, _, _, f7.tr (crF.i N7 (k := 11) (by omega) _), Or.inr ⟨fl_of X N7 (by omega) (by omega) (by omega), rfl, rfl⟩⟩
        | false =>
          obtain ⟨N8, eN8⟩ : ∃ N8, N8 = sI (sI N7 9 (zI ((i + 1 : Nat) : Int))) 36 (N.1 36 ||| (1 <<< (zI k &&& 31))) := ⟨_, rfl⟩
          have h8 : txR (sI X 2 (zI ((i + 1 : Nat) : Int))) N8 b n (i + 1) := by rw [eN8]; exact h7.nx hlt rfl rfl rfl
          have f8 : crF N N8 := by rw [eN8]; exact f7.tr ((crF.i _ (by omega) _).tr (crF.i _ (by omega) _))
          have e36 : (sI N7 9 (zI ((i + 1 : Nat) : Int))).1 36 = N.1 36 := n36
          rw [b2_f, i00, i00, n110_e, stp_b hb h hlt, bd_s, h7.2.2.1, zs1, lt_e, i00, e36, lt_e, ← eN8, rdFl_e]
          obtain ⟨X', N', q1, q2, q3⟩ := spot_b hb h8
          have g35 : N'.1 35 = N.1 35 := by rw [q2.1.1, eN8]; exact n35
          have g36 : N'.1 36 = N.1 36 ||| (1 <<< (zI k &&& 31)) := by rw [q2.1.2.1, eN8, sI_s]
          have g37 : N'.1 37 = zI ((l + 1 : Nat) : Int) := by rw [q2.1.2.2, eN8]; exact n37
          have g2 : N'.2 = N.2 := by rw [q2.2, eN8]; exact n2
          rcases q3 with ⟨i', x, y, m1, m2, m3, m4, m5, m6⟩ | ⟨m1, m2, m3⟩
          · rw [m5, i00, m6, bd_s]
            dsimp only
            rw [i10, m4, ckN hk8 (by omega), clN (by omega), lt_e]
            have hB : txR X' (sA N' 32 k (zI (24 * y + x))) b n i' := m2.nm rfl rfl rfl
            obtain ⟨X2, N2, s1, ⟨s35, s36, s37⟩, s3⟩ := fle_b hb hB hk8
            have fB : crF N N2 := f8.tr (q1.tr ((crF.a _ (by omega) _ _).tr s1))
            rcases s3 with ⟨i2, v, c, o1, o2, o3, o4, o5, o6, o7, o8, o9, o10, o11, o12⟩ | ⟨o1, o2, o3⟩
            · rw [o11, tlf_b Z hk8, bd_s, bd_s, o12, bd_s]
              dsimp only
              rw [zb_1, zb_1]
              have g35' : N2.1 35 = N.1 35 := s35.trans g35
              have g36' : N2.1 36 = N.1 36 ||| (1 <<< (zI k &&& 31)) := s36.trans g36
              have g37' : N2.1 37 = zI ((l + 1 : Nat) : Int) := s37.trans g37
              refine ⟨X2, _, N2, fB, Or.inl ⟨i2, by omega, o2, ⟨?_, ?_, ?_, ?_, fun p hp ht => ?_, fun g hg ht => ?_⟩, by omega, g37', rfl, rfl⟩⟩
              · rw [g35']; exact hch.1
              · rw [g36', ← hch.2.1]; rfl
              · rw [g35']; exact hch.2.2.1
              · rw [g36']; exact lt256_or hch.2.2.2.1 hk8
              · rw [g35'] at ht
                rw [o7, sA_o _ _ _ _ _ (show (31 : Nat) ≠ 32 by omega), g2]
                exact hch.2.2.2.2.1 p hp ht
              · rw [g36', tw_or hk8 hg] at ht
                rw [o8, o9, o10, sA_s, sA_o _ _ _ _ _ (show (33 : Nat) ≠ 32 by omega), sA_o _ _ _ _ _ (show (34 : Nat) ≠ 32 by omega), g2, sA_s (k := 8), sA_o _ _ _ _ _ (show (7 : Nat) ≠ 8 by omega), sA_s (k := 7), sA_o _ _ _ _ _ (show (6 : Nat) ≠ 8 by omega), sA_o _ _ _ _ _ (show (6 : Nat) ≠ 7 by omega), sA_s (k := 6), sA_o _ _ _ _ _ (show (5 : Nat) ≠ 8 by omega), sA_o _ _ _ _ _ (show (5 : Nat) ≠ 7 by omega), sA_o _ _ _ _ _ (show (5 : Nat) ≠ 6 by omega), sA_s (k := 5)]
                by_cases e : g = k
                · rw [if_pos e, if_pos e, if_pos e, if_pos e, if_pos e, if_pos e, if_pos e]
                  exact ⟨x, y, v, c, m3, ⟨o3, o4, o5, o6⟩, rfl, rfl, rfl, rfl, rfl, rfl, rfl⟩
                · rw [if_neg e, if_neg e, if_neg e, if_neg e, if_neg e, if_neg e, if_neg e]
                  exact hch.2.2.2.2.2 g hg (ht.resolve_right e)
            · rw [o2, bd_s, o3, bd_s]
              dsimp only
              rw [zb_0, zb_0]
              exact ⟨X2, Z, N2, fB, Or.inr ⟨o1, rfl, rfl⟩⟩
          · rw [m2, m3, bd_s]
            dsimp only
            rw [i00, bd_s]
            dsimp only
            rw [zb_0]
            exact ⟨X', Z, N', f8.tr q1, Or.inr ⟨m1, rfl, rfl⟩⟩
  · have n1 : ¬ (97 ≤ cu b n i ∧ cu b n i ≤ 104) := fun h => hor (Or.inl h)
    have n2 : ¬ (65 ≤ cu b n i ∧ cu b n i ≤ 72) := fun h => hor (Or.inr h)
    have w1 : f_X12_wrongAt N 1 (N.1 9) = _ := wro_b h 1
    have w2 : f_X9_fail X 1 = _ := fal_b h 1
    unfold f_X0_line f_X12_readsLine
    rw [a1, iw N h, bd_s, bd_s, a2, ifl, bd_s, bd_s, decide_eq_false n1, decide_eq_false n2, b2_f, i00, i00, i00, i00, w1, bd_s, zb_0, w2, bd_s, zb_0]
    exact ⟨_, _, _, crF.i N (k := 11) (by omega) _, Or.inr ⟨fl_of X N (by omega) (by omega) (by omega), rfl, rfl⟩⟩
end
