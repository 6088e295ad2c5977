/-! bearings -/
theorem ac_d : ∀ c : Nat, c < 8 → (acz c = -1 ∨ acz c = 0 ∨ acz c = 1) ∧ (alz c = -1 ∨ alz c = 0 ∨ alz c = 1) ∧ ¬ (acz c = 0 ∧ alz c = 0) := by decide +kernel
/-- on the way from q by steps of u, v -/
def onW (x y qx qy u v : Int) : Bool := decide (0 < dz x y qx qy ∧ x - qx = dz x y qx qy * u ∧ y - qy = dz x y qx qy * v)
theorem onW_s {x y qx qy u v : Int} (hu : u = -1 ∨ u = 0 ∨ u = 1) (hv : v = -1 ∨ v = 0 ∨ v = 1) (h0 : ¬ (u = 0 ∧ v = 0)) : onW x y qx qy u v = true ↔ ∃ s : Nat, 1 ≤ s ∧ x = qx + s * u ∧ y = qy + s * v := by
  unfold onW dz
  rw [decide_eq_true_eq]
  constructor
  · rintro ⟨h1, h2, h3⟩
    refine ⟨(max ((x - qx).natAbs : Int) ((y - qy).natAbs : Int)).toNat, by omega, ?_, ?_⟩
    · rcases hu with rfl | rfl | rfl <;> omega
    · rcases hv with rfl | rfl | rfl <;> omega
  · rintro ⟨s, h1, h2, h3⟩
    have e : max ((x - qx).natAbs : Int) ((y - qy).natAbs : Int) = s := by
      rcases hu with rfl | rfl | rfl <;> rcases hv with rfl | rfl | rfl <;> omega
    rw [e]
    refine ⟨by omega, by omega, by omega⟩
theorem ow_c {x y qx qy : Int} (h : 0 ≤ x ∧ x < 24 ∧ 0 ≤ y ∧ y < 16) (h' : 0 ≤ qx ∧ qx < 24 ∧ 0 ≤ qy ∧ qy < 16) {b : Nat} (hb : b < 8) : f_X6_isOnWay (zI x - zI qx) (zI y - zI qy) (zI b) = some (b2 (onW x y qx qy (acz b) (alz b))) := by
  obtain ⟨a1, -, a3, a4⟩ := ac_b b hb
  obtain ⟨b1, -, b3, b4⟩ := al_b b hb
  obtain ⟨d1, d2, -⟩ := ac_d b hb
  have hd := dz_b h h'
  have e0 : (0 : Int32) = zI 0 := rfl
  unfold f_X6_isOnWay onW
  rw [dist_c h h', bd_s, a1, bd_s, b1, bd_s, zI_sub, zI_sub, zI_mul, zI_mul]
  have m1 : -24 < dz x y qx qy * acz b ∧ dz x y qx qy * acz b < 24 := by rcases d1 with e | e | e <;> rw [e] <;> omega
  have m2 : -24 < dz x y qx qy * alz b ∧ dz x y qx qy * alz b < 24 := by rcases d2 with e | e | e <;> rw [e] <;> omega
  have c1 : (zI (dz x y qx qy) ≤ 0) ↔ dz x y qx qy ≤ 0 := by rw [e0, zI_le (by omega) (by omega) (by omega) (by omega)]
  have c2 : (zI (x - qx) = zI (dz x y qx qy * acz b)) ↔ x - qx = dz x y qx qy * acz b := zI_eq (by omega) (by omega) (by omega) (by omega)
  have c3 : (zI (y - qy) = zI (dz x y qx qy * alz b)) ↔ y - qy = dz x y qx qy * alz b := zI_eq (by omega) (by omega) (by omega) (by omega)
  by_cases k1 : dz x y qx qy ≤ 0
  · rw [if_pos (c1.mpr k1), decide_eq_false (by omega)]; rfl
  · rw [if_neg (fun h => k1 (c1.mp h))]
    by_cases k2 : x - qx = dz x y qx qy * acz b
    · rw [if_pos (c2.mpr k2)]
      by_cases k3 : y - qy = dz x y qx qy * alz b
      · rw [if_pos (c3.mpr k3), decide_eq_true ⟨by omega, k2, k3⟩]; rfl
      · rw [if_neg (fun h => k3 (c3.mp h)), decide_eq_false (fun h => k3 h.2.2)]; rfl
    · rw [if_neg (fun h => k2 (c2.mp h)), decide_eq_false (fun h => k2 h.2.1)]; rfl
theorem ow_off {x y qx qy u v X Y : Int} {s : Nat} (h : 0 ≤ x ∧ x < 24 ∧ 0 ≤ y ∧ y < 16) (h' : 0 ≤ qx ∧ qx < 24 ∧ 0 ≤ qy ∧ qy < 16) (hu : u = -1 ∨ u = 0 ∨ u = 1) (hv : v = -1 ∨ v = 0 ∨ v = 1) (h0 : ¬ (u = 0 ∧ v = 0)) (hX : X = qx + s * u) (hY : Y = qy + s * v) (hoff : ¬ (0 ≤ X ∧ X ≤ 23 ∧ 0 ≤ Y ∧ Y ≤ 15)) (hj : ∀ j : Nat, 1 ≤ j → j < s → ¬ (x = qx + j * u ∧ y = qy + j * v)) : onW x y qx qy u v = false := by
  cases ht : onW x y qx qy u v with
  | false => rfl
  | true =>
    obtain ⟨j, j1, j2, j3⟩ := (onW_s hu hv h0).mp ht
    exfalso
    by_cases hl : j < s
    · exact hj j j1 hl ⟨j2, j3⟩
    · rcases hu with rfl | rfl | rfl <;> rcases hv with rfl | rfl | rfl <;> omega
theorem ow_m {S : Gr} {x y qx qy : Int} (h : 0 ≤ x ∧ x < 24 ∧ 0 ≤ y ∧ y < 16) (h' : 0 ≤ qx ∧ qx < 24 ∧ 0 ≤ qy ∧ qy < 16) {b : Nat} (hb : b < 8) : ∀ (d s n : Nat) (X Y : Int), s + d = 24 → 1 ≤ s → d < n → X = qx + s * acz b → Y = qy + s * alz b → (∀ j : Nat, 1 ≤ j → j < s → ¬ (x = qx + j * acz b ∧ y = qy + j * alz b)) → f_X12_isOnWay_n7 S (zI (24 * qy + qx)) (zI b) (zI (24 * y + x)) n (if 0 ≤ X ∧ X ≤ 23 ∧ 0 ≤ Y ∧ Y ≤ 15 then zI (24 * Y + X) else -1) = some (b2 (onW x y qx qy (acz b) (alz b))) := by
  obtain ⟨d1, d2, d3⟩ := ac_d b hb
  have em : (-1 : Int32) = zI (-1) := rfl
  have q2 : ¬ (-1 : Int32) = zI (24 * y + x) := by rw [em, zI_eq (by omega) (by omega) (by omega) (by omega)]; omega
  have hw := onW_s (x := x) (y := y) (qx := qx) (qy := qy) d1 d2 d3
  intro d
  induction d with
  | zero =>
    intro s n X Y hs h1 hn hX hY hj
    obtain ⟨n, rfl⟩ : ∃ k, n = k + 1 := ⟨n - 1, by omega⟩
    have hoff : ¬ (0 ≤ X ∧ X ≤ 23 ∧ 0 ≤ Y ∧ Y ≤ 15) := by
      have e : s = 24 := by omega
      subst e
      rcases d1 with e | e | e <;> rcases d2 with e' | e' | e' <;> rw [e] at hX <;> rw [e'] at hY <;> omega
    rw [if_neg hoff, f_X12_isOnWay_n7, if_pos rfl, if_neg q2, ow_off h h' d1 d2 d3 hX hY hoff hj]; rfl
  | succ d ih =>
    intro s n X Y hs h1 hn hX hY hj
    obtain ⟨n, rfl⟩ : ∃ k, n = k + 1 := ⟨n - 1, by omega⟩
    by_cases hon : 0 ≤ X ∧ X ≤ 23 ∧ 0 ≤ Y ∧ Y ≤ 15
    · have q1 : ¬ zI (24 * Y + X) = (-1 : Int32) := by rw [em, zI_eq (by omega) (by omega) (by omega) (by omega)]; omega
      rw [if_pos hon, f_X12_isOnWay_n7, if_neg q1]
      by_cases he : zI (24 * Y + X) = zI (24 * y + x)
      · rw [if_pos he, if_pos he]
        rw [zI_eq (by omega) (by omega) (by omega) (by omega)] at he
        rw [hw.mpr ⟨s, h1, by omega, by omega⟩]; rfl
      · rw [if_neg he, stepOn_z (by omega) hb, bd_s]
        refine ih (s + 1) n (X + acz b) (Y + alz b) (by omega) (by omega) (by omega) ?_ ?_ ?_
        · rcases d1 with e | e | e <;> rw [e] at hX ⊢ <;> omega
        · rcases d2 with e | e | e <;> rw [e] at hY ⊢ <;> omega
        · intro j j1 j2
          by_cases e : j = s
          · subst e; rintro ⟨k1, k2⟩; exact he (by rw [hX, hY, ← k1, ← k2])
          · exact hj j j1 (by omega)
    · rw [if_neg hon, f_X12_isOnWay_n7, if_pos rfl, if_neg q2, ow_off h h' d1 d2 d3 hX hY hon hj]; rfl
theorem ow_r {S : Gr} {x y qx qy : Int} (h : 0 ≤ x ∧ x < 24 ∧ 0 ≤ y ∧ y < 16) (h' : 0 ≤ qx ∧ qx < 24 ∧ 0 ≤ qy ∧ qy < 16) {b : Nat} (hb : b < 8) : f_X12_isOnWay S (zI (24 * qy + qx)) (zI b) (zI (24 * y + x)) = some (b2 (onW x y qx qy (acz b) (alz b))) := by
  unfold f_X12_isOnWay
  rw [stepOn_z h' hb, bd_s]
  exact ow_m h h' hb 23 1 fu (qx + acz b) (qy + alz b) (by omega) (by omega) (by decide) (by omega) (by omega) (fun j j1 j2 => by omega)
theorem bear_lp {S M L : Gr} {p q : Nat} (hp : p < 8) (hq : q < 8) {wx wy qx qy : Int} (hwp : wpOK S M p wx wy) (hwq : wpOK S M q qx qy) {a b : Nat} (ha : a < 8) (hb : b < 8) : ∀ (d k n n' : Nat) (X Y : Int), k + d = 24 → 1 ≤ k → d < n → d < n' → X = wx + k * acz a → Y = wy + k * alz a → ∃ r, f_X6_crossing_n3 L S (zI p) (zI a) (zI q) (zI b) n (zI k) = some r ∧ f_X12_bearings_n56 M (zI p) (zI a) (zI q) (zI b) n' (if 0 ≤ X ∧ X ≤ 23 ∧ 0 ≤ Y ∧ Y ≤ 15 then zI (24 * Y + X) else -1) = some r := by
  obtain ⟨d1, d2, d3⟩ := ac_d a ha
  obtain ⟨a1, -, a3, a4⟩ := ac_b a ha
  obtain ⟨b1, -, b3, b4⟩ := al_b a ha
  obtain ⟨g1, g2, g3, g4⟩ := hwp
  obtain ⟨l1, l2, l3, l4⟩ := hwq
  have em : (-1 : Int32) = zI (-1) := rfl
  have e24 : (24 : Int32) = zI ((24 : Nat) : Int) := rfl
  intro d
  induction d with
  | zero =>
    intro k n n' X Y hk h1 hn hn' hX hY
    obtain ⟨n, rfl⟩ : ∃ k, n = k + 1 := ⟨n - 1, by omega⟩
    obtain ⟨n', rfl⟩ : ∃ k, n' = k + 1 := ⟨n' - 1, by omega⟩
    have hoff : ¬ (0 ≤ X ∧ X ≤ 23 ∧ 0 ≤ Y ∧ Y ≤ 15) := by
      have e : k = 24 := by omega
      subst e
      rcases d1 with e | e | e <;> rcases d2 with e' | e' | e' <;> rw [e] at hX <;> rw [e'] at hY <;> omega
    have hc : (24 : Int32) ≤ zI k := by rw [e24]; exact (leN (by omega) (by omega)).mpr (by omega)
    rw [if_neg hoff, f_X12_bearings_n56, if_pos rfl, f_X6_crossing_n3, if_pos hc]
    exact ⟨_, rfl, rfl⟩
  | succ d ih =>
    intro k n n' X Y hk h1 hn hn' hX hY
    obtain ⟨n, rfl⟩ : ∃ k, n = k + 1 := ⟨n - 1, by omega⟩
    obtain ⟨n', rfl⟩ : ∃ k, n' = k + 1 := ⟨n' - 1, by omega⟩
    have hc : ¬ (24 : Int32) ≤ zI k := fun h => by rw [e24] at h; exact absurd ((leN (by omega) (by omega)).mp h) (by omega)
    have bX : -100 < X ∧ X < 100 := by rcases d1 with e | e | e <;> rw [e] at hX <;> omega
    have bY : -100 < Y ∧ Y < 100 := by rcases d2 with e | e | e <;> rw [e] at hY <;> omega
    have hX' : X + acz a = wx + ((k + 1 : Nat) : Int) * acz a := by rcases d1 with e | e | e <;> rw [e] at hX ⊢ <;> omega
    have hY' : Y + alz a = wy + ((k + 1 : Nat) : Int) * alz a := by rcases d2 with e | e | e <;> rw [e] at hY ⊢ <;> omega
    have h := ih (k + 1) n n' (X + acz a) (Y + alz a) (by omega) (by omega) (by omega) (by omega) hX' hY'
    rw [f_X6_crossing_n3, if_neg hc, rdN hp (by omega), a1, bd_s, lt_e, g2, zI_mul, zI_add, ← hX, rdN hp (by omega), b1, bd_s, lt_e, g3, zI_mul, zI_add, ← hY, onChart_z bX.1 bX.2 bY.1 bY.2, bd_s]
    by_cases hon : 0 ≤ X ∧ X ≤ 23 ∧ 0 ≤ Y ∧ Y ≤ 15
    · have hon' : 0 ≤ X ∧ X < 24 ∧ 0 ≤ Y ∧ Y < 16 := by omega
      have q1 : ¬ zI (24 * Y + X) = (-1 : Int32) := by rw [em, zI_eq (by omega) (by omega) (by omega) (by omega)]; omega
      have q3 : ¬ zI (24 * Y + X) = zI (24 * wy + wx) := by
        rw [zI_eq (by omega) (by omega) (by omega) (by omega)]
        rcases d1 with e | e | e <;> rcases d2 with e' | e' | e' <;> rw [e] at hX <;> rw [e'] at hY <;> omega
      rw [if_pos hon, decide_eq_true hon, b2_t, i10, rdN hq (by omega), rdN hq (by omega), l2, l3, ow_c hon' l1 hb, bd_s, f_X12_bearings_n56, if_neg q1, rdN hp (by omega), g4, if_neg q3, rdN hq (by omega), rdN hq (by omega), l4, ow_r hon' l1 hb, bd_s, lt_e, zs1, stepOn_z hon' ha, bd_s]
      by_cases q4 : zI (24 * Y + X) = zI (24 * qy + qx)
      · rw [if_pos q4]
        rw [zI_eq (by omega) (by omega) (by omega) (by omega)] at q4
        have hf : onW X Y qx qy (acz b) (alz b) = false := by
          have e1 : X = qx := by omega
          have e2 : Y = qy := by omega
          rw [e1, e2]
          unfold onW dz
          exact decide_eq_false (by omega)
        rw [hf, b2_f, i00]
        exact h
      · rw [if_neg q4]
        cases hf : onW X Y qx qy (acz b) (alz b) with
        | false => rw [b2_f, i00, i00]; exact h
        | true =>
          rw [b2_t, i10, i10]
          refine ⟨_, ?_, rfl⟩
          unfold f_X1_place
          have e24 : (24 : Int32) = zI 24 := rfl
          rw [e24, zI_mul, zI_add]
          rfl
    · rw [if_neg hon, decide_eq_false hon, b2_f, i00, f_X12_bearings_n56, if_pos rfl]
      exact ⟨_, rfl, rfl⟩
theorem bearings_ok : hp_bearings Inv := by
  intro C M hI x1 x2 x3 x4
  obtain ⟨h1, h2, h3, h4, h5⟩ := id hI
  unfold f_X11_bearings f_X12_bearings
  rw [hasWeb_e, isWeb_e, bd_s, bd_s, hasWeb_e, isWeb_e, bd_s, bd_s, h2.1, within_e, in_e, bd_s, bd_s, within_e, in_e, bd_s, bd_s]
  cases ht : tb (M.1 5) x1 with
  | false => rw [b2_f, i00, i00]; exact ⟨_, _, rfl, rfl, rfl, hI⟩
  | true =>
    rw [b2_t, i10, i10]
    cases ht' : tb (M.1 5) x3 with
    | false => rw [b2_f, i00, i00]; exact ⟨_, _, rfl, rfl, rfl, hI⟩
    | true =>
      rw [b2_t, i10, i10]
      by_cases he : x1 = x3
      · rw [if_pos he, if_pos he]; exact ⟨_, _, rfl, rfl, rfl, hI⟩
      · rw [if_neg he, if_neg he]
        by_cases hx : (0 : Int32) ≤ x2 ∧ x2 ≤ 7
        · rw [decide_eq_true hx, b2_t, i10, i10]
          by_cases hy : (0 : Int32) ≤ x4 ∧ x4 ≤ 7
          · rw [decide_eq_true hy, b2_t, i10, i10]
            obtain ⟨p, hp, rfl, htp⟩ := tb_t ht
            obtain ⟨q, hq, rfl, htq⟩ := tb_t ht'
            obtain ⟨a, ha, rfl⟩ := in_of 7 (by omega) hx
            obtain ⟨b, hb, rfl⟩ := in_of 7 (by omega) hy
            obtain ⟨wx, wy, hwp⟩ := wp_of hI hp htp
            obtain ⟨qx, qy, hwq⟩ := wp_of hI hq htq
            rw [rdN hp (by omega), hwp.2.2.2, stepOn_z hwp.1 (by omega), bd_s]
            obtain ⟨r, k1, k2⟩ := bear_lp (L := C 8) hp hq hwp hwq (a := a) (b := b) (by omega) (by omega) 23 1 fu fu (wx + acz a) (wy + alz a) (by omega) (by omega) (by decide) (by decide) (by omega) (by omega)
            have k1 : f_X6_crossing (C 8) (C 13) (zI p) (zI a) (zI q) (zI b) = some r := k1
            rw [k1, bd_s, k2]
            exact ⟨_, _, rfl, rfl, rfl, hI⟩
          · rw [decide_eq_false hy, b2_f, i00, i00]; exact ⟨_, _, rfl, rfl, rfl, hI⟩
        · rw [decide_eq_false hx, b2_f, i00, i00]; exact ⟨_, _, rfl, rfl, rfl, hI⟩
