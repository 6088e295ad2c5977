/-! fleetIs, feels, nearest, share -/
theorem wf_of {C : Nat → Gr} {M : Gr} (hI : Inv C M) {p g : Nat} (hp : p < 8) (hg : g < 8) (h1 : tw (M.1 5) p) (h2 : tw (M.1 6) g) : ∃ x y a b f, wfOK (C 13) M p g x y a b f := by
  obtain ⟨x, y, a1, a2, a3, a4, a5, a6, a7⟩ := hI.2.2.1.1 p hp h1
  obtain ⟨f, b1, b2, b3, b4⟩ := hI.2.2.1.2 g hg h2
  obtain ⟨a, b, c, c1, c2, c3, c4, c5, c6, c7, c8, c9, c10, c11⟩ := hI.2.1.2.2.2.2.2.2.2 g hg h2
  exact ⟨x, y, a, b, f, ⟨a1, a2, a3, a4⟩, ⟨c1, c2, c3, c4⟩, ⟨b1, b2⟩, a5, a6, a7, c7, c8, c9, b3, b4⟩
theorem fleetIs_ok : hp_fleetIs Inv := by
  intro C M hI x y
  obtain ⟨h1, h2, h3, h4, h5⟩ := id hI
  unfold f_X11_fleetIs f_X12_fleetIs
  rw [hasFleet_e, isFleet_e, bd_s, bd_s, h2.2.1]
  cases ht : tb (M.1 6) x with
  | false => rw [b2_f, i00, i00]; exact ⟨_, _, rfl, rfl, rfl, hI⟩
  | true =>
    obtain ⟨g, hg, rfl, htw⟩ := tb_t ht
    have ht' : tb ((C 13).1 1) (zI g) = true := by rw [h2.2.1]; exact ht
    obtain ⟨a, b, c, c1, c2, c3, c4, c5, c6, c7, c8, c9, c10, c11⟩ := h2.2.2.2.2.2.2.2 g hg htw
    obtain ⟨f, b1, b2, b3, b4⟩ := h3.2 g hg htw
    rw [b2_t, i10, i10]
    by_cases y0 : y = 0
    · rw [if_pos y0, if_pos y0, bd_some, ix64, rdN (by omega) (by omega)]
      unfold f_X7_placeOfFleet
      rw [hasFleet_e, ht', bd_s, b2_t, i10, rdN hg (by omega), rdN hg (by omega)]
      refine ⟨_, _, rfl, rfl, ?_, hI⟩
      show 24 * (C 13).2 6 g + (C 13).2 5 g = M.2 0 (64 + g)
      have e24 : (24 : Int32) = zI 24 := rfl
      rw [c7, c8, c9, e24, zI_mul, zI_add]
    · rw [if_neg y0, if_neg y0]
      by_cases y1 : y = 1
      · rw [if_pos y1, if_pos y1, rdN hg (by omega), rdN hg (by omega)]
        exact ⟨_, _, rfl, rfl, b3.trans b4.symm, hI⟩
      · rw [if_neg y1, if_neg y1]
        by_cases y2 : y = 2
        · rw [if_pos y2, if_pos y2, bd_some, ix72, rdN (by omega) (by omega)]
          unfold f_X7_toldCourse f_X12_orNone
          rw [hasFleet_e, ht', bd_s, b2_t, i10, rdN hg (by omega), rdN hg (by omega), c10, c11]
          have e8 : (8 : Int32) = zI 8 := rfl
          have em : (-1 : Int32) = zI (-1) := rfl
          by_cases hc : c = 8
          · have q1 : zI c = (8 : Int32) := by rw [hc]; rfl
            rw [if_pos hc, if_pos q1, if_pos em.symm]
            exact ⟨_, _, rfl, rfl, rfl, hI⟩
          · have q1 : ¬ zI c = (8 : Int32) := by rw [e8, zI_eq (by omega) (by omega) (by omega) (by omega)]; exact hc
            have q2 : ¬ zI c = (-1 : Int32) := by rw [em, zI_eq (by omega) (by omega) (by omega) (by omega)]; omega
            rw [if_neg hc, if_neg q1, if_neg q2]
            exact ⟨_, _, rfl, rfl, rfl, hI⟩
        · rw [if_neg y2, if_neg y2]; exact ⟨_, _, rfl, rfl, rfl, hI⟩
/-- the best of fleets so far -/
def bestF (S M : Gr) (p : Nat) (best most : Int32) : Prop := ∃ q : Int, 0 ≤ q ∧ q ≤ 99 ∧ most = zI q ∧ (best = -2 ∨ ∃ (g : Nat) (x y a b f : Int), g < 8 ∧ best = zI g ∧ wfOK S M p g x y a b f ∧ q = f - dz a b x y)
theorem feels_lp {C : Nat → Gr} {M : Gr} (hI : Inv C M) {p : Nat} (hp : p < 8) (hw : tw (M.1 5) p) (x2 : Int32) : ∀ (d m n n' : Nat) (best most : Int32), m + d = 8 → d < n → d < n' → bestF (C 13) M p best most → ∃ r s, f_X7_strongestFleet_n8 (C 13) (zI p) n best most (zI m) = some r ∧ bestF (C 13) M p r s ∧ f_X12_feels_n28 M (zI p) x2 n' best most (zI m) = (if x2 = 0 then (some r) else (if r = (-2) then (some r) else (if x2 = 1 then (rd' (M.2 3) 8 (zI p) fun v9 => rd' (M.2 0) 82 (64 + r) fun v10 => (f_X12_towards v9 v10).bind fun u11 => some u11) else (some s)))) := by
  intro d
  induction d with
  | zero =>
    intro m n n' best most hm hn hn' hb
    obtain ⟨n, rfl⟩ : ∃ k, n = k + 1 := ⟨n - 1, by omega⟩
    obtain ⟨n', rfl⟩ : ∃ k, n' = k + 1 := ⟨n' - 1, by omega⟩
    refine ⟨best, most, ?_, hb, ?_⟩
    · rw [f_X7_strongestFleet_n8, if_pos (le8 (by omega) (by omega))]
    · rw [f_X12_feels_n28, if_pos (le8 (by omega) (by omega))]
  | succ d ih =>
    intro m n n' best most hm hn hn' hb
    obtain ⟨n, rfl⟩ : ∃ k, n = k + 1 := ⟨n - 1, by omega⟩
    obtain ⟨n', rfl⟩ : ∃ k, n' = k + 1 := ⟨n' - 1, by omega⟩
    rw [f_X7_strongestFleet_n8, if_neg (nle8 (by omega)), f_X12_feels_n28, if_neg (nle8 (by omega)), hasFleet_e, isFleet_e, bd_s, bd_s, hI.2.1.2.1]
    cases ht : tb (M.1 6) (zI m) with
    | false =>
      rw [b2_f, i00, i00, lt_e, lt_e, zs1]
      exact ih (m + 1) n n' best most (by omega) (by omega) (by omega) hb
    | true =>
      obtain ⟨x, y, a, b, f, hwf⟩ := wf_of hI hp (by omega) hw ((tb_z (w := M.1 6) (p := m) (by omega)).mp ht)
      obtain ⟨q1, q2, q3, q4⟩ := felt_b hp (by omega) hwf
      obtain ⟨q, c1, c2, c3, c4⟩ := id hb
      have hdz := dz_b hwf.2.1 hwf.1
      have hf := hwf.2.2.1
      rw [b2_t, i10, i10, q1, q2, bd_s, bd_s, bd_s, bd_s, lt_e, lt_e, lt_e, lt_e, zs1]
      by_cases hle : f - dz a b x y ≤ q
      · have k1 : zI (f - dz a b x y) ≤ most := by rw [c3, zI_le (by omega) (by omega) (by omega) (by omega)]; exact hle
        have k2 : ¬ most < zI (f - dz a b x y) := by rw [c3, zI_lt (by omega) (by omega) (by omega) (by omega)]; omega
        rw [if_pos k1, if_neg k2]
        exact ih (m + 1) n n' best most (by omega) (by omega) (by omega) hb
      · have k1 : ¬ zI (f - dz a b x y) ≤ most := by rw [c3, zI_le (by omega) (by omega) (by omega) (by omega)]; exact hle
        have k2 : most < zI (f - dz a b x y) := by rw [c3, zI_lt (by omega) (by omega) (by omega) (by omega)]; omega
        rw [if_neg k1, if_pos k2]
        exact ih (m + 1) n n' _ _ (by omega) (by omega) (by omega) ⟨f - dz a b x y, by omega, by omega, rfl, Or.inr ⟨m, x, y, a, b, f, by omega, rfl, hwf, rfl⟩⟩
theorem feels_ok : hp_feels Inv := by
  intro C M hI x y
  obtain ⟨h1, h2, h3, h4, h5⟩ := id hI
  unfold f_X11_feels f_X12_feels
  rw [hasWeb_e, isWeb_e, bd_s, bd_s, h2.1]
  cases ht : tb (M.1 5) x with
  | false => rw [b2_f, i00, i00]; exact ⟨_, _, rfl, rfl, rfl, hI⟩
  | true =>
    obtain ⟨p, hp, rfl, htw⟩ := tb_t ht
    rw [b2_t, i10, i10, within_e, in_e, bd_s, bd_s]
    by_cases hy : (0 : Int32) ≤ y ∧ y ≤ 2
    · rw [decide_eq_true hy, b2_t, i10, i10]
      obtain ⟨r, s, q1, q2, q3⟩ := feels_lp hI hp htw y 8 0 fu fu (-2) 0 (by omega) (by decide) (by decide) ⟨0, by omega, by omega, rfl, Or.inl rfl⟩
      have q1 : f_X7_strongestFleet (C 13) (zI p) = some r := q1
      have q3 : f_X12_feels_n28 M (zI p) y fu (-2) 0 0 = _ := q3
      rw [q1, bd_s, q3]
      obtain ⟨q, c1, c2, c3, c4⟩ := q2
      by_cases hr : r = -2
      · rw [if_pos hr]
        by_cases y0 : y = 0
        · rw [if_pos y0]; exact ⟨_, _, rfl, rfl, rfl, hI⟩
        · rw [if_neg y0, if_pos hr]; exact ⟨_, _, rfl, rfl, rfl, hI⟩
      · rw [if_neg hr]
        obtain ⟨g, xx, yy, a, b, f, hg, rfl, hwf, hq⟩ := c4.resolve_left hr
        obtain ⟨k1, k2, k3, k4⟩ := felt_b hp hg hwf
        by_cases y0 : y = 0
        · rw [if_pos y0, if_pos y0]; exact ⟨_, _, rfl, rfl, rfl, hI⟩
        · rw [if_neg y0, if_neg y0, if_neg hr]
          by_cases y1 : y = 1
          · rw [if_pos y1, if_pos y1, k4, rdN hp (by omega), ix64, rdN (by omega) (by omega), hwf.2.2.2.2.2.1, hwf.2.2.2.2.2.2.2.2.1, sp_m hwf.1 hwf.2.1]
            exact ⟨_, _, rfl, rfl, rfl, hI⟩
          · rw [if_neg y1, if_neg y1, k1]
            exact ⟨_, _, rfl, rfl, by rw [c3, hq], hI⟩
    · rw [decide_eq_false hy, b2_f, i00, i00]; exact ⟨_, _, rfl, rfl, rfl, hI⟩
/-- a told web's place -/
def wpOK (S M : Gr) (p : Nat) (x y : Int) : Prop := (0 ≤ x ∧ x < 24 ∧ 0 ≤ y ∧ y < 16) ∧ S.2 2 p = zI x ∧ S.2 3 p = zI y ∧ M.2 3 p = zI (24 * y + x)
theorem wp_of {C : Nat → Gr} {M : Gr} (hI : Inv C M) {p : Nat} (hp : p < 8) (h1 : tw (M.1 5) p) : ∃ x y, wpOK (C 13) M p x y := by
  obtain ⟨x, y, a1, a2, a3, a4, a5, a6, a7⟩ := hI.2.2.1.1 p hp h1
  exact ⟨x, y, ⟨a1, a2, a3, a4⟩, a5, a6, a7⟩
theorem way_b {S M L : Gr} {p : Nat} {x y a b : Int} (hp : p < 8) (h : wpOK S M p x y) (h' : 0 ≤ a ∧ a < 24 ∧ 0 ≤ b ∧ b < 16) : f_X6_wayTo L S (zI p) (zI a) (zI b) = some (zI (dz a b x y)) := by
  obtain ⟨h1, q1, q2, q3⟩ := h
  unfold f_X6_wayTo
  rw [rdN hp (by omega), rdN hp (by omega), q1, q2, dist_c h' h1, bd_s]
def bestW (S M : Gr) (a b : Int) (best least : Int32) : Prop := (best = -2 ∧ least = 24) ∨ ∃ (g : Nat) (x y : Int), g < 8 ∧ best = zI g ∧ wpOK S M g x y ∧ least = zI (dz a b x y)
theorem near_lp {C : Nat → Gr} {M L : Gr} (hI : Inv C M) {a b : Int} (hab : 0 ≤ a ∧ a < 24 ∧ 0 ≤ b ∧ b < 16) : ∀ (d m n n' : Nat) (best least : Int32), m + d = 8 → d < n → d < n' → bestW (C 13) M a b best least → ∃ r, f_X6_webNearTo_n11 L (C 13) (zI a) (zI b) n best least (zI m) = some r ∧ f_X12_nearestTo_n5 M (zI (24 * b + a)) n' best (zI m) = some r := by
  intro d
  induction d with
  | zero =>
    intro m n n' best least hm hn hn' hb
    obtain ⟨n, rfl⟩ : ∃ k, n = k + 1 := ⟨n - 1, by omega⟩
    obtain ⟨n', rfl⟩ : ∃ k, n' = k + 1 := ⟨n' - 1, by omega⟩
    refine ⟨best, ?_, ?_⟩
    · rw [f_X6_webNearTo_n11, if_pos (le8 (by omega) (by omega))]
    · rw [f_X12_nearestTo_n5, if_pos (le8 (by omega) (by omega))]
  | succ d ih =>
    intro m n n' best least hm hn hn' hb
    obtain ⟨n, rfl⟩ : ∃ k, n = k + 1 := ⟨n - 1, by omega⟩
    obtain ⟨n', rfl⟩ : ∃ k, n' = k + 1 := ⟨n' - 1, by omega⟩
    rw [f_X6_webNearTo_n11, if_neg (nle8 (by omega)), f_X12_nearestTo_n5, if_neg (nle8 (by omega)), hasWeb_e, isWeb_e, bd_s, bd_s, hI.2.1.1]
    cases ht : tb (M.1 5) (zI m) with
    | false =>
      rw [b2_f, i00, i00, lt_e, lt_e, zs1]
      exact ih (m + 1) n n' best least (by omega) (by omega) (by omega) hb
    | true =>
      obtain ⟨x, y, hwp⟩ := wp_of hI (p := m) (by omega) ((tb_z (w := M.1 5) (p := m) (by omega)).mp ht)
      have hdz := dz_b hab hwp.1
      rw [b2_t, i10, i10, way_b (by omega) hwp hab, bd_s, bd_s]
      simp only [lt_e, zs1]
      rcases id hb with ⟨e1, e2⟩ | ⟨g, x', y', hg, e1, hwp', e2⟩
      · have k1 : ¬ least ≤ zI (dz a b x y) := by
          have e24 : (24 : Int32) = zI 24 := rfl
          rw [e2, e24, zI_le (by omega) (by omega) (by omega) (by omega)]; omega
        rw [if_neg k1, if_pos e1]
        exact ih (m + 1) n n' _ _ (by omega) (by omega) (by omega) (Or.inr ⟨m, x, y, by omega, rfl, hwp, rfl⟩)
      · have hdz' := dz_b hab hwp'.1
        have k0 : ¬ best = -2 := by
          have em : (-2 : Int32) = zI (-2) := rfl
          rw [e1, em, zI_eq (by omega) (by omega) (by omega) (by omega)]; omega
        rw [if_neg k0, rdN (by omega) (by omega), hwp.2.2.2, dist_m hwp.1 hab, bd_s, e1, rdN hg (by omega), hwp'.2.2.2, dist_m hwp'.1 hab, bd_s, dz_c x y a b, dz_c x' y' a b, ← e1]
        by_cases hle : dz a b x' y' ≤ dz a b x y
        · have k1 : least ≤ zI (dz a b x y) := by rw [e2, zI_le (by omega) (by omega) (by omega) (by omega)]; exact hle
          have k2 : zI (dz a b x' y') ≤ zI (dz a b x y) := by rw [zI_le (by omega) (by omega) (by omega) (by omega)]; exact hle
          rw [if_pos k1, if_pos k2]
          exact ih (m + 1) n n' best least (by omega) (by omega) (by omega) hb
        · have k1 : ¬ least ≤ zI (dz a b x y) := by rw [e2, zI_le (by omega) (by omega) (by omega) (by omega)]; exact hle
          have k2 : ¬ zI (dz a b x' y') ≤ zI (dz a b x y) := by rw [zI_le (by omega) (by omega) (by omega) (by omega)]; exact hle
          rw [if_neg k1, if_neg k2]
          exact ih (m + 1) n n' _ _ (by omega) (by omega) (by omega) (Or.inr ⟨m, x, y, by omega, rfl, hwp, rfl⟩)
theorem near_b {C : Nat → Gr} {M L : Gr} (hI : Inv C M) {a b : Int} (hab : 0 ≤ a ∧ a < 24 ∧ 0 ≤ b ∧ b < 16) : ∃ r, f_X6_webNearTo L (C 13) (zI a) (zI b) = some r ∧ f_X12_nearestTo M (zI (24 * b + a)) = some r :=
  near_lp hI hab 8 0 fu fu (-2) 24 (by omega) (by decide) (by decide) (Or.inl ⟨rfl, rfl⟩)
theorem in_of {x : Int32} (k : Nat) (hk : k < 100000) (h : zI 0 ≤ x ∧ x ≤ zI k) : ∃ j : Nat, j ≤ k ∧ x = zI j := by
  obtain ⟨a, c1, c2, rfl⟩ := zI_of x
  rw [zI_le (by omega) (by omega) c1 c2, zI_le c1 c2 (by omega) (by omega)] at h
  exact ⟨a.toNat, by omega, by congr 1; omega⟩
theorem nearest_ok : hp_nearest Inv := by
  intro C M hI x y
  unfold f_X11_nearest f_X12_nearest f_X1_onChart
  rw [within_e, within_e, in_e, in_e, bd_s, bd_s, bd_s, bd_s]
  by_cases hx : (0 : Int32) ≤ x ∧ x ≤ 23
  · rw [decide_eq_true hx, b2_t, i10, i10]
    by_cases hy : (0 : Int32) ≤ y ∧ y ≤ 15
    · rw [decide_eq_true hy, b2_t, i10, i10, bd_s, i10, bd_some, bd_some]
      obtain ⟨i, hi, rfl⟩ := in_of 23 (by omega) hx
      obtain ⟨j, hj, rfl⟩ := in_of 15 (by omega) hy
      obtain ⟨r, q1, q2⟩ := near_b (L := C 8) hI (a := i) (b := j) (by omega)
      have e24 : (24 : Int32) = zI 24 := rfl
      rw [q1, e24, zI_mul, zI_add, q2]
      exact ⟨_, _, rfl, rfl, rfl, hI⟩
    · rw [decide_eq_false hy, b2_f, i00, i00, bd_s, i00]; exact ⟨_, _, rfl, rfl, rfl, hI⟩
  · rw [decide_eq_false hx, b2_f, i00, i00, bd_s, i00]; exact ⟨_, _, rfl, rfl, rfl, hI⟩
theorem pl_of (m : Nat) (hm : m < 384) : ∃ a b : Int, (0 ≤ a ∧ a < 24 ∧ 0 ≤ b ∧ b < 16) ∧ zI m = zI (24 * b + a) := ⟨((m % 24 : Nat) : Int), ((m / 24 : Nat) : Int), by omega, by congr 1; omega⟩
theorem share_lp {C : Nat → Gr} {M L : Gr} (hI : Inv C M) (p : Int32) : ∀ (d m n n' : Nat) (acc : Int32), m + d = 384 → d < n → d < n' → ∃ r, f_X6_placesNearTo_n5 L (C 13) p n acc (zI m) = some r ∧ f_X12_share_n14 M p n' acc (zI m) = some r := by
  intro d
  induction d with
  | zero =>
    intro m n n' acc hm hn hn'
    obtain ⟨n, rfl⟩ : ∃ k, n = k + 1 := ⟨n - 1, by omega⟩
    obtain ⟨n', rfl⟩ : ∃ k, n' = k + 1 := ⟨n' - 1, by omega⟩
    refine ⟨acc, ?_, ?_⟩
    · rw [f_X6_placesNearTo_n5, if_pos (le384 (by omega) (by omega))]
    · rw [f_X12_share_n14, if_pos (le384 (by omega) (by omega))]
  | succ d ih =>
    intro m n n' acc hm hn hn'
    obtain ⟨n, rfl⟩ : ∃ k, n = k + 1 := ⟨n - 1, by omega⟩
    obtain ⟨n', rfl⟩ : ∃ k, n' = k + 1 := ⟨n' - 1, by omega⟩
    obtain ⟨a, b, hab, e⟩ := pl_of m (by omega)
    obtain ⟨r, q1, q2⟩ := near_b (L := L) hI hab
    rw [f_X6_placesNearTo_n5, if_neg (nle384 (by omega)), f_X12_share_n14, if_neg (nle384 (by omega))]
    simp only [lt_e, zs1]
    rw [e, pl_rem (by omega) (by omega) (by omega) (by omega), pl_div (by omega) (by omega) (by omega) (by omega), q1, q2, bd_s, bd_s]
    by_cases hr : r = p
    · rw [if_pos hr, if_pos hr]; exact ih (m + 1) n n' _ (by omega) (by omega) (by omega)
    · rw [if_neg hr, if_neg hr]; exact ih (m + 1) n n' _ (by omega) (by omega) (by omega)
theorem share_ok : hp_share Inv := by
  intro C M hI x
  unfold f_X11_share f_X12_share
  rw [hasWeb_e, isWeb_e, bd_s, bd_s, hI.2.1.1]
  cases ht : tb (M.1 5) x with
  | false => rw [b2_f, i00, i00]; exact ⟨_, _, rfl, rfl, rfl, hI⟩
  | true =>
    rw [b2_t, i10, i10, bd_some]
    obtain ⟨r, q1, q2⟩ := share_lp (L := C 8) hI x 384 0 fu fu 0 (by omega) (by decide) (by decide)
    exact ⟨r, r, q1, q2, rfl, hI⟩
