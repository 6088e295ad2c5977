/-! when -/
def fixR (S N : Gr) (p g : Nat) : Prop := (∃ x y : Int, (0 ≤ x ∧ x < 24 ∧ 0 ≤ y ∧ y < 16) ∧ S.2 2 p = zI x ∧ S.2 3 p = zI y ∧ N.2 3 p = zI (24 * y + x)) ∧ ∃ v : Int, 0 ≤ v ∧ v ≤ 99 ∧ S.2 7 g = zI v ∧ N.2 4 g = zI v
theorem fixR.mv {S N S' N' : Gr} {p g : Nat} (h : fixR S N p g) (k : mvS S S') (l : mvM N N') : fixR S' N' p g := by
  unfold fixR
  rw [k.2.1, k.2.2.1, k.2.2.2.2, l.2.1 3 (by omega), l.2.1 4 (by omega)]; exact h
theorem wf_dyn {S N : Gr} {w f : Int32} {p g : Nat} (H : dynR S N w f) (F : fixR S N p g) (hg : g < 8) (ht : tw f g) : ∃ x y a b v, wfOK S N p g x y a b v := by
  obtain ⟨⟨x, y, h1, h2, h3, h4⟩, v, k1, k2, k3, k4⟩ := F
  obtain ⟨a, b, c, c1, c2, c3, c4, c5, c6, c7, c8, c9, c10, c11⟩ := H.2.2.2.2.2.2.2 g hg ht
  exact ⟨x, y, a, b, v, h1, ⟨c1, c2, c3, c4⟩, ⟨k1, k2⟩, h2, h3, h4, c7, c8, c9, k3, k4⟩
/-- the reference but for its row and what is put aside -/
def nowM (M N : Gr) : Prop := N.1 = M.1 ∧ (∀ j, j ≠ 0 → j ≠ 1 → N.2 j = M.2 j)
theorem nowM.mv {M N N' : Gr} (h : nowM M N) (k : mvM N N') : nowM M N' := ⟨k.1.trans h.1, fun j h0 h1 => (k.2.1 j h0).trans (h.2 j h0 h1)⟩
theorem Inv_now {C C' : Nat → Gr} {M N : Gr} (hI : Inv C M) (h : nowM M N) (h0 : ∀ j, j < 82 → N.2 0 j = M.2 0 j) (e1 : C' 1 = C 1) (e13 : C' 13 = C 13) (e0 : C' 0 = C 0) (e15 : C' 15 = C 15) (e11 : C' 11 = C 11) : Inv C' N := by
  obtain ⟨a1, a2, a3, a4, a5⟩ := hI
  unfold Inv
  rw [h.1, e1, e13, e0, e15, e11, h.2 7 (by omega) (by omega), h.2 3 (by omega) (by omega), h.2 4 (by omega) (by omega), h.2 2 (by omega) (by omega), h.2 24 (by omega) (by omega), h.2 25 (by omega) (by omega), h.2 26 (by omega) (by omega), h.2 27 (by omega) (by omega), h.2 28 (by omega) (by omega)]
  exact ⟨a1, dyn_congr a2 (fun _ _ => rfl) (fun _ _ => rfl) (fun _ _ => rfl) (fun _ _ => rfl) h0, a3, a4, a5⟩
theorem n71_e {M N : Gr} {p g : Nat} {x3 x4 : Int32} {F : Int} (hb : -1000 < F ∧ F < 1000) (hF : f_X12_feltBy N (zI p) (zI g) = some (zI F)) (hN : nowM M N) (ha : ∀ j, j < 82 → N.2 1 j = M.2 0 j) : ∃ N', f_X12_when_n71 (zI p) (zI g) x3 N x4 = some (if F ≤ 0 then -2 else x4, N') ∧ nowM M N' ∧ ∀ j, j < 82 → N'.2 0 j = M.2 0 j := by
  obtain ⟨R, q1, q2⟩ := copies_b ((fun _ => 0, fun _ => N.2 1) : Gr) ((fun _ => 0, fun _ => N.2 0) : Gr)
  have e0 : (0 : Int32) = zI 0 := rfl
  have c : (zI F ≤ 0) ↔ F ≤ 0 := by rw [e0, zI_le (by omega) (by omega) (by omega) (by omega)]
  have hfin : nowM M (sR N 0 (R.2 0)) ∧ ∀ j, j < 82 → (sR N 0 (R.2 0)).2 0 j = M.2 0 j := ⟨⟨hN.1, fun j h0 h1 => by rw [sR_2, if_neg h0]; exact hN.2 j h0 h1⟩, fun j hj => by rw [sR_2, if_pos rfl, q2 j hj]; exact ha j hj⟩
  unfold f_X12_when_n71
  rw [hF, bd_s]
  by_cases h : F ≤ 0
  · rw [if_pos (c.mpr h), q1, bd_s, lt_e, i00, if_pos h]
    exact ⟨_, rfl, hfin⟩
  · rw [if_neg (fun z => h (c.mp z)), q1, bd_s, lt_e, i10, if_neg h]
    exact ⟨_, rfl, hfin⟩
theorem when_lp {A B M : Gr} {w f : Int32} {p g c : Nat} (hp : p < 8) (hg : g < 8) (hc : c ≤ 100) (ht : tw f g) (hf : M.1 6 = f) :
    ∀ (d m n n' : Nat) (S N : Gr), m + d = c → d + 1 < n → d < n' → dynR S N w f → fixR S N p g → nowM M N → (∀ j, j < 82 → N.2 1 j = M.2 0 j) → ∃ r S' N', f_X11_when_n48 A B (zI p) (zI g) (zI c) n S (zI m) = some (r, S') ∧ f_X12_when_n42 (zI p) (zI g) (zI c) n' N (zI m) = some (r, N') ∧ nowM M N' ∧ ∀ j, j < 82 → N'.2 0 j = M.2 0 j := by
  have e0 : (0 : Int32) = zI 0 := rfl
  intro d
  induction d with
  | zero =>
    intro m n n' S N hm hn hn' H F hN ha
    obtain ⟨n, rfl⟩ : ∃ k, n = k + 1 + 1 := ⟨n - 2, by omega⟩
    obtain ⟨n', rfl⟩ : ∃ k, n' = k + 1 := ⟨n' - 1, by omega⟩
    obtain ⟨x, y, a, b, v, hwf⟩ := wf_dyn H F hg ht
    obtain ⟨q1, q2, -, -⟩ := felt_b hp hg hwf
    have hdz := dz_b hwf.2.1 hwf.1
    have hv := hwf.2.2.1
    have h1 : ¬ zI c < zI m := fun h => absurd ((ltN (by omega) (by omega)).mp h) (by omega)
    have h2 : zI c ≤ zI m := (leN (by omega) (by omega)).mpr (by omega)
    obtain ⟨N', r1, r2, r3⟩ := n71_e (x3 := zI c) (x4 := zI m) (by omega) q2 hN ha
    rw [f_X11_when_n48, if_neg h1, q1, bd_s, f_X12_when_n42, q2, bd_s, r1]
    by_cases hF : v - dz a b x y ≤ 0
    · have k1 : zI (v - dz a b x y) ≤ 0 := by rw [e0, zI_le (by omega) (by omega) (by omega) (by omega)]; exact hF
      have k2 : ¬ (0 : Int32) < zI (v - dz a b x y) := by rw [e0, zI_lt (by omega) (by omega) (by omega) (by omega)]; omega
      obtain ⟨S', N'', m1, m2, m3, m4, m5⟩ := move_b H (by rw [hN.1]; exact hf) hg
      have h3 : zI c < zI ((m + 1 : Nat) : Int) := (ltN (by omega) (by omega)).mpr (by omega)
      rw [if_pos k1, if_neg k2, if_pos h2, if_pos hF, m1, bd_s, lt_e, zs1, f_X11_when_n48, if_pos h3]
      exact ⟨_, _, _, rfl, rfl, r2, r3⟩
    · have k1 : ¬ zI (v - dz a b x y) ≤ 0 := by rw [e0, zI_le (by omega) (by omega) (by omega) (by omega)]; exact hF
      have k2 : (0 : Int32) < zI (v - dz a b x y) := by rw [e0, zI_lt (by omega) (by omega) (by omega) (by omega)]; omega
      rw [if_neg k1, if_pos k2, if_neg hF]
      exact ⟨_, _, _, rfl, rfl, r2, r3⟩
  | succ d ih =>
    intro m n n' S N hm hn hn' H F hN ha
    obtain ⟨n, rfl⟩ : ∃ k, n = k + 1 := ⟨n - 1, by omega⟩
    obtain ⟨n', rfl⟩ : ∃ k, n' = k + 1 := ⟨n' - 1, by omega⟩
    obtain ⟨x, y, a, b, v, hwf⟩ := wf_dyn H F hg ht
    obtain ⟨q1, q2, -, -⟩ := felt_b hp hg hwf
    have hdz := dz_b hwf.2.1 hwf.1
    have hv := hwf.2.2.1
    have h1 : ¬ zI c < zI m := fun h => absurd ((ltN (by omega) (by omega)).mp h) (by omega)
    have h2 : ¬ zI c ≤ zI m := fun h => absurd ((leN (by omega) (by omega)).mp h) (by omega)
    obtain ⟨N', r1, r2, r3⟩ := n71_e (x3 := zI c) (x4 := zI m) (by omega) q2 hN ha
    rw [f_X11_when_n48, if_neg h1, q1, bd_s, f_X12_when_n42, q2, bd_s, r1]
    by_cases hF : v - dz a b x y ≤ 0
    · have k1 : zI (v - dz a b x y) ≤ 0 := by rw [e0, zI_le (by omega) (by omega) (by omega) (by omega)]; exact hF
      have k2 : ¬ (0 : Int32) < zI (v - dz a b x y) := by rw [e0, zI_lt (by omega) (by omega) (by omega) (by omega)]; omega
      obtain ⟨S', N'', m1, m2, m3, m4, m5⟩ := move_b H (by rw [hN.1]; exact hf) hg
      rw [if_pos k1, if_neg k2, if_neg h2, m1, bd_s, lt_e, zs1, m2, bd_s, lt_e]
      exact ih (m + 1) n n' S' N'' (by omega) (by omega) (by omega) m3 (F.mv m4 m5) (hN.mv m5) (fun j hj => by rw [m5.2.1 1 (by omega)]; exact ha j hj)
    · have k1 : ¬ zI (v - dz a b x y) ≤ 0 := by rw [e0, zI_le (by omega) (by omega) (by omega) (by omega)]; exact hF
      have k2 : (0 : Int32) < zI (v - dz a b x y) := by rw [e0, zI_lt (by omega) (by omega) (by omega) (by omega)]; omega
      rw [if_neg k1, if_pos k2, if_neg hF]
      exact ⟨_, _, _, rfl, rfl, r2, r3⟩
theorem Inv_14 {C : Nat → Gr} {M : Gr} (hI : Inv C M) (S : Gr) : Inv (va_up C 14 S) M := hI
theorem when_ok : hp_when Inv := by
  intro C M hI x y z
  obtain ⟨h1, h2, h3, h4, h5⟩ := id hI
  unfold f_X11_when f_X12_when
  rw [hasWeb_e, isWeb_e, bd_s, bd_s, hasFleet_e, isFleet_e, bd_s, bd_s, within_e, in_e, bd_s, bd_s, h2.1, h2.2.1]
  cases ht : tb (M.1 5) x with
  | false => rw [b2_f, i00, i00]; exact ⟨_, _, rfl, rfl, rfl, Inv_14 hI _⟩
  | true =>
    rw [b2_t, i10, i10]
    cases hu : tb (M.1 6) y with
    | false => rw [b2_f, i00, i00]; exact ⟨_, _, rfl, rfl, rfl, Inv_14 hI _⟩
    | true =>
      rw [b2_t, i10, i10]
      by_cases hz : (1 : Int32) ≤ z ∧ z ≤ 100
      · rw [decide_eq_true hz, b2_t, i10, i10]
        obtain ⟨p, hp, rfl, htw⟩ := tb_t ht
        obtain ⟨g, hg, rfl, huw⟩ := tb_t hu
        obtain ⟨c, hc1, hc2, rfl⟩ := in_of2 1 100 (by omega) (by omega) hz
        obtain ⟨R, q1, q2⟩ := copyFrom_b (C 14) (C 13)
        obtain ⟨U, p1, p2⟩ := copies_b ((fun _ => 0, fun _ => M.2 0) : Gr) ((fun _ => 0, fun _ => M.2 1) : Gr)
        rw [q1, bd_s, p1, bd_s, lt_e]
        obtain ⟨c1, c2, c3, c4, c5, c6, c7, c8, c9, c10, c11⟩ := q2
        have H : dynR R (sR M 1 (U.2 0)) (M.1 5) (M.1 6) := by
          show seaDyn (R.1 0) (R.1 1) (R.1 9) (R.1 10) (R.2 4) (R.2 5) (R.2 6) (R.2 8) (M.1 5) (M.1 6) (M.2 0)
          rw [c1, c2, c3, c4]
          exact dyn_congr h2 c7 c8 c9 c11 (fun _ _ => rfl)
        obtain ⟨a, b, a1, a2, a3, a4, a5, a6, a7⟩ := h3.1 p hp htw
        obtain ⟨v, b1, b2, b3, b4⟩ := h3.2 g hg huw
        have F : fixR R (sR M 1 (U.2 0)) p g := ⟨⟨a, b, ⟨a1, a2, a3, a4⟩, (c5 p hp).trans a5, (c6 p hp).trans a6, a7⟩, v, b1, b2, (c10 g hg).trans b3, b4⟩
        obtain ⟨r, S', N', r1, r2, r3, r4⟩ := when_lp (A := C 0) (B := C 13) (M := M) hp hg hc2 huw rfl c 0 fu fu R (sR M 1 (U.2 0)) (by omega) (by show c + 1 < 1000; omega) (by show c < 1000; omega) H F ⟨rfl, fun j j0 j1 => by rw [sR_2, if_neg j1]⟩ (fun j hj => by rw [sR_2, if_pos rfl]; exact p2 j hj)
        have r1 : f_X11_when_n48 (C 0) (C 13) (zI p) (zI g) (zI c) fu R 0 = _ := r1
        have r2 : f_X12_when_n42 (zI p) (zI g) (zI c) fu (sR M 1 (U.2 0)) 0 = _ := r2
        rw [r1, r2]
        exact ⟨_, _, rfl, rfl, rfl, Inv_now hI r3 r4 rfl rfl rfl rfl rfl⟩
      · rw [decide_eq_false hz, b2_f, i00, i00]; exact ⟨_, _, rfl, rfl, rfl, Inv_14 hI _⟩
