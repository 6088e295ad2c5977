/-! allTheSea -/
def nr (M : Gr) (x : Int32) (m j : Nat) : Bool := tb (M.1 5) (zI j) && (match f_X12_distance (M.2 3 j) (zI m) with | some d => !decide (x < d) | none => false)
theorem nr_f {M : Gr} {x : Int32} {m j : Nat} (h : tb (M.1 5) (zI j) = false) : nr M x m j = false := by unfold nr; rw [h]; rfl
theorem nr_t {M : Gr} {x : Int32} {m j : Nat} {d : Int32} (h : tb (M.1 5) (zI j) = true) (hd : f_X12_distance (M.2 3 j) (zI m) = some d) : nr M x m j = !decide (x < d) := by unfold nr; rw [h, hd]; rfl
theorem bt_or1 {x : Int32} {m j : Nat} (hm : m < 8) (hj : j < 32) : bt (x ||| (1 <<< (zI m &&& 31))) j = (bt x j || decide (j = m)) := by
  rw [b_or, ← zI_nI, b_shl m (by omega) 1 hj]
  congr 1
  by_cases e : j = m
  · subst e; rw [Nat.sub_self, decide_eq_true (Nat.le_refl _), decide_eq_true rfl]; decide +kernel
  · rw [decide_eq_false e]
    by_cases h : m ≤ j
    · rw [decide_eq_true h, (by decide +kernel : ∀ i, i < 32 → 0 < i → bt 1 i = false) (j - m) (by omega) (by omega)]; rfl
    · rw [decide_eq_false h]; rfl
theorem tb_bt {w : Int32} {j : Nat} (hj : j < 8) : tb w (zI j) = bt w j := by
  rw [Bool.eq_iff_iff, tb_z hj, tw_bt hj]
theorem rch_lp {C : Nat → Gr} {M L : Gr} (hI : Inv C M) {m : Nat} (hm : m < 384) (x : Int32) : ∀ (d i n : Nat) (acc : Int32), i + d = 8 → d < n → lt256 acc → ∃ r, f_X6_reachersOf_n6 L (C 13) x (zI m) n acc (zI i) = some r ∧ lt256 r ∧ ∀ j, j < 8 → bt r j = (bt acc j || (decide (i ≤ j) && nr M x m j)) := by
  obtain ⟨a, b, hab, e⟩ := pl_of m hm
  have pr : zI m - zI m / 24 * 24 = zI a := by rw [e]; exact pl_rem (by omega) (by omega) (by omega) (by omega)
  have pd : zI m / 24 = zI b := by rw [e]; exact pl_div (by omega) (by omega) (by omega) (by omega)
  intro d
  induction d with
  | zero =>
    intro i n acc hi hn ha
    obtain ⟨n, rfl⟩ : ∃ k, n = k + 1 := ⟨n - 1, by omega⟩
    rw [f_X6_reachersOf_n6, if_pos (le8 (by omega) (by omega))]
    exact ⟨acc, rfl, ha, fun j hj => by rw [decide_eq_false (by omega), Bool.false_and, Bool.or_false]⟩
  | succ d ih =>
    intro i n acc hi hn ha
    obtain ⟨n, rfl⟩ : ∃ k, n = k + 1 := ⟨n - 1, by omega⟩
    have split : ∀ j, j < 8 → (decide (i ≤ j) && nr M x m j) = ((decide (j = i) && nr M x m i) || (decide (i + 1 ≤ j) && nr M x m j)) := fun j hj => by
      by_cases e : j = i
      · subst e; rw [decide_eq_true (Nat.le_refl _), decide_eq_true rfl, decide_eq_false (by omega)]; simp
      · rw [decide_eq_false e]
        by_cases h : i ≤ j
        · rw [decide_eq_true h, decide_eq_true (show i + 1 ≤ j by omega)]; simp
        · rw [decide_eq_false h, decide_eq_false (show ¬ i + 1 ≤ j by omega)]; simp
    rw [f_X6_reachersOf_n6, if_neg (nle8 (by omega)), hasWeb_e, bd_s, hI.2.1.1]
    cases ht : tb (M.1 5) (zI i) with
    | false =>
      rw [b2_f, i00, lt_e, zs1]
      obtain ⟨r, q1, q2, q3⟩ := ih (i + 1) n acc (by omega) (by omega) ha
      refine ⟨r, q1, q2, fun j hj => ?_⟩
      rw [q3 j hj, split j hj, nr_f ht, Bool.and_false, Bool.false_or]
    | true =>
      obtain ⟨x', y', hwp⟩ := wp_of hI (p := i) (by omega) ((tb_z (w := M.1 5) (p := i) (by omega)).mp ht)
      have hd : f_X12_distance (M.2 3 i) (zI m) = some (zI (dz a b x' y')) := by rw [hwp.2.2.2, e, dz_c a b]; exact dist_m hwp.1 hab
      have hnr : nr M x m i = !decide (x < zI (dz a b x' y')) := nr_t ht hd
      rw [b2_t, i10]
      simp only [lt_e, zs1]
      rw [pr, pd, way_b (by omega) hwp hab, bd_s]
      by_cases hlt : x < zI (dz a b x' y')
      · rw [if_pos hlt]
        obtain ⟨r, q1, q2, q3⟩ := ih (i + 1) n acc (by omega) (by omega) ha
        refine ⟨r, q1, q2, fun j hj => ?_⟩
        rw [q3 j hj, split j hj, hnr, decide_eq_true hlt]; simp
      · rw [if_neg hlt]
        obtain ⟨r, q1, q2, q3⟩ := ih (i + 1) n (acc ||| (1 <<< (zI i &&& 31))) (by omega) (by omega) (lt256_or ha (by omega))
        refine ⟨r, q1, q2, fun j hj => ?_⟩
        rw [q3 j hj, bt_or1 (by omega) (by omega), split j hj, hnr, decide_eq_false hlt]; simp [Bool.or_assoc]
/-- the set of the told webs that reach place m -/
def IsR (M : Gr) (x : Int32) (m : Nat) (r : Int32) : Prop := lt256 r ∧ ∀ j, j < 8 → bt r j = nr M x m j
theorem rch_b {C : Nat → Gr} {M : Gr} (hI : Inv C M) (L : Gr) {m : Nat} (hm : m < 384) (x : Int32) : ∃ r, f_X6_reachersOf L (C 13) x (zI m) = some r ∧ IsR M x m r := by
  obtain ⟨r, q1, q2, q3⟩ := rch_lp (L := L) hI hm x 8 0 fu 0 (by omega) (by decide) lt256_0
  exact ⟨r, q1, q2, fun j hj => by rw [q3 j hj, b_0, decide_eq_true (Nat.zero_le _)]; simp⟩
theorem flt_lp {C : Nat → Gr} {M : Gr} (hI : Inv C M) {m : Nat} (hm : m < 384) (x s : Int32) (hs : ∀ j, j < 8 → bt s j = true → bt (M.1 5) j = true) : ∀ (d i n : Nat), i + d = 8 → d < n → ∃ t, f_X12_isFelt_n3 M s (zI m) x n (zI i) = some (b2 t) ∧ (t = true ↔ ∃ j, i ≤ j ∧ j < 8 ∧ bt s j = true ∧ nr M x m j = true) := by
  obtain ⟨a, b, hab, e⟩ := pl_of m hm
  intro d
  induction d with
  | zero =>
    intro i n hi hn
    obtain ⟨n, rfl⟩ : ∃ k, n = k + 1 := ⟨n - 1, by omega⟩
    rw [f_X12_isFelt_n3, if_pos (le8 (by omega) (by omega))]
    refine ⟨false, rfl, ⟨fun h => absurd h (by decide), fun ⟨j, h1, h2, _⟩ => by omega⟩⟩
  | succ d ih =>
    intro i n hi hn
    obtain ⟨n, rfl⟩ : ∃ k, n = k + 1 := ⟨n - 1, by omega⟩
    obtain ⟨t, q1, q2⟩ := ih (i + 1) n (by omega) (by omega)
    have nxt : (bt s i = true → nr M x m i = true → False) → (t = true ↔ ∃ j, i ≤ j ∧ j < 8 ∧ bt s j = true ∧ nr M x m j = true) := fun hno => by
      rw [q2]
      constructor
      · rintro ⟨j, h1, h2, h3, h4⟩; exact ⟨j, by omega, h2, h3, h4⟩
      · rintro ⟨j, h1, h2, h3, h4⟩
        by_cases e : j = i
        · subst e; exact absurd h4 (fun h => hno h3 h)
        · exact ⟨j, by omega, h2, h3, h4⟩
    rw [f_X12_isFelt_n3, if_neg (nle8 (by omega)), has_z (by omega), bd_s, tb_bt (by omega)]
    cases hb : bt s i with
    | false =>
      rw [b2_f, i00, lt_e, zs1]
      exact ⟨t, q1, nxt (fun h => by rw [hb] at h; cases h)⟩
    | true =>
      have ht : tb (M.1 5) (zI i) = true := by rw [tb_bt (by omega)]; exact hs i (by omega) hb
      obtain ⟨x', y', hwp⟩ := wp_of hI (p := i) (by omega) ((tb_z (w := M.1 5) (p := i) (by omega)).mp ht)
      have hd : f_X12_distance (M.2 3 i) (zI m) = some (zI (dz a b x' y')) := by rw [hwp.2.2.2, e, dz_c a b]; exact dist_m hwp.1 hab
      have hnr : nr M x m i = !decide (x < zI (dz a b x' y')) := nr_t ht hd
      rw [b2_t, i10, rdN (by omega) (by omega), hd, bd_s, lt_e, zs1]
      by_cases hlt : x < zI (dz a b x' y')
      · rw [if_pos hlt]
        exact ⟨t, q1, nxt (fun _ h => by rw [hnr, decide_eq_true hlt] at h; cases h)⟩
      · rw [if_neg hlt]
        exact ⟨true, rfl, iff_of_true rfl ⟨i, Nat.le_refl _, by omega, hb, by rw [hnr, decide_eq_false hlt]; rfl⟩⟩
/-- a set of webs feels all places -/
def fsl (M : Gr) (x s : Int32) : Prop := ∀ m, m < 384 → ∃ j, j < 8 ∧ bt s j = true ∧ nr M x m j = true
theorem fa_lp {C : Nat → Gr} {M : Gr} (hI : Inv C M) (x s : Int32) (hs : ∀ j, j < 8 → bt s j = true → bt (M.1 5) j = true) : ∀ (d m n : Nat), m + d = 384 → d < n → ∃ t, f_X12_feelsAll_n2 M s x n (zI m) = some (b2 t) ∧ (t = true ↔ ∀ k, m ≤ k → k < 384 → ∃ j, j < 8 ∧ bt s j = true ∧ nr M x k j = true) := by
  intro d
  induction d with
  | zero =>
    intro m n hm hn
    obtain ⟨n, rfl⟩ : ∃ k, n = k + 1 := ⟨n - 1, by omega⟩
    rw [f_X12_feelsAll_n2, if_pos (le384 (by omega) (by omega))]
    exact ⟨true, rfl, iff_of_true rfl (fun k h1 h2 => by omega)⟩
  | succ d ih =>
    intro m n hm hn
    obtain ⟨n, rfl⟩ : ∃ k, n = k + 1 := ⟨n - 1, by omega⟩
    obtain ⟨t, q1, q2⟩ := flt_lp hI (m := m) (by omega) x s hs 8 0 fu (by omega) (by decide)
    have q1 : f_X12_isFelt M s (zI m) x = some (b2 t) := q1
    rw [f_X12_feelsAll_n2, if_neg (nle384 (by omega)), q1, bd_s, lt_e, zs1]
    cases t with
    | false =>
      rw [b2_f, i00]
      refine ⟨false, rfl, ⟨fun h => (by cases h), fun h => ?_⟩⟩
      obtain ⟨j, j1, j2, j3⟩ := h m (Nat.le_refl _) (by omega)
      exact q2.mpr ⟨j, Nat.zero_le _, j1, j2, j3⟩
    | true =>
      rw [b2_t, i10]
      obtain ⟨t, q3, q4⟩ := ih (m + 1) n (by omega) (by omega)
      refine ⟨t, q3, q4.trans ⟨fun h k k1 k2 => ?_, fun h k k1 k2 => h k (by omega) k2⟩⟩
      by_cases e : k = m
      · subst e
        obtain ⟨j, -, j1, j2, j3⟩ := q2.mp rfl
        exact ⟨j, j1, j2, j3⟩
      · exact h k (by omega) k2
theorem fa_b {C : Nat → Gr} {M : Gr} (hI : Inv C M) (x s : Int32) (hs : ∀ j, j < 8 → bt s j = true → bt (M.1 5) j = true) : ∃ t, f_X12_feelsAll M s x = some (b2 t) ∧ (t = true ↔ fsl M x s) := by
  obtain ⟨t, q1, q2⟩ := fa_lp hI x s hs 384 0 fu (by omega) (by decide)
  exact ⟨t, q1, q2.trans ⟨fun h k k2 => h k (Nat.zero_le _) k2, fun h k _ k2 => h k k2⟩⟩
theorem qn_lt {P : Nat → Bool} {v : Nat} (hv : P v = false) : ∀ N, v < N → qn P N < N := by
  intro N
  induction N with
  | zero => intro h; omega
  | succ N ih =>
    intro h
    show qn P N + (if P N = true then 1 else 0) < N + 1
    have hl := qn_le P N
    by_cases e : v = N
    · subst e; rw [if_neg (by rw [hv]; decide)]; omega
    · have := ih (by omega)
      by_cases h2 : P N = true
      · rw [if_pos h2]; omega
      · rw [if_neg h2]; omega
theorem qn_up {P Q : Nat → Bool} {v : Nat} (hP : P v = false) (hQ : Q v = true) (h : ∀ j, j ≠ v → Q j = P j) : ∀ N, (v < N → qn Q N = qn P N + 1) ∧ (N ≤ v → qn Q N = qn P N) := by
  intro N
  induction N with
  | zero => exact ⟨fun h => by omega, fun _ => rfl⟩
  | succ N ih =>
    have e1 : qn Q (N + 1) = qn Q N + (if Q N = true then 1 else 0) := rfl
    have e2 : qn P (N + 1) = qn P N + (if P N = true then 1 else 0) := rfl
    rw [e1, e2]
    refine ⟨fun hv => ?_, fun hv => ?_⟩
    · by_cases e : v = N
      · subst e
        rw [if_pos hQ, if_neg (by rw [hP]; decide), ih.2 (Nat.le_refl _)]
      · rw [h N (fun z => e z.symm), ih.1 (by omega)]; omega
    · rw [h N (by omega), ih.2 (by omega)]
theorem qn_0 {P : Nat → Bool} : ∀ N, (∀ j, j < N → P j = false) → qn P N = 0 := by
  intro N
  induction N with
  | zero => intro _; rfl
  | succ N ih =>
    intro h
    show qn P N + (if P N = true then 1 else 0) = 0
    rw [ih (fun j hj => h j (by omega)), if_neg (by rw [h N (by omega)]; decide)]
def lsOK (M : Gr) (x : Int32) (S : Gr) (m : Nat) : Prop := ∃ c : Nat, c ≤ 256 ∧ S.1 2 = zI c ∧ qn (fun j => decide (¬ S.2 1 j = 0)) 256 = c ∧ (∀ k, k < c → ∃ j, j < m ∧ IsR M x j (S.2 0 k)) ∧ (∀ j, j < m → ∃ k, k < c ∧ IsR M x j (S.2 0 k)) ∧ (∀ v, v < 256 → ¬ S.2 1 v = 0 → ∃ k, k < c ∧ S.2 0 k = zI v)
theorem lst_lp {C : Nat → Gr} {M : Gr} (hI : Inv C M) (x : Int32) : ∀ (d m n : Nat) (S : Gr), m + d = 384 → d < n → lsOK M x S m → ∃ S', f_X6_listReachers_n29 (C 13) x n S (zI m) = some S' ∧ lsOK M x S' 384 := by
  have e255 : (255 : Int32) = zI ((255 : Nat) : Int) := rfl
  have e0 : (0 : Int32) = zI ((0 : Nat) : Int) := rfl
  intro d
  induction d with
  | zero =>
    intro m n S hm hn hl
    obtain ⟨n, rfl⟩ : ∃ k, n = k + 1 := ⟨n - 1, by omega⟩
    have e : m = 384 := by omega
    subst e
    rw [f_X6_listReachers_n29, if_pos (le384 (by omega) (by omega))]
    exact ⟨S, rfl, hl⟩
  | succ d ih =>
    intro m n S hm hn hl
    obtain ⟨n, rfl⟩ : ∃ k, n = k + 1 := ⟨n - 1, by omega⟩
    obtain ⟨r, q1, q2⟩ := rch_b hI S (m := m) (by omega) x
    obtain ⟨v, hv, rfl⟩ := lt256_z q2.1
    obtain ⟨c, c1, c2, c3, c4, c5, c6⟩ := id hl
    have hw : (0 : Int32) ≤ zI v ∧ zI v ≤ 255 := by
      rw [e255]
      exact ⟨by rw [e0]; exact (leN (by omega) (by omega)).mpr (by omega), (leN (by omega) (by omega)).mpr (by omega)⟩
    rw [f_X6_listReachers_n29, if_neg (nle384 (by omega)), q1, bd_s, within_e, decide_eq_true hw, bd_s, b2_t, i10, rdN hv (by omega), lt_e, zs1]
    by_cases hz : S.2 1 v = 0
    · have hlt : c < 256 := by
        have := qn_lt (P := fun j => decide (¬ S.2 1 j = 0)) (v := v) (by simp [hz]) 256 hv
        omega
      rw [if_pos hz, c2, if_neg (nle256 hlt), ckN hv (by omega), clN (by omega), lt_e]
      show ∃ S', (ck' 256 (S.1 2) _) = some S' ∧ _
      rw [c2, ckN hlt (by omega), lt_e]
      show ∃ S', (f_X6_listReachers_n29 (C 13) x n (sI (sA (sA S 1 v (vp_nar .boolean 1)) 0 (Int32.toNatClampNeg (S.1 2)) (zI v)) 2 (S.1 2 + 1)) (zI ((m + 1 : Nat) : Int))) = some S' ∧ _
      rw [c2, clN (by omega), zs1]
      refine ih (m + 1) n _ (by omega) (by omega) ⟨c + 1, by omega, rfl, ?_, ?_, ?_, ?_⟩
      · have := (qn_up (P := fun j => decide (¬ S.2 1 j = 0)) (Q := fun j => decide (¬ upd (S.2 1) v 1 j = 0)) (v := v) (by simp [hz]) (by simp [upd_e]) (fun j hj => by simp [upd_e, hj]) 256).1 hv
        rw [c3] at this
        exact this
      · intro k hk
        show ∃ j, j < m + 1 ∧ IsR M x j (upd (S.2 0) c (zI v) k)
        rw [upd_e]
        by_cases e : k = c
        · rw [if_pos e]; exact ⟨m, by omega, q2⟩
        · rw [if_neg e]
          obtain ⟨j, j1, j2⟩ := c4 k (by omega)
          exact ⟨j, by omega, j2⟩
      · intro j hj
        show ∃ k, k < c + 1 ∧ IsR M x j (upd (S.2 0) c (zI v) k)
        by_cases e : j = m
        · refine ⟨c, by omega, ?_⟩
          rw [upd_e, if_pos rfl, e]; exact q2
        · obtain ⟨k, k1, k2⟩ := c5 j (by omega)
          refine ⟨k, by omega, ?_⟩
          rw [upd_e, if_neg (by omega)]; exact k2
      · intro w hw2 hz2
        show ∃ k, k < c + 1 ∧ upd (S.2 0) c (zI v) k = zI w
        have hz2 : ¬ upd (S.2 1) v (vp_nar .boolean 1) w = 0 := hz2
        by_cases e : w = v
        · refine ⟨c, by omega, ?_⟩
          rw [upd_e, if_pos rfl, e]
        · rw [upd_e, if_neg e] at hz2
          obtain ⟨k, k1, k2⟩ := c6 w hw2 hz2
          refine ⟨k, by omega, ?_⟩
          rw [upd_e, if_neg (by omega)]; exact k2
    · rw [if_neg hz]
      refine ih (m + 1) n S (by omega) (by omega) ⟨c, c1, c2, c3, fun k hk => ?_, fun j hj => ?_, c6⟩
      · obtain ⟨j, j1, j2⟩ := c4 k hk
        exact ⟨j, by omega, j2⟩
      · by_cases e : j = m
        · obtain ⟨k, k1, k2⟩ := c6 v hv hz
          refine ⟨k, k1, ?_⟩
          rw [k2, e]; exact q2
        · exact c5 j (by omega)
theorem clr_lp {Q : Gr} {x : Int32} : ∀ (d m n : Nat) (S : Gr), m + d = 256 → d < n → (∀ v, v < m → S.2 1 v = 0) → ∃ S', f_X6_listReachers_n2 Q x n S (zI m) = f_X6_listReachers_n29 Q x fu S' 0 ∧ S'.1 2 = 0 ∧ ∀ v, v < 256 → S'.2 1 v = 0 := by
  intro d
  induction d with
  | zero =>
    intro m n S hm hn hz
    obtain ⟨n, rfl⟩ : ∃ k, n = k + 1 := ⟨n - 1, by omega⟩
    rw [f_X6_listReachers_n2, if_pos (le256 (by omega) (by omega)), lt_e]
    exact ⟨_, rfl, rfl, fun v hv => hz v (by omega)⟩
  | succ d ih =>
    intro m n S hm hn hz
    obtain ⟨n, rfl⟩ : ∃ k, n = k + 1 := ⟨n - 1, by omega⟩
    rw [f_X6_listReachers_n2, if_neg (nle256 (by omega)), ckN (by omega) (by omega), clN (by omega), lt_e, lt_e, zs1]
    refine ih (m + 1) n _ (by omega) (by omega) (fun v hv => ?_)
    show upd (S.2 1) m (vp_nar .boolean 0) v = 0
    rw [upd_e]
    by_cases e : v = m
    · rw [if_pos e]; rfl
    · rw [if_neg e]; exact hz v (by omega)
theorem lst_b {C : Nat → Gr} {M : Gr} (hI : Inv C M) (x : Int32) (S : Gr) : ∃ S', f_X6_listReachers S (C 13) x = some S' ∧ lsOK M x S' 384 := by
  obtain ⟨S1, a1, a2, a3⟩ := clr_lp (Q := C 13) (x := x) 256 0 fu S (by omega) (by decide) (fun v hv => by omega)
  obtain ⟨S2, b1, b2⟩ := lst_lp hI x 384 0 fu S1 (by omega) (by decide) ⟨0, by omega, a2, qn_0 256 (fun j hj => by simp [a3 j hj]), fun k hk => by omega, fun j hj => by omega, fun v hv h => absurd (a3 v hv) h⟩
  exact ⟨S2, a1.trans b1, b2⟩
theorem and_ne {r s : Int32} (h : lt256 r) : ¬ (r &&& s) = 0 ↔ ∃ j, j < 8 ∧ bt r j = true ∧ bt s j = true := by
  constructor
  · intro hn
    refine Classical.byContradiction fun hc => hn (b_ext fun i hi => ?_)
    rw [b_and, b_0]
    by_cases h8 : i < 8
    · cases h1 : bt r i with
      | false => rfl
      | true =>
        cases h2 : bt s i with
        | false => rfl
        | true => exact absurd ⟨i, h8, h1, h2⟩ hc
    · rw [h i (by omega), Bool.false_and]
  · rintro ⟨j, h1, h2, h3⟩ h0
    have : bt (r &&& s) j = false := by rw [h0]; exact b_0 j
    rw [b_and, h2, h3] at this
    cases this
theorem ma_lp {S : Gr} {c : Nat} (hc : c ≤ 256) (hS : S.1 2 = zI c) (s : Int32) : ∀ (d i n : Nat), i + d = c → d < n → ∃ t, f_X6_meetsAll_n2 S s n (zI i) = some (b2 t) ∧ (t = true ↔ ∀ k, i ≤ k → k < c → ¬ (S.2 0 k &&& s) = 0) := by
  intro d
  induction d with
  | zero =>
    intro i n hi hn
    obtain ⟨n, rfl⟩ : ∃ k, n = k + 1 := ⟨n - 1, by omega⟩
    have h1 : zI c ≤ zI i := (leN (by omega) (by omega)).mpr (by omega)
    rw [f_X6_meetsAll_n2, hS, if_pos h1]
    exact ⟨true, rfl, iff_of_true rfl (fun k h1 h2 => by omega)⟩
  | succ d ih =>
    intro i n hi hn
    obtain ⟨n, rfl⟩ : ∃ k, n = k + 1 := ⟨n - 1, by omega⟩
    have h1 : ¬ zI c ≤ zI i := fun h => absurd ((leN (by omega) (by omega)).mp h) (by omega)
    rw [f_X6_meetsAll_n2, hS, if_neg h1, rdN (by omega) (by omega), lt_e, zs1]
    by_cases hz : (S.2 0 i &&& s) = 0
    · rw [if_pos hz]
      exact ⟨false, rfl, ⟨fun h => (by cases h), fun h => absurd hz (h i (Nat.le_refl _) (by omega))⟩⟩
    · rw [if_neg hz]
      obtain ⟨t, q1, q2⟩ := ih (i + 1) n (by omega) (by omega)
      refine ⟨t, q1, q2.trans ⟨fun h k k1 k2 => ?_, fun h k k1 k2 => h k (by omega) k2⟩⟩
      by_cases e : k = i
      · rw [e]; exact hz
      · exact h k (by omega) k2
theorem ma_b {M S : Gr} {x : Int32} (h : lsOK M x S 384) (s : Int32) : ∃ t, f_X6_meetsAll S s = some (b2 t) ∧ (t = true ↔ fsl M x s) := by
  obtain ⟨c, c1, c2, c3, c4, c5, c6⟩ := h
  obtain ⟨t, q1, q2⟩ := ma_lp c1 c2 s c 0 fu (by omega) (by show c < 1000; omega)
  refine ⟨t, q1, q2.trans ⟨fun h m hm => ?_, fun h k _ hk => ?_⟩⟩
  · obtain ⟨k, k1, k2⟩ := c5 m hm
    obtain ⟨j, j1, j2, j3⟩ := (and_ne k2.1).mp (h k (Nat.zero_le _) k1)
    exact ⟨j, j1, j3, by rw [← k2.2 j j1]; exact j2⟩
  · obtain ⟨m, m1, m2⟩ := c4 k hk
    obtain ⟨j, j1, j2, j3⟩ := h m m1
    exact (and_ne m2.1).mpr ⟨j, j1, by rw [m2.2 j j1]; exact j3, j2⟩
def cn (s : Nat) : Int := ((f_X12_bits (zI s)).getD 0).toInt
set_option maxRecDepth 100000 in
theorem cn_b : ∀ s : Nat, s < 256 → (f_X12_bits (zI s) = some (zI (cn s)) ∧ f_J6_bitCount_0f7a4 (zI s) = some (zI (cn s)) ∧ 0 ≤ cn s ∧ cn s ≤ 8) := by decide +kernel
/-- a set of told webs that feels all -/
def Pa (M : Gr) (x : Int32) (s : Nat) : Prop := (zI s &&& (M.1 5 ^^^ (-1))) = 0 ∧ fsl M x (zI s)
theorem sub_b {w s : Int32} (h : (s &&& (w ^^^ (-1))) = 0) : ∀ j, j < 8 → bt s j = true → bt w j = true := fun j hj hs => by
  have : bt (s &&& (w ^^^ (-1))) j = false := by rw [h]; exact b_0 j
  rw [b_and, b_xor, hs, b_m1 j (by omega)] at this
  cases hw : bt w j with
  | true => rfl
  | false => rw [hw] at this; cases this
def bL (M : Gr) (x : Int32) (lo hi : Nat) (b : Nat) : Prop := ∀ s, lo ≤ s → s < hi → Pa M x s → cn b < cn s ∨ (cn b = cn s ∧ b ≤ s)
theorem fw_lp {C : Nat → Gr} {M S : Gr} (hI : Inv C M) {x : Int32} (hl : lsOK M x S 384) : ∀ (d m n : Nat) (best few : Int32), m + d = 256 → d < n → ((best = -2 ∧ few = 9 ∧ ∀ s, 1 ≤ s → s < m → ¬ Pa M x s) ∨ ∃ b, b < m ∧ Pa M x b ∧ best = zI b ∧ few = zI (cn b) ∧ bL M x 1 m b) → ∃ r, f_X6_fewestWebs_n16 (C 13) x n S best few (zI m) = some (r, S) ∧ ((r = -2 ∧ ∀ s, 1 ≤ s → s < 256 → ¬ Pa M x s) ∨ ∃ b, b < 256 ∧ Pa M x b ∧ r = zI b ∧ bL M x 1 256 b) := by
  intro d
  induction d with
  | zero =>
    intro m n best few hm hn hb
    obtain ⟨n, rfl⟩ : ∃ k, n = k + 1 := ⟨n - 1, by omega⟩
    have e : m = 256 := by omega
    subst e
    rw [f_X6_fewestWebs_n16, if_pos (le256 (by omega) (by omega))]
    rcases hb with ⟨h1, h2, h3⟩ | ⟨b, h1, h2, h3, h4, h5⟩
    · exact ⟨best, rfl, Or.inl ⟨h1, h3⟩⟩
    · exact ⟨best, rfl, Or.inr ⟨b, h1, h2, h3, h5⟩⟩
  | succ d ih =>
    intro m n best few hm hn hb
    obtain ⟨n, rfl⟩ : ∃ k, n = k + 1 := ⟨n - 1, by omega⟩
    obtain ⟨c1, c2, c3, c4⟩ := cn_b m (by omega)
    have skip : (Pa M x m → ∃ b, b < m ∧ few = zI (cn b) ∧ best = zI b ∧ cn b ≤ cn m) → ((best = -2 ∧ few = 9 ∧ ∀ s, 1 ≤ s → s < m + 1 → ¬ Pa M x s) ∨ ∃ b, b < m + 1 ∧ Pa M x b ∧ best = zI b ∧ few = zI (cn b) ∧ bL M x 1 (m + 1) b) := fun hs => by
      rcases hb with ⟨h1, h2, h3⟩ | ⟨b, h1, h2, h3, h4, h5⟩
      · refine Or.inl ⟨h1, h2, fun s s1 s2 hp => ?_⟩
        by_cases e : s = m
        · subst e
          obtain ⟨b, b1, b2, b3, b4⟩ := hs hp
          have em : (-2 : Int32) = zI (-2) := rfl
          rw [h1, em, zI_eq (by omega) (by omega) (by omega) (by omega)] at b3
          omega
        · exact h3 s s1 (by omega) hp
      · refine Or.inr ⟨b, by omega, h2, h3, h4, fun s s1 s2 hp => ?_⟩
        by_cases e : s = m
        · subst e
          obtain ⟨b', b1, b2, b3, b4⟩ := hs hp
          rw [h3, zI_eq (by omega) (by omega) (by omega) (by omega)] at b3
          have : b = b' := by omega
          subst this
          omega
        · exact h5 s s1 (by omega) hp
    rw [f_X6_fewestWebs_n16, if_neg (nle256 (by omega)), hI.2.1.1]
    simp only [lt_e, zs1]
    by_cases hsub : (zI m &&& (M.1 5 ^^^ (-1))) = 0
    · rw [if_pos hsub, c2, bd_s]
      have hcmp : ∀ f : Int, few = zI f → 0 ≤ f → f ≤ 9 → (few ≤ zI (cn m) ↔ f ≤ cn m) := fun f hf f0 f9 => by rw [hf, zI_le (by omega) (by omega) (by omega) (by omega)]
      obtain ⟨f, hf, f0, f9⟩ : ∃ f : Int, few = zI f ∧ 0 ≤ f ∧ f ≤ 9 := by
        rcases hb with ⟨h1, h2, h3⟩ | ⟨b, h1, h2, h3, h4, h5⟩
        · exact ⟨9, h2, by omega, by omega⟩
        · have := cn_b b (by omega)
          exact ⟨cn b, h4, by omega, by omega⟩
      by_cases hle : few ≤ zI (cn m)
      · rw [if_pos hle]
        refine ih (m + 1) n best few (by omega) (by omega) (skip fun hp => ?_)
        rcases hb with ⟨h1, h2, h3⟩ | ⟨b, h1, h2, h3, h4, h5⟩
        · have := (hcmp 9 h2 (by omega) (by omega)).mp hle
          omega
        · have hb8 := cn_b b (by omega)
          exact ⟨b, h1, h4, h3, (hcmp (cn b) h4 (by omega) (by omega)).mp hle⟩
      · rw [if_neg hle]
        obtain ⟨t, t1, t2⟩ := ma_b hl (zI m)
        rw [t1, bd_s]
        cases t with
        | false =>
          rw [b2_f, i00]
          exact ih (m + 1) n best few (by omega) (by omega) (skip fun hp => absurd (t2.mpr hp.2) (by decide))
        | true =>
          rw [b2_t, i10, bd_s]
          refine ih (m + 1) n (zI m) (zI (cn m)) (by omega) (by omega) (Or.inr ⟨m, by omega, ⟨hsub, t2.mp rfl⟩, rfl, rfl, fun s s1 s2 hp => ?_⟩)
          by_cases e : s = m
          · subst e; exact Or.inr ⟨rfl, Nat.le_refl _⟩
          · rcases hb with ⟨h1, h2, h3⟩ | ⟨b, h1, h2, h3, h4, h5⟩
            · exact absurd hp (h3 s s1 (by omega))
            · have hb8 := cn_b b (by omega)
              have h6 : ¬ cn b ≤ cn m := fun h => hle ((hcmp (cn b) h4 (by omega) (by omega)).mpr h)
              have := h5 s s1 (by omega) hp
              omega
    · rw [if_neg hsub]
      exact ih (m + 1) n best few (by omega) (by omega) (skip fun hp => absurd hp.1 hsub)
theorem as_lp {C : Nat → Gr} {M : Gr} (hI : Inv C M) {x x2 : Int32} : ∀ (m n b : Nat), m ≤ 256 → m < n → b < 256 → Pa M x b → bL M x m 256 b → ∃ b', b' < 256 ∧ Pa M x b' ∧ bL M x 0 256 b' ∧ f_X12_allTheSea_n46 M x x2 n (zI b) (zI ((m : Int) - 1)) = (if x2 = 0 then some (zI (cn b')) else some (zI b')) := by
  have e0 : (0 : Int32) = zI 0 := rfl
  have em : (-1 : Int32) = zI (-1) := rfl
  intro m
  induction m with
  | zero =>
    intro n b hm hn hb hp hl
    obtain ⟨n, rfl⟩ : ∃ k, n = k + 1 := ⟨n - 1, by omega⟩
    have h1 : zI (((0 : Nat) : Int) - 1) < 0 := by decide
    refine ⟨b, hb, hp, hl, ?_⟩
    rw [f_X12_allTheSea_n46, if_pos h1, (cn_b b hb).1, bd_s]
  | succ m ih =>
    intro n b hm hn hb hp hl
    obtain ⟨n, rfl⟩ : ∃ k, n = k + 1 := ⟨n - 1, by omega⟩
    have e1 : ((m + 1 : Nat) : Int) - 1 = (m : Int) := by omega
    have h1 : ¬ zI (m : Int) < 0 := by rw [e0, zI_lt (by omega) (by omega) (by omega) (by omega)]; omega
    have es : zI (m : Int) + (-1) = zI ((m : Int) - 1) := by rw [em, zI_add]; rfl
    obtain ⟨c1, c2, c3, c4⟩ := cn_b m (by omega)
    obtain ⟨d1, d2, d3, d4⟩ := cn_b b hb
    rw [e1, f_X12_allTheSea_n46, if_neg h1]
    simp only [lt_e, es]
    have keep : (Pa M x m → cn b < cn m) → bL M x m 256 b := fun hk s s1 s2 hs => by
      by_cases e : s = m
      · subst e; exact Or.inl (hk hs)
      · exact hl s (by omega) s2 hs
    by_cases hsub : (zI m &&& (M.1 5 ^^^ (-1))) = 0
    · rw [if_pos hsub, c1, bd_s, d1, bd_s]
      by_cases hlt : zI (cn b) < zI (cn m)
      · rw [if_pos hlt]
        rw [zI_lt (by omega) (by omega) (by omega) (by omega)] at hlt
        exact ih n b (by omega) (by omega) hb hp (keep fun _ => hlt)
      · rw [if_neg hlt]
        rw [zI_lt (by omega) (by omega) (by omega) (by omega)] at hlt
        obtain ⟨t, t1, t2⟩ := fa_b hI x (zI m) (sub_b hsub)
        rw [t1, bd_s]
        cases t with
        | false =>
          rw [b2_f, i00]
          exact ih n b (by omega) (by omega) hb hp (keep fun hpm => absurd (t2.mpr hpm.2) (by decide))
        | true =>
          rw [b2_t, i10]
          refine ih n m (by omega) (by omega) (by omega) ⟨hsub, t2.mp rfl⟩ (fun s s1 s2 hs => ?_)
          by_cases e : s = m
          · subst e; exact Or.inr ⟨rfl, Nat.le_refl _⟩
          · have := hl s (by omega) s2 hs
            omega
    · rw [if_neg hsub]
      exact ih n b (by omega) (by omega) hb hp (keep fun hpm => absurd hpm.1 hsub)
theorem allTheSea_ok : hp_allTheSea Inv := by
  intro C M hI x y
  obtain ⟨h1, h2, h3, h4, h5⟩ := id hI
  have fin : ∀ S, Inv (va_up C 8 S) M := fun S => Inv_keep hI (keepM.rf M) hI.1 rfl rfl rfl rfl
  unfold f_X11_allTheSea f_X12_allTheSea
  rw [within_e, in_e, bd_s, bd_s, within_e, in_e, bd_s, bd_s]
  by_cases hx : (0 : Int32) ≤ x ∧ x ≤ 23
  · rw [decide_eq_true hx, b2_t, i10, i10]
    by_cases hy : (0 : Int32) ≤ y ∧ y ≤ 1
    · rw [decide_eq_true hy, b2_t, i10, i10]
      obtain ⟨S, q1, q2⟩ := lst_b hI x (C 8)
      obtain ⟨r, r1, r2⟩ := fw_lp hI q2 255 1 fu (-2) 9 (by omega) (by decide) (Or.inl ⟨rfl, rfl, fun s h1 h2 => by omega⟩)
      have r1 : f_X6_fewestWebs_n16 (C 13) x fu S (-2) 9 1 = some (r, S) := r1
      have hf : f_X6_fewestWebs (C 8) (C 13) x = some (r, S) := by unfold f_X6_fewestWebs; rw [q1, bd_s, r1]
      obtain ⟨t, t1, t2⟩ := fa_b hI x (M.1 5) (fun j _ h => h)
      rw [hf, bd_s, t1, bd_s, lt_e]
      obtain ⟨w, w1, w2, w3⟩ := h2.2.2.1
      obtain ⟨w, rfl⟩ : ∃ k : Nat, w = k := ⟨w.toNat, by omega⟩
      have hpw : fsl M x (M.1 5) → Pa M x w := fun h => by
        refine ⟨?_, by rw [← w3]; exact h⟩
        rw [← w3]
        refine b_ext fun i hi => ?_
        rw [b_and, b_xor, b_m1 i hi, b_0]
        cases bt (M.1 5) i <;> rfl
      have hpu : ∀ s, Pa M x s → fsl M x (M.1 5) := fun s hs m hm => by
        obtain ⟨j, j1, j2, j3⟩ := hs.2 m hm
        exact ⟨j, j1, sub_b hs.1 j j1 j2, j3⟩
      have hp0 : ¬ Pa M x 0 := fun h => by
        obtain ⟨j, j1, j2, j3⟩ := h.2 0 (by omega)
        have : bt (zI ((0 : Nat) : Int)) j = false := b_0 j
        rw [this] at j2; cases j2
      cases t with
      | false =>
        rw [b2_f, i00]
        rcases r2 with ⟨r2, r3⟩ | ⟨b, b1, b2', b3, b4⟩
        · rw [if_pos r2]; exact ⟨_, _, rfl, rfl, r2, fin S⟩
        · exact absurd (t2.mpr (hpu b b2')) (by decide)
      | true =>
        rw [b2_t, i10]
        have hw := hpw (t2.mp rfl)
        obtain ⟨b', a1, a2, a3, a4⟩ := as_lp hI (x := x) (x2 := y) 256 fu w (by omega) (by decide) (by omega) hw (fun s s1 s2 => by omega)
        rw [← w3] at a4
        have a4 : f_X12_allTheSea_n46 M x y fu (M.1 5) 255 = _ := a4
        rw [a4]
        rcases r2 with ⟨r2, r3⟩ | ⟨b, b1, b2', b3, b4⟩
        · have hb0 : 1 ≤ b' := by
            rcases Nat.eq_zero_or_pos b' with e | e
            · subst e; exact absurd a2 hp0
            · exact e
          exact absurd a2 (r3 b' hb0 a1)
        · have hbb : b = b' := by
            have hb0 : 1 ≤ b' := by
              rcases Nat.eq_zero_or_pos b' with e | e
              · subst e; exact absurd a2 hp0
              · exact e
            have k1 := b4 b' hb0 a1 a2
            have k2 := a3 b (Nat.zero_le _) b1 b2'
            omega
          subst hbb
          have em : (-2 : Int32) = zI (-2) := rfl
          have hne : ¬ r = -2 := by rw [b3, em, zI_eq (by omega) (by omega) (by omega) (by omega)]; omega
          rw [if_neg hne]
          have hy' : y = 0 ∨ y = 1 := by
            obtain ⟨j, j1, rfl⟩ := in_of 1 (by omega) hy
            rcases (by omega : j = 0 ∨ j = 1) with rfl | rfl
            · exact Or.inl rfl
            · exact Or.inr rfl
          rcases hy' with rfl | rfl
          · rw [if_neg (by decide), if_pos rfl, b3, (cn_b b b1).2.1, bd_s]
            exact ⟨_, _, rfl, rfl, rfl, fin S⟩
          · rw [if_pos rfl, if_neg (by decide)]
            exact ⟨_, _, rfl, rfl, b3, fin S⟩
    · rw [decide_eq_false hy, b2_f, i00, i00]; exact ⟨_, _, rfl, rfl, rfl, fin _⟩
  · rw [decide_eq_false hx, b2_f, i00, i00]; exact ⟨_, _, rfl, rfl, rfl, fin _⟩
