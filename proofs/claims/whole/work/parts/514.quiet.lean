/-! quiet -/
theorem or_ne {x : Int32} {m : Nat} (hm : m < 8) : ¬ (x ||| (1 <<< (zI m &&& 31))) = 0 := fun h => by
  have h1 : bt (x ||| (1 <<< (zI m &&& 31))) m = false := by rw [h]; exact b_0 m
  rw [b_or, ← zI_nI, b_shl m (by omega) 1 (by omega), Nat.sub_self] at h1
  have h2 : bt 1 0 = true := by decide +kernel
  rw [h2] at h1
  simp at h1
theorem has_z {w : Int32} {m : Nat} (hm : m < 8) : f_X12_has w (zI m) = some (b2 (tb w (zI m))) := by
  rw [has_e]
  by_cases h : ((w >>> (zI m &&& 31)) &&& 1) = 1
  · rw [decide_eq_true h, (tb_z hm).mpr h]
  · rw [decide_eq_false h]
    cases ht : tb w (zI m) with
    | false => rfl
    | true => exact absurd ((tb_z hm).mp ht) h
theorem reach_lp {C : Nat → Gr} {M L : Gr} (hI : Inv C M) {a b : Int} (hab : 0 ≤ a ∧ a < 24 ∧ 0 ≤ b ∧ b < 16) (x : Int32) : ∀ (d m n n' : Nat) (acc : Int32), m + d = 8 → d < n → d < n' → ∃ r t, f_X6_reachersOf_n6 L (C 13) x (zI (24 * b + a)) n acc (zI m) = some r ∧ f_X12_isFelt_n3 M (M.1 5) (zI (24 * b + a)) x n' (zI m) = some (b2 t) ∧ (r = 0 ↔ (acc = 0 ∧ t = false)) := by
  intro d
  induction d with
  | zero =>
    intro m n n' acc hm hn hn'
    obtain ⟨n, rfl⟩ : ∃ k, n = k + 1 := ⟨n - 1, by omega⟩
    obtain ⟨n', rfl⟩ : ∃ k, n' = k + 1 := ⟨n' - 1, by omega⟩
    rw [f_X6_reachersOf_n6, if_pos (le8 (by omega) (by omega)), f_X12_isFelt_n3, if_pos (le8 (by omega) (by omega))]
    exact ⟨acc, false, rfl, rfl, by simp⟩
  | succ d ih =>
    intro m n n' acc hm hn hn'
    obtain ⟨n, rfl⟩ : ∃ k, n = k + 1 := ⟨n - 1, by omega⟩
    obtain ⟨n', rfl⟩ : ∃ k, n' = k + 1 := ⟨n' - 1, by omega⟩
    rw [f_X6_reachersOf_n6, if_neg (nle8 (by omega)), f_X12_isFelt_n3, if_neg (nle8 (by omega)), hasWeb_e, has_z (by omega), bd_s, bd_s, hI.2.1.1]
    cases ht : tb (M.1 5) (zI m) with
    | false =>
      rw [b2_f, i00, i00, lt_e, lt_e, zs1]
      exact ih (m + 1) n n' acc (by omega) (by omega) (by omega)
    | true =>
      obtain ⟨x', y', hwp⟩ := wp_of hI (p := m) (by omega) ((tb_z (w := M.1 5) (p := m) (by omega)).mp ht)
      rw [b2_t, i10, i10]
      simp only [lt_e, zs1]
      rw [pl_rem (by omega) (by omega) (by omega) (by omega), pl_div (by omega) (by omega) (by omega) (by omega), way_b (by omega) hwp hab, bd_s, rdN (by omega) (by omega), hwp.2.2.2, dist_m hwp.1 hab, bd_s, dz_c x' y' a b]
      by_cases hlt : x < zI (dz a b x' y')
      · rw [if_pos hlt, if_pos hlt]
        exact ih (m + 1) n n' acc (by omega) (by omega) (by omega)
      · rw [if_neg hlt, if_neg hlt]
        obtain ⟨r, t, q1, q2, q3⟩ := ih (m + 1) n fu (acc ||| (1 <<< (zI m &&& 31))) (by omega) (by omega) (by show d < 1000; omega)
        refine ⟨r, true, q1, rfl, ?_⟩
        constructor
        · intro h; exact absurd (q3.mp h).1 (or_ne (by omega))
        · intro h; exact absurd h.2 (by decide)
theorem reach_b {C : Nat → Gr} {M L : Gr} (hI : Inv C M) {m : Nat} (hm : m < 384) (x : Int32) : ∃ r t, f_X6_reachersOf L (C 13) x (zI m) = some r ∧ f_X12_isFelt M (M.1 5) (zI m) x = some (b2 t) ∧ (r = 0 ↔ t = false) := by
  obtain ⟨a, b, hab, e⟩ := pl_of m hm
  obtain ⟨r, t, q1, q2, q3⟩ := reach_lp (L := L) hI hab x 8 0 fu fu 0 (by omega) (by decide) (by decide)
  rw [e]
  exact ⟨r, t, q1, q2, by rw [q3]; simp⟩
/-- whether a place is quiet, as a truth value -/
def Qt (M : Gr) (x : Int32) (m : Nat) : Bool := decide (f_X12_isFelt M (M.1 5) (zI m) x = some 0)
theorem quiet_q {C : Nat → Gr} {M L : Gr} (hI : Inv C M) {m : Nat} (hm : m < 384) (x : Int32) : ∃ r, f_X6_reachersOf L (C 13) x (zI m) = some r ∧ f_X12_isFelt M (M.1 5) (zI m) x = some (b2 (!Qt M x m)) ∧ (r = 0 ↔ Qt M x m = true) := by
  obtain ⟨r, t, q1, q2, q3⟩ := reach_b (L := L) hI hm x
  have e : Qt M x m = !t := by
    unfold Qt
    rw [q2]
    cases t <;> decide
  rw [e]
  exact ⟨r, q1, by rw [q2, Bool.not_not], by rw [q3]; cases t <;> simp⟩
/-- how many of the first m places are quiet -/
def qn (P : Nat → Bool) : Nat → Nat
  | 0 => 0
  | m + 1 => qn P m + (if P m = true then 1 else 0)
theorem qn_le (P : Nat → Bool) : ∀ m, qn P m ≤ m := by
  intro m
  induction m with
  | zero => exact Nat.le_refl _
  | succ m ih =>
    show qn P m + (if P m = true then 1 else 0) ≤ m + 1
    by_cases h : P m = true
    · rw [if_pos h]; omega
    · rw [if_neg h]; omega
theorem qp_lp {C : Nat → Gr} {M L : Gr} (hI : Inv C M) (x : Int32) : ∀ (d m n : Nat), m + d = 384 → d < n → f_X6_quietPlaces_n5 L (C 13) x n (zI (qn (Qt M x) m)) (zI m) = some (zI (qn (Qt M x) 384)) := by
  intro d
  induction d with
  | zero =>
    intro m n hm hn
    obtain ⟨n, rfl⟩ : ∃ k, n = k + 1 := ⟨n - 1, by omega⟩
    have e : m = 384 := by omega
    subst e
    rw [f_X6_quietPlaces_n5, if_pos (le384 (by omega) (by omega))]
  | succ d ih =>
    intro m n hm hn
    obtain ⟨n, rfl⟩ : ∃ k, n = k + 1 := ⟨n - 1, by omega⟩
    obtain ⟨r, q1, -, q3⟩ := quiet_q (L := L) hI (m := m) (by omega) x
    have h := ih (m + 1) n (by omega) (by omega)
    have e : qn (Qt M x) (m + 1) = qn (Qt M x) m + (if Qt M x m = true then 1 else 0) := rfl
    rw [f_X6_quietPlaces_n5, if_neg (nle384 (by omega)), q1, bd_s, lt_e, lt_e, lt_e, zs1, zs1]
    by_cases hr : r = 0
    · rw [if_pos (q3.mp hr)] at e
      rw [if_pos hr, ← e]; exact h
    · rw [if_neg (fun z => hr (q3.mpr z))] at e
      rw [e] at h
      rw [if_neg hr]; exact h
/-- what the class says of the first quiet place from m on -/
def fq (P : Nat → Bool) : Nat → Nat → Int32
  | 0, _ => -2
  | d + 1, m => if P m = true then zI m else fq P d (m + 1)
theorem fq_lp {C : Nat → Gr} {M L : Gr} (hI : Inv C M) (x : Int32) : ∀ (d m n : Nat), m + d = 384 → d < n → f_X6_firstQuiet_n2 L (C 13) x n (zI m) = some (fq (Qt M x) d m) := by
  intro d
  induction d with
  | zero =>
    intro m n hm hn
    obtain ⟨n, rfl⟩ : ∃ k, n = k + 1 := ⟨n - 1, by omega⟩
    rw [f_X6_firstQuiet_n2, if_pos (le384 (by omega) (by omega))]; rfl
  | succ d ih =>
    intro m n hm hn
    obtain ⟨n, rfl⟩ : ∃ k, n = k + 1 := ⟨n - 1, by omega⟩
    obtain ⟨r, q1, -, q3⟩ := quiet_q (L := L) hI (m := m) (by omega) x
    rw [f_X6_firstQuiet_n2, if_neg (nle384 (by omega)), q1, bd_s, lt_e, zs1]
    unfold fq
    by_cases hr : r = 0
    · rw [if_pos hr, if_pos (q3.mp hr)]
    · rw [if_neg hr, if_neg (fun z => hr (q3.mpr z))]
      exact ih (m + 1) n (by omega) (by omega)
theorem qm_lp {C : Nat → Gr} {M : Gr} (hI : Inv C M) (x x2 : Int32) : ∀ (m n d : Nat), m + d = 384 → m < n → f_X12_quiet_n32 M x x2 n (zI ((qn (Qt M x) 384 - qn (Qt M x) m : Nat) : Int)) (fq (Qt M x) d m) (zI ((m : Int) - 1)) = (if x2 = 0 then some (zI (qn (Qt M x) 384)) else some (fq (Qt M x) 384 0)) := by
  have e0 : (0 : Int32) = zI 0 := rfl
  have em : (-1 : Int32) = zI (-1) := rfl
  intro m
  induction m with
  | zero =>
    intro n d hm hn
    obtain ⟨n, rfl⟩ : ∃ k, n = k + 1 := ⟨n - 1, by omega⟩
    have e : d = 384 := by omega
    subst e
    have h1 : zI (((0 : Nat) : Int) - 1) < 0 := by decide
    rw [f_X12_quiet_n32, if_pos h1]
    rfl
  | succ m ih =>
    intro n d hm hn
    obtain ⟨n, rfl⟩ : ∃ k, n = k + 1 := ⟨n - 1, by omega⟩
    have e1 : ((m + 1 : Nat) : Int) - 1 = (m : Int) := by omega
    have h1 : ¬ zI (m : Int) < 0 := by rw [e0, zI_lt (by omega) (by omega) (by omega) (by omega)]; omega
    obtain ⟨r, -, q2, -⟩ := quiet_q (L := M) hI (m := m) (by omega) x
    have h := ih n (d + 1) (by omega) (by omega)
    have eq : qn (Qt M x) (m + 1) = qn (Qt M x) m + (if Qt M x m = true then 1 else 0) := rfl
    have hle : ∀ k, m + 1 + k = 384 → qn (Qt M x) (m + 1) ≤ qn (Qt M x) 384 := by
      intro k hk
      rw [← hk]
      clear hk
      induction k with
      | zero => exact Nat.le_refl _
      | succ k ihk =>
        have : qn (Qt M x) (m + 1 + k + 1) = qn (Qt M x) (m + 1 + k) + (if Qt M x (m + 1 + k) = true then 1 else 0) := rfl
        show qn (Qt M x) (m + 1) ≤ qn (Qt M x) (m + 1 + k + 1)
        omega
    have hle := hle d (by omega)
    have es : zI (m : Int) + (-1) = zI ((m : Int) - 1) := by rw [em, zI_add]; rfl
    rw [e1, f_X12_quiet_n32, if_neg h1, q2, bd_s]
    simp only [lt_e, es]
    cases hq : Qt M x m with
    | true =>
      rw [hq, if_pos rfl] at eq
      have ef : fq (Qt M x) (d + 1) m = zI m := by unfold fq; rw [if_pos hq]
      rw [ef] at h
      rw [show b2 (!true) = 0 from rfl, i00, zs1, show qn (Qt M x) 384 - qn (Qt M x) (m + 1) + 1 = qn (Qt M x) 384 - qn (Qt M x) m by omega]
      exact h
    | false =>
      rw [hq, if_neg (by decide)] at eq
      have ef : fq (Qt M x) (d + 1) m = fq (Qt M x) d (m + 1) := by
        show (if Qt M x m = true then zI m else fq (Qt M x) d (m + 1)) = _
        rw [if_neg (by rw [hq]; decide)]
      rw [ef] at h
      rw [show b2 (!false) = 1 from rfl, i10, show qn (Qt M x) 384 - qn (Qt M x) (m + 1) = qn (Qt M x) 384 - qn (Qt M x) m by omega]
      exact h
theorem quiet_ok : hp_quiet Inv := by
  intro C M hI x y
  unfold f_X11_quiet f_X12_quiet
  rw [within_e, in_e, bd_s, bd_s, within_e, in_e, bd_s, bd_s]
  by_cases hx : (0 : Int32) ≤ x ∧ x ≤ 23
  · rw [decide_eq_true hx, b2_t, i10, i10]
    by_cases hy : (0 : Int32) ≤ y ∧ y ≤ 1
    · rw [decide_eq_true hy, b2_t, i10, i10]
      have h1 := qp_lp (L := C 8) hI x 384 0 fu (by omega) (by decide)
      have h1 : f_X6_quietPlaces (C 8) (C 13) x = _ := h1
      have h2 := fq_lp (L := C 8) hI x 384 0 fu (by omega) (by decide)
      have h2 : f_X6_firstQuiet (C 8) (C 13) x = _ := h2
      have h3 := qm_lp hI x y 384 fu 0 (by omega) (by decide)
      rw [Nat.sub_self] at h3
      have h3 : f_X12_quiet_n32 M x y fu 0 (-2) 383 = _ := h3
      rw [h3]
      by_cases y0 : y = 0
      · rw [if_pos y0, if_pos y0, h1, bd_s]; exact ⟨_, _, rfl, rfl, rfl, hI⟩
      · rw [if_neg y0, if_neg y0, h2, bd_s]; exact ⟨_, _, rfl, rfl, rfl, hI⟩
    · rw [decide_eq_false hy, b2_f, i00, i00]; exact ⟨_, _, rfl, rfl, rfl, hI⟩
  · rw [decide_eq_false hx, b2_f, i00, i00]; exact ⟨_, _, rfl, rfl, rfl, hI⟩
