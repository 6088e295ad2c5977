/-! check, rent -/
theorem empty_e (T : Gr) : f_X8_empty T = some (sI T 1 0) := rfl
theorem zne1 (m : Nat) (hm : m < 100000) : ¬ zI m = (-1 : Int32) := by
  have em : (-1 : Int32) = zI (-1) := rfl
  rw [em, zI_eq (by omega) (by omega) (by omega) (by omega)]; omega
theorem chk_end {S0 S2 T : Gr} {c m : Nat} {z : Int32} (hm : m < 100000) (n : Nat) : f_X11_check_n28 S0 S2 (zI c) (n + 1) T (zI m) z = some (zI m, sI T 1 0) := by
  rw [f_X11_check_n28]
  by_cases h : zI c ≤ z
  · rw [if_pos h]; rfl
  · rw [if_neg h, if_neg (zne1 m hm)]; rfl
theorem chk_lp {C : Nat → Gr} {M : Gr} (hI : Inv C M) {k c : Nat} (hk : tpR (C 1) M k) (hc : c ≤ 8) (hck : c ≤ k) : ∀ (d m n n' : Nat), m + d = c → d + 1 < n → d < n' → ∃ r, f_X11_check_n28 (C 0) (C 13) (zI c) n (C 1) (-1) (zI m) = some (r, sI (C 1) 1 0) ∧ f_X12_check_n28 (zI c) n' (sI M 8 0) (zI m) = some (r, sI M 8 0) := by
  have hk260 := hk.1
  intro d
  induction d with
  | zero =>
    intro m n n' hm hn hn'
    obtain ⟨n, rfl⟩ : ∃ k, n = k + 1 := ⟨n - 1, by omega⟩
    obtain ⟨n', rfl⟩ : ∃ k, n' = k + 1 := ⟨n' - 1, by omega⟩
    have h1 : zI c ≤ zI m := (leN (by omega) (by omega)).mpr (by omega)
    rw [f_X11_check_n28, if_pos h1, f_X12_check_n28, if_pos h1, empty_e, bd_s]
    exact ⟨_, rfl, rfl⟩
  | succ d ih =>
    intro m n n' hm hn hn'
    obtain ⟨n, rfl⟩ : ∃ k, n = k + 1 + 1 := ⟨n - 2, by omega⟩
    obtain ⟨n', rfl⟩ : ∃ k, n' = k + 1 := ⟨n' - 1, by omega⟩
    have h1 : ¬ zI c ≤ zI m := fun h => absurd ((leN (by omega) (by omega)).mp h) (by omega)
    rw [f_X11_check_n28, if_neg h1, if_pos rfl, f_X12_check_n28, if_neg h1, hasWeb_e, isWeb_e, bd_s, oct_b (N := sI M 8 0) (j := m) hk rfl (by omega), bd_s, bd_s]
    rw [show (sI M 8 0).1 5 = M.1 5 from rfl, hI.2.1.1]
    cases ht : tb (M.1 5) (zI m) with
    | false =>
      rw [b2_f, i00, i00, at_b hk (by omega), bd_s, lt_e, lt_e, lt_e, zs1]
      by_cases hv : zI (bz (C 1) m) = 255
      · rw [if_pos hv, if_pos hv]
        exact ih (m + 1) (n + 1) n' (by omega) (by omega) (by omega)
      · rw [if_neg hv, if_neg hv, chk_end (by omega)]
        exact ⟨_, rfl, rfl⟩
    | true =>
      have htw := (tb_z (w := M.1 5) (p := m) (by omega)).mp ht
      obtain ⟨r, q, q1, q2, q3⟩ := slackN_b (S := C 13) (M := sI M 8 0) (p := m) (by omega) (by rw [hI.2.1.1]; exact ht) (dyn_te hI.2.1 (by omega) htw)
      rw [b2_t, i10, i10, q1, q2, bd_s, bd_s, q3, bd_s, at_b hk (by omega), bd_s, lt_e, lt_e, lt_e, zs1]
      by_cases hv : zI (bz (C 1) m) = r
      · rw [if_pos hv, if_pos hv]
        exact ih (m + 1) (n + 1) n' (by omega) (by omega) (by omega)
      · rw [if_neg hv, if_neg hv, chk_end (by omega)]
        exact ⟨_, rfl, rfl⟩
theorem check_ok : hp_check Inv := by
  intro C M hI x
  obtain ⟨k, hk⟩ := tpR.of hI.1
  have hk260 := hk.1
  unfold f_X11_check f_X12_check
  rw [within_e, in_e, bd_s, bd_s]
  by_cases hx : (0 : Int32) ≤ x ∧ x ≤ 8
  · rw [decide_eq_true hx, b2_t, i10, i10]
    obtain ⟨c, hc, rfl⟩ := in_of 8 (by omega) hx
    rw [has_b hk (by omega), bd_s]
    by_cases hck : c ≤ k
    · rw [decide_eq_true hck, b2_t, i10, if_pos ((hasm_b hk (by omega)).mpr hck), lt_e]
      obtain ⟨r, q1, q2⟩ := chk_lp hI hk hc hck c 0 fu fu (by omega) (by show c + 1 < 1000; omega) (by show c < 1000; omega)
      have q1 : f_X11_check_n28 (C 0) (C 13) (zI c) fu (C 1) (-1) 0 = _ := q1
      have q2 : f_X12_check_n28 (zI c) fu (sI M 8 0) 0 = _ := q2
      rw [q1, q2]
      exact ⟨_, _, rfl, rfl, rfl, emp_ok hI (keep8 M 0) rfl rfl rfl rfl rfl rfl rfl⟩
    · rw [decide_eq_false hck, b2_f, i00, if_neg (fun h => hck ((hasm_b hk (by omega)).mp h))]
      exact ⟨_, _, rfl, rfl, rfl, Inv_keep hI (keepM.rf M) hI.1 rfl rfl rfl rfl⟩
  · rw [decide_eq_false hx, b2_f, i00, i00]; exact ⟨_, _, rfl, rfl, rfl, Inv_keep hI (keepM.rf M) hI.1 rfl rfl rfl rfl⟩
/-- the highest of v 0 to v (m - 1), w left out -/
def nxt (v : Nat → Int) (w : Nat) : Nat → Int
  | 0 => 0
  | m + 1 => if m = w then nxt v w m else max (nxt v w m) (v m)
theorem nxt_b {v : Nat → Int} {c : Nat} (hv : ∀ j, j < c → 0 ≤ v j ∧ v j < 256) (w : Nat) : ∀ m, m ≤ c → 0 ≤ nxt v w m ∧ nxt v w m < 256 := by
  intro m
  induction m with
  | zero => intro _; exact ⟨Int.le_refl 0, show (0 : Int) < 256 by decide⟩
  | succ m ih =>
    intro hm
    have h1 := ih (by omega)
    have h2 := hv m (by omega)
    unfold nxt
    by_cases e : m = w
    · rw [if_pos e]; exact h1
    · rw [if_neg e]; omega
theorem nxt_same {v : Nat → Int} {w w' : Nat} : ∀ m, m ≤ w → m ≤ w' → nxt v w m = nxt v w' m := by
  intro m
  induction m with
  | zero => intro _ _; rfl
  | succ m ih =>
    intro h1 h2
    unfold nxt
    rw [if_neg (by omega), if_neg (by omega), ih (by omega) (by omega)]
/-- the first loop of the reference: who; and the class's own loop beside it -/
theorem rent_lp {T D S : Gr} {c : Nat} (hc : c ≤ 12) (v : Nat → Int) (hv : ∀ j, j < c → 0 ≤ v j ∧ v j < 256) (x2 : Int32) (hA : ∀ j, j < c → f_X8_at T (zI j) = some (zI (v j))) (hO : ∀ j, j < c → f_X12_octet S (zI j) = some (zI (v j))) :
    ∀ (d m n n' w : Nat), m + d = c → d < n → d < n' → w < m → nxt v m m = v w → ∃ w', w' < c ∧ f_X2_highestOffer_n9 D T (zI c) x2 n (zI w) (zI (nxt v w m)) (zI m) = (if x2 = 0 then some (zI w') else some (zI (nxt v w' c))) ∧ f_X12_rent_n39 (zI c) x2 n' S (zI w) (zI m) = f_X12_rent_n74 (zI c) x2 fu S (zI w') 0 0 := by
  intro d
  induction d with
  | zero =>
    intro m n n' w hm hn hn' hw hmx
    obtain ⟨n, rfl⟩ : ∃ k, n = k + 1 := ⟨n - 1, by omega⟩
    obtain ⟨n', rfl⟩ : ∃ k, n' = k + 1 := ⟨n' - 1, by omega⟩
    have h1 : zI c ≤ zI m := (leN (by omega) (by omega)).mpr (by omega)
    have e : m = c := by omega
    subst e
    rw [f_X2_highestOffer_n9, if_pos h1, f_X12_rent_n39, if_pos h1]
    exact ⟨w, hw, rfl, rfl⟩
  | succ d ih =>
    intro m n n' w hm hn hn' hw hmx
    obtain ⟨n, rfl⟩ : ∃ k, n = k + 1 := ⟨n - 1, by omega⟩
    obtain ⟨n', rfl⟩ : ∃ k, n' = k + 1 := ⟨n' - 1, by omega⟩
    have h1 : ¬ zI c ≤ zI m := fun h => absurd ((leN (by omega) (by omega)).mp h) (by omega)
    have b1 := hv m (by omega)
    have b2 := hv w (by omega)
    have b3 := nxt_b hv w m (by omega)
    rw [f_X2_highestOffer_n9, if_neg h1, f_X12_rent_n39, if_neg h1, hA m (by omega), hA w (by omega), hO m (by omega), hO w (by omega)]
    simp only [bd_s, lt_e, zs1]
    have hmx2 : nxt v (m + 1) (m + 1) = max (v w) (v m) := by
      show (if m = m + 1 then nxt v (m + 1) m else max (nxt v (m + 1) m) (v m)) = _
      rw [if_neg (by omega), nxt_same (v := v) (w := m + 1) (w' := m) m (by omega) (by omega), hmx]
    by_cases hle : v m ≤ v w
    · have k1 : zI (v m) ≤ zI (v w) := by rw [zI_le (by omega) (by omega) (by omega) (by omega)]; exact hle
      rw [if_pos k1, if_pos k1, mx_z (by omega) (by omega) (by omega) (by omega)]
      have e : nxt v w (m + 1) = max (nxt v w m) (v m) := by
        show (if m = w then nxt v w m else max (nxt v w m) (v m)) = _
        rw [if_neg (by omega)]
      rw [← e]
      exact ih (m + 1) n n' w (by omega) (by omega) (by omega) (by omega) (by rw [hmx2]; omega)
    · have k1 : ¬ zI (v m) ≤ zI (v w) := by rw [zI_le (by omega) (by omega) (by omega) (by omega)]; exact hle
      rw [if_neg k1, if_neg k1]
      have e : nxt v m (m + 1) = v w := by
        show (if m = m then nxt v m m else max (nxt v m m) (v m)) = _
        rw [if_pos rfl, hmx]
      rw [← e]
      exact ih (m + 1) n n' m (by omega) (by omega) (by omega) (by omega) (by rw [hmx2]; omega)
theorem rent_l2 {S : Gr} {c : Nat} (hc : c ≤ 12) (v : Nat → Int) (hv : ∀ j, j < c → 0 ≤ v j ∧ v j < 256) (x2 : Int32) (hO : ∀ j, j < c → f_X12_octet S (zI j) = some (zI (v j))) (w : Nat) (hw : w < c) :
    ∀ (d m n : Nat), m + d = c → d < n → f_X12_rent_n74 (zI c) x2 n S (zI w) (zI (nxt v w m)) (zI m) = (if x2 = 0 then some (zI w, S) else some (zI (nxt v w c), S)) := by
  intro d
  induction d with
  | zero =>
    intro m n hm hn
    obtain ⟨n, rfl⟩ : ∃ k, n = k + 1 := ⟨n - 1, by omega⟩
    have h1 : zI c ≤ zI m := (leN (by omega) (by omega)).mpr (by omega)
    have e : m = c := by omega
    subst e
    rw [f_X12_rent_n74, if_pos h1]
  | succ d ih =>
    intro m n hm hn
    obtain ⟨n, rfl⟩ : ∃ k, n = k + 1 := ⟨n - 1, by omega⟩
    have h1 : ¬ zI c ≤ zI m := fun h => absurd ((leN (by omega) (by omega)).mp h) (by omega)
    have b1 := hv m (by omega)
    have b3 := nxt_b hv w m (by omega)
    rw [f_X12_rent_n74, if_neg h1, hO m (by omega)]
    simp only [bd_s, lt_e, zs1]
    by_cases e : m = w
    · rw [if_pos ((eqN (by omega) (by omega)).mpr e)]
      have e2 : nxt v w (m + 1) = nxt v w m := if_pos e
      rw [← e2]
      exact ih (m + 1) n (by omega) (by omega)
    · rw [if_neg (fun h => e ((eqN (by omega) (by omega)).mp h)), max_z (by omega) (by omega) (by omega) (by omega), bd_s]
      have e2 : nxt v w (m + 1) = max (nxt v w m) (v m) := if_neg e
      rw [← e2]
      exact ih (m + 1) n (by omega) (by omega)
theorem rent_ok : hp_rent Inv := by
  intro C M hI x y
  obtain ⟨k, hk⟩ := tpR.of hI.1
  have hk260 := hk.1
  unfold f_X11_rent f_X12_rent
  rw [within_e, in_e, bd_s, bd_s, within_e, in_e, bd_s, bd_s]
  by_cases hx : (2 : Int32) ≤ x ∧ x ≤ 12
  · rw [decide_eq_true hx, b2_t, i10, i10]
    by_cases hy : (0 : Int32) ≤ y ∧ y ≤ 1
    · rw [decide_eq_true hy, b2_t, i10, i10]
      obtain ⟨c, hc1, hc2, rfl⟩ := in_of2 2 12 (by omega) (by omega) hx
      rw [has_b hk (by omega), bd_s]
      by_cases hck : c ≤ k
      · rw [decide_eq_true hck, b2_t, i10, if_pos ((hasm_b hk (by omega)).mpr hck), lt_e]
        have hv : ∀ j, j < c → 0 ≤ bz (C 1) j ∧ bz (C 1) j < 256 := fun j hj => ⟨(tp_v hk (by omega)).1, (tp_v hk (by omega)).2.1⟩
        have hO : ∀ j, j < c → f_X12_octet (sI M 8 0) (zI j) = some (zI (bz (C 1) j)) := fun j hj => oct_b hk rfl (by omega)
        have b0 := hv 0 (by omega)
        obtain ⟨w, hw, q1, q2⟩ := rent_lp (T := C 1) (D := C 9) (S := sI M 8 0) (c := c) hc2 (bz (C 1)) hv y (fun j hj => at_b hk (by omega)) hO (c - 1) 1 fu fu 0 (by omega) (by show c - 1 < 1000; omega) (by show c - 1 < 1000; omega) (by omega) (by show (if 0 = 1 then (0 : Int) else max 0 (bz (C 1) 0)) = _; rw [if_neg (by omega)]; omega)
        have q1 : f_X2_highestOffer (C 9) (C 1) (zI c) y = _ := q1
        have q2 : f_X12_rent_n39 (zI c) y fu (sI M 8 0) 0 1 = _ := q2
        have q3 := rent_l2 hc2 (bz (C 1)) hv y hO w hw c 0 fu (by omega) (by show c < 1000; omega)
        have q3 : f_X12_rent_n74 (zI c) y fu (sI M 8 0) (zI w) 0 0 = _ := q3
        rw [q1, q2, q3]
        by_cases y0 : y = 0
        · rw [if_pos y0, if_pos y0]
          exact ⟨_, _, rfl, rfl, rfl, emp_ok hI (keep8 M 0) rfl rfl rfl rfl rfl rfl rfl⟩
        · rw [if_neg y0, if_neg y0]
          exact ⟨_, _, rfl, rfl, rfl, emp_ok hI (keep8 M 0) rfl rfl rfl rfl rfl rfl rfl⟩
      · rw [decide_eq_false hck, b2_f, i00, if_neg (fun h => hck ((hasm_b hk (by omega)).mp h))]
        exact ⟨_, _, rfl, rfl, rfl, Inv_keep hI (keepM.rf M) hI.1 rfl rfl rfl rfl⟩
    · rw [decide_eq_false hy, b2_f, i00, i00]; exact ⟨_, _, rfl, rfl, rfl, Inv_keep hI (keepM.rf M) hI.1 rfl rfl rfl rfl⟩
  · rw [decide_eq_false hx, b2_f, i00, i00]; exact ⟨_, _, rfl, rfl, rfl, Inv_keep hI (keepM.rf M) hI.1 rfl rfl rfl rfl⟩
