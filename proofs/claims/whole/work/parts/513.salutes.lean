/-! salutes -/
def cnt (v : Nat → Int) (o : Int) : Nat → Nat
  | 0 => 0
  | m + 1 => cnt v o m + (if o < v (2 * m) then 1 else 0)
theorem cnt_le {v : Nat → Int} {o e : Int} (h : o ≤ e) : ∀ m, cnt v e m ≤ cnt v o m := by
  intro m
  induction m with
  | zero => exact Nat.le_refl _
  | succ m ih =>
    show cnt v e m + (if e < v (2 * m) then 1 else 0) ≤ cnt v o m + (if o < v (2 * m) then 1 else 0)
    by_cases h1 : e < v (2 * m)
    · rw [if_pos h1, if_pos (by omega)]; omega
    · rw [if_neg h1]; omega
theorem cnt_lt {v : Nat → Int} {o e : Int} (h : o ≤ e) {j : Nat} (h1 : o < v (2 * j)) (h2 : v (2 * j) ≤ e) : ∀ m, j < m → cnt v e m + 1 ≤ cnt v o m := by
  intro m
  induction m with
  | zero => intro hj; omega
  | succ m ih =>
    intro hj
    show cnt v e m + (if e < v (2 * m) then 1 else 0) + 1 ≤ cnt v o m + (if o < v (2 * m) then 1 else 0)
    by_cases hjm : j = m
    · subst hjm
      rw [if_neg (by omega), if_pos h1]
      have := cnt_le (v := v) h j
      omega
    · have := ih (by omega)
      by_cases h3 : e < v (2 * m)
      · rw [if_pos h3, if_pos (by omega)]; omega
      · rw [if_neg h3]; omega
theorem cnt_0 {v : Nat → Int} {o : Int} : ∀ m, cnt v o m = 0 → ∀ j, j < m → v (2 * j) ≤ o := by
  intro m
  induction m with
  | zero => intro _ j hj; omega
  | succ m ih =>
    intro h j hj
    have h : cnt v o m + (if o < v (2 * m) then 1 else 0) = 0 := h
    by_cases h3 : o < v (2 * m)
    · rw [if_pos h3] at h; omega
    · rw [if_neg h3] at h
      by_cases hjm : j = m
      · subst hjm; omega
      · exact ih (by omega) j (by omega)
theorem cnt_m {v : Nat → Int} {o : Int} : ∀ m, cnt v o m ≤ m := by
  intro m
  induction m with
  | zero => exact Nat.le_refl _
  | succ m ih =>
    show cnt v o m + (if o < v (2 * m) then 1 else 0) ≤ m + 1
    by_cases h3 : o < v (2 * m)
    · rw [if_pos h3]; omega
    · rw [if_neg h3]; omega
theorem ix2 (m : Nat) : (2 : Int32) * zI m = zI ((2 * m : Nat) : Int) := by
  have e : (2 : Int32) = zI 2 := rfl
  rw [e, zI_mul]; first | rfl | (congr 1; omega)
theorem ix2p (m : Nat) : (2 : Int32) * zI m + 1 = zI ((2 * m + 1 : Nat) : Int) := by
  rw [ix2, zs1]
/-- what both have found: nothing, or one that begins behind o -/
def salR (v : Nat → Int) (c : Nat) (o : Int) (fi bi : Int32) : Prop := (fi = -1 ∧ bi = -1) ∨ ∃ j, j < c ∧ o < v (2 * j) ∧ bi = zI j ∧ fi = zI (v (2 * j + 1))
theorem sal_in {T D S : Gr} {c : Nat} (hc : c ≤ 12) (v : Nat → Int) (hv : ∀ j, j < 2 * c → 0 ≤ v j ∧ v j < 256) (hA : ∀ j, j < 2 * c → f_X8_at T (zI j) = some (zI (v j))) (hO : ∀ j, j < 2 * c → f_X12_octet S (zI j) = some (zI (v j))) {o : Int} (ho : -1 ≤ o ∧ o < 256) (k69 : Gr → Int32 → Int32 → Int32 → Option (Int32 × Gr)) (s : Int32) :
    ∀ (d m n n' : Nat) (fi bi : Int32), m + d = c → d < n → d < n' → salR v c o fi bi → ((∀ j, j < m → v (2 * j) ≤ o) ∨ fi ≠ -1) → ∃ fr br, f_X2_firstEnd_n6 D T (zI c) (zI o) n fi (zI m) = some fr ∧ salR v c o fr br ∧ ((∀ j, j < c → v (2 * j) ≤ o) ∨ fr ≠ -1) ∧ f_X12_salutes_n80 (zI c) k69 n' S s (zI o) bi (zI m) = (if br = (-1) then (f_X12_salutes_n148 (zI c) k69 S s (zI o) br 0) else (f_X12_salutes_n148 (zI c) k69 S s (zI o) br 1)) := by
  have em : (-1 : Int32) = zI (-1) := rfl
  have nz : ∀ q : Int, 0 ≤ q → q < 256 → ¬ zI q = (-1 : Int32) := fun q h1 h2 h => by
    rw [em, zI_eq (by omega) (by omega) (by omega) (by omega)] at h; omega
  intro d
  induction d with
  | zero =>
    intro m n n' fi bi hm hn hn' hr hx
    obtain ⟨n, rfl⟩ : ∃ k, n = k + 1 := ⟨n - 1, by omega⟩
    obtain ⟨n', rfl⟩ : ∃ k, n' = k + 1 := ⟨n' - 1, by omega⟩
    have h1 : zI c ≤ zI m := (leN (by omega) (by omega)).mpr (by omega)
    have e : m = c := by omega
    subst e
    rw [f_X2_firstEnd_n6, if_pos h1, f_X12_salutes_n80, if_pos h1]
    exact ⟨fi, bi, rfl, hr, hx, rfl⟩
  | succ d ih =>
    intro m n n' fi bi hm hn hn' hr hx
    obtain ⟨n, rfl⟩ : ∃ k, n = k + 1 := ⟨n - 1, by omega⟩
    obtain ⟨n', rfl⟩ : ∃ k, n' = k + 1 := ⟨n' - 1, by omega⟩
    have h1 : ¬ zI c ≤ zI m := fun h => absurd ((leN (by omega) (by omega)).mp h) (by omega)
    have b1 := hv (2 * m) (by omega)
    have b2 := hv (2 * m + 1) (by omega)
    rw [f_X2_firstEnd_n6, if_neg h1, f_X12_salutes_n80, if_neg h1, ix2p, ix2, hA (2 * m + 1) (by omega), hA (2 * m) (by omega), hO (2 * m) (by omega), hO (2 * m + 1) (by omega)]
    simp only [bd_s, lt_e, zs1]
    by_cases hle : v (2 * m) ≤ o
    · have k1 : zI (v (2 * m)) ≤ zI o := by rw [zI_le (by omega) (by omega) (by omega) (by omega)]; exact hle
      rw [if_pos k1, if_pos k1]
      refine ih (m + 1) n n' fi bi (by omega) (by omega) (by omega) hr (hx.imp (fun h j hj => ?_) id)
      by_cases e : j = m
      · rw [e]; exact hle
      · exact h j (by omega)
    · have k1 : ¬ zI (v (2 * m)) ≤ zI o := by rw [zI_le (by omega) (by omega) (by omega) (by omega)]; exact hle
      rw [if_neg k1, if_neg k1]
      rcases id hr with ⟨r1, r2⟩ | ⟨j, hj, ho2, r1, r2⟩
      · rw [if_pos r1, if_pos r2]
        exact ih (m + 1) n n' _ _ (by omega) (by omega) (by omega) (Or.inr ⟨m, by omega, by omega, rfl, rfl⟩) (Or.inr (nz _ b2.1 b2.2))
      · have b3 := hv (2 * j + 1) (by omega)
        have q1 : ¬ fi = -1 := by rw [r2]; exact nz _ b3.1 b3.2
        have q2 : ¬ bi = -1 := by rw [r1]; exact zne1 j (by omega)
        rw [if_neg q1, if_neg q2, r1, ix2p, hO (2 * j + 1) (by omega), bd_s, ← r1, ← r2]
        by_cases hle2 : fi ≤ zI (v (2 * m + 1))
        · rw [if_pos hle2, if_pos hle2]
          exact ih (m + 1) n n' _ _ (by omega) (by omega) (by omega) hr (Or.inr q1)
        · rw [if_neg hle2, if_neg hle2]
          exact ih (m + 1) n n' _ _ (by omega) (by omega) (by omega) (Or.inr ⟨m, by omega, by omega, rfl, rfl⟩) (Or.inr (nz _ b2.1 b2.2))
theorem sal_out {T D S : Gr} {c : Nat} (hc : c ≤ 12) (v : Nat → Int) (hv : ∀ j, j < 2 * c → 0 ≤ v j ∧ v j < 256) (hok : ∀ j, j < c → v (2 * j) ≤ v (2 * j + 1)) (hA : ∀ j, j < 2 * c → f_X8_at T (zI j) = some (zI (v j))) (hO : ∀ j, j < 2 * c → f_X12_octet S (zI j) = some (zI (v j))) :
    ∀ (d m n n' : Nat) (o : Int), m + d = c → d < n → d + 1 < n' → (-1 ≤ o ∧ o < 256) → cnt v o c ≤ d → ∃ r, f_X2_mostSalutes_n43 D T (zI c) n (zI m) (zI o) (zI m) = some r ∧ f_X12_salutes_n69 (zI c) n' S (zI m) (zI o) 1 = some (r, S) := by
  have em : (-1 : Int32) = zI (-1) := rfl
  have hfu : ∀ k : Nat, k ≤ 12 → k < fu := fun k hk => by show k < 1000; omega
  intro d
  induction d with
  | zero =>
    intro m n n' o hm hn hn' ho hcnt
    obtain ⟨n, rfl⟩ : ∃ k, n = k + 1 := ⟨n - 1, by omega⟩
    obtain ⟨n', rfl⟩ : ∃ k, n' = k + 1 + 1 := ⟨n' - 2, by omega⟩
    have h1 : zI c ≤ zI m := (leN (by omega) (by omega)).mpr (by omega)
    rw [f_X2_mostSalutes_n43, if_pos h1, f_X12_salutes_n69, i10]
    obtain ⟨fr, br, q1, q2, q3, q4⟩ := sal_in (D := D) hc v hv hA hO ho (f_X12_salutes_n69 (zI c) (n' + 1)) (zI m) c 0 fu fu (-1) (-1) (by omega) (hfu c hc) (hfu c hc) (Or.inl ⟨rfl, rfl⟩) (Or.inl (fun j hj => by omega))
    have q4 : f_X12_salutes_n80 (zI c) (f_X12_salutes_n69 (zI c) (n' + 1)) fu S (zI m) (zI o) (-1) 0 = _ := q4
    have hz := cnt_0 c (by omega : cnt v o c = 0)
    rw [q4]
    rcases q2 with ⟨r1, r2⟩ | ⟨j, hj, ho2, r1, r2⟩
    · rw [if_pos r2]
      unfold f_X12_salutes_n148
      rw [i00, f_X12_salutes_n69, i00]
      exact ⟨_, rfl, rfl⟩
    · exact absurd (hz j hj) (by omega)
  | succ d ih =>
    intro m n n' o hm hn hn' ho hcnt
    obtain ⟨n, rfl⟩ : ∃ k, n = k + 1 := ⟨n - 1, by omega⟩
    obtain ⟨n', rfl⟩ : ∃ k, n' = k + 1 + 1 := ⟨n' - 2, by omega⟩
    have h1 : ¬ zI c ≤ zI m := fun h => absurd ((leN (by omega) (by omega)).mp h) (by omega)
    obtain ⟨fr, br, q1, q2, q3, q4⟩ := sal_in (D := D) hc v hv hA hO ho (f_X12_salutes_n69 (zI c) (n' + 1)) (zI m) c 0 fu fu (-1) (-1) (by omega) (hfu c hc) (hfu c hc) (Or.inl ⟨rfl, rfl⟩) (Or.inl (fun j hj => by omega))
    have q4 : f_X12_salutes_n80 (zI c) (f_X12_salutes_n69 (zI c) (n' + 1)) fu S (zI m) (zI o) (-1) 0 = _ := q4
    have q1 : f_X2_firstEnd D T (zI c) (zI o) = some fr := q1
    rw [f_X2_mostSalutes_n43, if_neg h1, f_X12_salutes_n69, i10, q1, bd_s, q4]
    rcases q2 with ⟨r1, r2⟩ | ⟨j, hj, ho2, r1, r2⟩
    · rw [if_pos r1, if_pos r2]
      unfold f_X12_salutes_n148
      rw [i00, f_X12_salutes_n69, i00]
      exact ⟨_, rfl, rfl⟩
    · have b3 := hv (2 * j + 1) (by omega)
      have hq1 : ¬ fr = -1 := by rw [r2, em, zI_eq (by omega) (by omega) (by omega) (by omega)]; omega
      have hq2 : ¬ br = -1 := by rw [r1]; exact zne1 j (by omega)
      rw [if_neg hq1, if_neg hq2]
      unfold f_X12_salutes_n148
      rw [i10, r1, ix2p, hO (2 * j + 1) (by omega), r2]
      simp only [lt_e, bd_s, zs1]
      have hoj := hok j hj
      have hlt := cnt_lt (v := v) (o := o) (e := v (2 * j + 1)) (by omega) ho2 hoj c hj
      exact ih (m + 1) n (n' + 1) (v (2 * j + 1)) (by omega) (by omega) (by omega) (by omega) (by omega)
theorem sal_v {T D S : Gr} {c : Nat} (hc : c ≤ 12) (v : Nat → Int) (hv : ∀ j, j < 2 * c → 0 ≤ v j ∧ v j < 256) (hA : ∀ j, j < 2 * c → f_X8_at T (zI j) = some (zI (v j))) (hO : ∀ j, j < 2 * c → f_X12_octet S (zI j) = some (zI (v j))) :
    ∀ (d m n n' : Nat), m + d = c → d < n → d < n' → (∀ j, j < m → v (2 * j) ≤ v (2 * j + 1)) → ∃ r, f_X2_mostSalutes_n2 D T (zI c) n (zI m) = some r ∧ f_X12_salutes_n29 (zI c) n' S (zI m) = some (r, S) := by
  intro d
  induction d with
  | zero =>
    intro m n n' hm hn hn' hok
    obtain ⟨n, rfl⟩ : ∃ k, n = k + 1 := ⟨n - 1, by omega⟩
    obtain ⟨n', rfl⟩ : ∃ k, n' = k + 1 := ⟨n' - 1, by omega⟩
    have h1 : zI c ≤ zI m := (leN (by omega) (by omega)).mpr (by omega)
    rw [f_X2_mostSalutes_n2, if_pos h1, f_X12_salutes_n29, if_pos h1]
    obtain ⟨r, q1, q2⟩ := sal_out (D := D) hc v hv (fun j hj => hok j (by omega)) hA hO c 0 fu fu (-1) (by omega) (by show c < 1000; omega) (by show c + 1 < 1000; omega) (by omega) (cnt_m c)
    have q1 : f_X2_mostSalutes_n43 D T (zI c) fu 0 (-1) 0 = some r := q1
    have q2 : f_X12_salutes_n69 (zI c) fu S 0 (-1) 1 = some (r, S) := q2
    exact ⟨r, q1, q2⟩
  | succ d ih =>
    intro m n n' hm hn hn' hok
    obtain ⟨n, rfl⟩ : ∃ k, n = k + 1 := ⟨n - 1, by omega⟩
    obtain ⟨n', rfl⟩ : ∃ k, n' = k + 1 := ⟨n' - 1, by omega⟩
    have h1 : ¬ zI c ≤ zI m := fun h => absurd ((leN (by omega) (by omega)).mp h) (by omega)
    have b1 := hv (2 * m) (by omega)
    have b2 := hv (2 * m + 1) (by omega)
    rw [f_X2_mostSalutes_n2, if_neg h1, f_X12_salutes_n29, if_neg h1, ix2p, ix2, hA (2 * m + 1) (by omega), hA (2 * m) (by omega), hO (2 * m) (by omega), hO (2 * m + 1) (by omega)]
    simp only [bd_s, lt_e, zs1]
    by_cases hle : v (2 * m) ≤ v (2 * m + 1)
    · have k1 : zI (v (2 * m)) ≤ zI (v (2 * m + 1)) := by rw [zI_le (by omega) (by omega) (by omega) (by omega)]; exact hle
      rw [if_pos k1, if_pos k1]
      refine ih (m + 1) n n' (by omega) (by omega) (by omega) (fun j hj => ?_)
      by_cases e : j = m
      · rw [e]; exact hle
      · exact hok j (by omega)
    · have k1 : ¬ zI (v (2 * m)) ≤ zI (v (2 * m + 1)) := by rw [zI_le (by omega) (by omega) (by omega) (by omega)]; exact hle
      rw [if_neg k1, if_neg k1]
      exact ⟨_, rfl, rfl⟩
theorem salutes_ok : hp_salutes Inv := by
  intro C M hI x
  obtain ⟨k, hk⟩ := tpR.of hI.1
  have hk260 := hk.1
  unfold f_X11_salutes f_X12_salutes
  rw [within_e, in_e, bd_s, bd_s]
  by_cases hx : (1 : Int32) ≤ x ∧ x ≤ 12
  · rw [decide_eq_true hx, b2_t, i10, i10]
    obtain ⟨c, hc1, hc2, rfl⟩ := in_of2 1 12 (by omega) (by omega) hx
    rw [ix2, has_b hk (by omega), bd_s]
    by_cases hck : 2 * c ≤ k
    · rw [decide_eq_true hck, b2_t, i10, if_pos ((hasm_b hk (by omega)).mpr hck), lt_e]
      obtain ⟨r, q1, q2⟩ := sal_v (T := C 1) (D := C 9) (S := sI M 8 0) (c := c) hc2 (bz (C 1)) (fun j hj => ⟨(tp_v hk (by omega)).1, (tp_v hk (by omega)).2.1⟩) (fun j hj => at_b hk (by omega)) (fun j hj => oct_b hk rfl (by omega)) c 0 fu fu (by omega) (by show c < 1000; omega) (by show c < 1000; omega) (fun j hj => by omega)
      have q1 : f_X2_mostSalutes (C 9) (C 1) (zI c) = some r := q1
      have q2 : f_X12_salutes_n29 (zI c) fu (sI M 8 0) 0 = _ := q2
      rw [q1, q2]
      exact ⟨_, _, rfl, rfl, rfl, emp_ok hI (keep8 M 0) rfl rfl rfl rfl rfl rfl rfl⟩
    · rw [decide_eq_false hck, b2_f, i00, if_neg (fun h => hck ((hasm_b hk (by omega)).mp h))]
      exact ⟨_, _, rfl, rfl, rfl, Inv_keep hI (keepM.rf M) hI.1 rfl rfl rfl rfl⟩
  · rw [decide_eq_false hx, b2_f, i00, i00]; exact ⟨_, _, rfl, rfl, rfl, Inv_keep hI (keepM.rf M) hI.1 rfl rfl rfl rfl⟩
