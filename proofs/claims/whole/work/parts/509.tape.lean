/-! what the tape tells; spell; check -/
def bz (T : Gr) (j : Nat) : Int := (T.2 0 j).toInt
theorem tp_v {T M : Gr} {k : Nat} (h : tpR T M k) {j : Nat} (hj : j < 260) : 0 ≤ bz T j ∧ bz T j < 256 ∧ T.2 0 j = zI (bz T j) ∧ M.2 7 j &&& 255 = zI (bz T j) := by
  obtain ⟨v, h1, h2, h3, h4⟩ := h.2.2.2 j hj
  have e : bz T j = v := by unfold bz; rw [h3, zI_toInt (by omega) (by omega)]
  rw [e]
  exact ⟨h1, h2, h3, h4⟩
theorem at_b {T M : Gr} {k : Nat} (h : tpR T M k) {j : Nat} (hj : j < k) : f_X8_at T (zI j) = some (zI (bz T j)) := by
  have hk := h.1
  unfold f_X8_at
  have e1 : (1 : Int32) = zI 1 := rfl
  have e0 : (0 : Int32) = zI 0 := rfl
  have hc : (0 : Int32) ≤ zI j ∧ zI j ≤ T.1 1 - 1 := by
    rw [h.2.1, e1, e0, zI_sub, zI_le (by omega) (by omega) (by omega) (by omega), zI_le (by omega) (by omega) (by omega) (by omega)]; omega
  rw [within_e, decide_eq_true hc, bd_s, b2_t, i10, rdN (by omega) (by omega), (tp_v h (by omega)).2.2.1]
theorem oct_b {T M N : Gr} {k : Nat} (h : tpR T M k) (hN : N.2 7 = M.2 7) {j : Nat} (hj : j < 260) : f_X12_octet N (zI j) = some (zI (bz T j)) := by
  unfold f_X12_octet
  rw [rdN hj (by omega), hN, (tp_v h hj).2.2.2]
theorem has_b {T M : Gr} {k : Nat} (h : tpR T M k) {c : Nat} (hc : c < 100000) : f_X8_has T (zI c) = some (b2 (decide (c ≤ k))) := by
  have hk := h.1
  unfold f_X8_has
  rw [h.2.1]
  by_cases hck : c ≤ k
  · have : ¬ zI k < zI c := by rw [zI_lt (by omega) (by omega) (by omega) (by omega)]; omega
    rw [if_neg this, decide_eq_true hck]; rfl
  · have : zI k < zI c := by rw [zI_lt (by omega) (by omega) (by omega) (by omega)]; omega
    rw [if_pos this, decide_eq_false hck]; rfl
theorem hasm_b {T M : Gr} {k : Nat} (h : tpR T M k) {c : Nat} (hc : c < 100000) : (zI c ≤ M.1 8) ↔ c ≤ k := by
  have hk := h.1
  rw [h.2.2.1, zI_le (by omega) (by omega) (by omega) (by omega)]; omega
theorem emp_ok {C : Nat → Gr} {M N : Gr} (hI : Inv C M) (k1 : keepM M N) (k2 : N.2 7 = M.2 7) (k3 : N.1 8 = 0) {C' : Nat → Gr} (e1 : C' 1 = sI (C 1) 1 0) (e13 : C' 13 = C 13) (e0 : C' 0 = C 0) (e15 : C' 15 = C 15) (e11 : C' 11 = C 11) : Inv C' N := by
  refine Inv_keep hI k1 ?_ e13 e0 e15 e11
  obtain ⟨k, hk⟩ := tpR.of hI.1
  rw [e1, k2, k3]
  exact ⟨⟨0, by omega, rfl, rfl⟩, hk.2.2.2⟩
theorem keep8 (M : Gr) (x : Int32) : keepM M (sI M 8 x) := ⟨⟨rfl, rfl, rfl, rfl, rfl, rfl⟩, ⟨rfl, rfl, rfl, rfl⟩, ⟨rfl, rfl, rfl, rfl, rfl⟩⟩
theorem in_of2 {x : Int32} (l k : Nat) (hl : l < 100000) (hk : k < 100000) (h : zI l ≤ x ∧ x ≤ zI k) : ∃ j : Nat, l ≤ j ∧ j ≤ k ∧ x = zI j := by
  obtain ⟨a, c1, c2, rfl⟩ := zI_of x
  rw [zI_le (by omega) (by omega) c1 c2, zI_le c1 c2 (by omega) (by omega)] at h
  exact ⟨a.toNat, by omega, by omega, by congr 1; omega⟩
theorem leN {a b : Nat} (ha : a < 100000) (hb : b < 100000) : (zI a ≤ zI b) ↔ a ≤ b := by rw [zI_le (by omega) (by omega) (by omega) (by omega)]; omega
theorem eqN {a b : Nat} (ha : a < 100000) (hb : b < 100000) : (zI a = zI b) ↔ a = b := by rw [zI_eq (by omega) (by omega) (by omega) (by omega)]; omega
theorem ltN {a b : Nat} (ha : a < 100000) (hb : b < 100000) : (zI a < zI b) ↔ a < b := by rw [zI_lt (by omega) (by omega) (by omega) (by omega)]; omega
theorem spell_in {T D S : Gr} {c : Nat} (hc : c ≤ 40) (v : Nat → Int) (x2 : Int32) (hA : ∀ j, j < c → f_X8_at T (zI j) = some (zI (v j))) (hO : ∀ j, j < c → f_X12_octet S (zI j) = some (zI (v j))) (fi : Nat) (k13 : Int32 → Int32 → Int32 → Int32 → Option Int32) (k49 : Gr → Int32 → Int32 → Int32 → Int32 → Option (Int32 × Gr)) (hk : ∀ a b l, ∃ r, k13 a b l (zI ((fi + 1 : Nat) : Int)) = some r ∧ k49 S a b l (zI ((fi + 1 : Nat) : Int)) = some (r, S)) :
    ∀ (d m n n' : Nat) (a b l sm : Int32), m + d = c → d < n → d < n' → ∃ r, f_X2_worstSpell_n26 D T (zI c) x2 k13 n a b l (zI fi) sm (zI m) = some r ∧ f_X12_spell_n62 (zI c) x2 k49 n' S a b l (zI fi) sm (zI m) = some (r, S) := by
  intro d
  induction d with
  | zero =>
    intro m n n' a b l sm hm hn hn'
    obtain ⟨n, rfl⟩ : ∃ k, n = k + 1 := ⟨n - 1, by omega⟩
    obtain ⟨n', rfl⟩ : ∃ k, n' = k + 1 := ⟨n' - 1, by omega⟩
    have h1 : zI c ≤ zI m := (leN (by omega) (by omega)).mpr (by omega)
    rw [f_X2_worstSpell_n26, if_pos h1, f_X12_spell_n62, if_pos h1, lt_e, lt_e, zs1]
    exact hk a b l
  | succ d ih =>
    intro m n n' a b l sm hm hn hn'
    obtain ⟨n, rfl⟩ : ∃ k, n = k + 1 := ⟨n - 1, by omega⟩
    obtain ⟨n', rfl⟩ : ∃ k, n' = k + 1 := ⟨n' - 1, by omega⟩
    have h1 : ¬ zI c ≤ zI m := fun h => absurd ((leN (by omega) (by omega)).mp h) (by omega)
    rw [f_X2_worstSpell_n26, if_neg h1, f_X12_spell_n62, if_neg h1, hA m (by omega), hO m (by omega), bd_s, bd_s]
    simp only [lt_e, zs1]
    rw [show sm + zI (v m) - 128 = sm + (zI (v m) - 128) from by rw [Int32.sub_eq_add_neg, Int32.sub_eq_add_neg, Int32.add_assoc]]
    generalize sm + (zI (v m) - 128) = w
    by_cases hw : w ≤ a
    · have hw' : ¬ a < w := (i_nlt _ _).mpr hw
      rw [if_pos hw, if_neg hw']
      exact ih (m + 1) n n' _ _ _ _ (by omega) (by omega) (by omega)
    · have hw' : a < w := (i_nle _ _).mp hw
      rw [if_neg hw, if_pos hw']
      exact ih (m + 1) n n' _ _ _ _ (by omega) (by omega) (by omega)
theorem spell_out {T D S : Gr} {c : Nat} (hc : c ≤ 40) (v : Nat → Int) (x2 : Int32) (hA : ∀ j, j < c → f_X8_at T (zI j) = some (zI (v j))) (hO : ∀ j, j < c → f_X12_octet S (zI j) = some (zI (v j))) :
    ∀ (d m n : Nat) (a b l : Int32), m + d = c → d < n → ∃ r, f_X2_worstSpell_n13 D T (zI c) x2 n a b l (zI m) = some r ∧ f_X12_spell_n49 (zI c) x2 n S a b l (zI m) = some (r, S) := by
  intro d
  induction d with
  | zero =>
    intro m n a b l hm hn
    obtain ⟨n, rfl⟩ : ∃ k, n = k + 1 := ⟨n - 1, by omega⟩
    have h1 : zI c ≤ zI m := (leN (by omega) (by omega)).mpr (by omega)
    rw [f_X2_worstSpell_n13, if_pos h1, f_X12_spell_n49, if_pos h1]
    by_cases y0 : x2 = 0
    · rw [if_pos y0, if_pos y0]; exact ⟨_, rfl, rfl⟩
    · rw [if_neg y0, if_neg y0]
      by_cases y1 : x2 = 1
      · rw [if_pos y1, if_pos y1]; exact ⟨_, rfl, rfl⟩
      · rw [if_neg y1, if_neg y1]; exact ⟨_, rfl, rfl⟩
  | succ d ih =>
    intro m n a b l hm hn
    obtain ⟨n, rfl⟩ : ∃ k, n = k + 1 := ⟨n - 1, by omega⟩
    have h1 : ¬ zI c ≤ zI m := fun h => absurd ((leN (by omega) (by omega)).mp h) (by omega)
    rw [f_X2_worstSpell_n13, if_neg h1, f_X12_spell_n49, if_neg h1]
    exact spell_in hc v x2 hA hO m _ _ (fun a b l => ih (m + 1) n a b l (by omega) (by omega)) (d + 1) m fu fu a b l 0 hm (by show d + 1 < 1000; omega) (by show d + 1 < 1000; omega)
theorem spell_ok : hp_spell Inv := by
  intro C M hI x y
  obtain ⟨k, hk⟩ := tpR.of hI.1
  have hk260 := hk.1
  unfold f_X11_spell f_X12_spell
  rw [within_e, in_e, bd_s, bd_s, within_e, in_e, bd_s, bd_s]
  by_cases hx : (1 : Int32) ≤ x ∧ x ≤ 40
  · rw [decide_eq_true hx, b2_t, i10, i10]
    by_cases hy : (0 : Int32) ≤ y ∧ y ≤ 2
    · rw [decide_eq_true hy, b2_t, i10, i10]
      obtain ⟨c, hc1, hc2, rfl⟩ := in_of2 1 40 (by omega) (by omega) hx
      rw [has_b hk (by omega), bd_s]
      by_cases hck : c ≤ k
      · rw [decide_eq_true hck, b2_t, i10, if_pos ((hasm_b hk (by omega)).mpr hck), lt_e]
        obtain ⟨r, q1, q2⟩ := spell_out (T := C 1) (D := C 9) (S := sI M 8 0) (c := c) (by omega) (bz (C 1)) y (fun j hj => at_b hk (by omega)) (fun j hj => oct_b hk rfl (by omega)) c 0 fu (-1000000) 0 0 (by omega) (by show c < 1000; omega)
        have q1 : f_X2_worstSpell (C 9) (C 1) (zI c) y = some r := q1
        have q2 : f_X12_spell_n49 (zI c) y fu (sI M 8 0) (-1000000) 0 0 0 = some (r, sI M 8 0) := q2
        rw [q1, bd_s, q2]
        exact ⟨_, _, rfl, rfl, rfl, emp_ok hI (keep8 M 0) rfl rfl rfl rfl rfl rfl rfl⟩
      · rw [decide_eq_false hck, b2_f, i00, if_neg (fun h => hck ((hasm_b hk (by omega)).mp h))]
        exact ⟨_, _, rfl, rfl, rfl, Inv_keep hI (keepM.rf M) hI.1 rfl rfl rfl rfl⟩
    · rw [decide_eq_false hy, b2_f, i00, i00]; exact ⟨_, _, rfl, rfl, rfl, Inv_keep hI (keepM.rf M) hI.1 rfl rfl rfl rfl⟩
  · rw [decide_eq_false hx, b2_f, i00, i00]; exact ⟨_, _, rfl, rfl, rfl, Inv_keep hI (keepM.rf M) hI.1 rfl rfl rfl rfl⟩
/-! bits of small sets -/
def lt256 (x : Int32) : Prop := ∀ i : Nat, 8 ≤ i → bt x i = false
theorem lt256_0 : lt256 0 := fun i _ => b_0 i
theorem lt256_or {x : Int32} (h : lt256 x) {m : Nat} (hm : m < 8) : lt256 (x ||| (1 <<< (zI m &&& 31))) := fun i hi => by
  rw [b_or, h i hi, Bool.false_or, ← zI_nI]
  rcases Nat.lt_or_ge i 32 with h2 | h2
  · rw [b_shl m (by omega) 1 h2]
    have : bt 1 (i - m) = false := by
      have h3 : 0 < i - m := by omega
      exact (by decide +kernel : ∀ j, j < 32 → 0 < j → bt 1 j = false) (i - m) (by omega) h3
    rw [this, Bool.and_false]
  · exact b_big h2
theorem lt256_z {x : Int32} (h : lt256 x) : ∃ a : Nat, a < 256 ∧ x = zI a := by
  have e : x &&& 255 = x := b_ext fun i hi => by
    rw [b_and, b_255]
    rcases Nat.lt_or_ge i 8 with h2 | h2
    · rw [decide_eq_true h2, Bool.and_true]
    · rw [h i h2, Bool.false_and]
  obtain ⟨v, h1, h2, h3⟩ := and_255 x
  exact ⟨v.toNat, by omega, by rw [← e, h3]; congr 1; omega⟩
theorem slack_256 {M : Gr} {p : Nat} (hp : p < 8) : ∀ (d m n : Nat) (acc r : Int32), m + d = 8 → d < n → lt256 acc → f_X12_slackOf_n4 M (zI p) n acc (zI m) = some r → lt256 r := by
  intro d
  induction d with
  | zero =>
    intro m n acc r hm hn ha h
    obtain ⟨n, rfl⟩ : ∃ k, n = k + 1 := ⟨n - 1, by omega⟩
    rw [f_X12_slackOf_n4, if_pos (le8 (by omega) (by omega))] at h
    cases h; exact ha
  | succ d ih =>
    intro m n acc r hm hn ha h
    obtain ⟨n, rfl⟩ : ∃ k, n = k + 1 := ⟨n - 1, by omega⟩
    rw [f_X12_slackOf_n4, if_neg (nle8 (by omega)), ix8m, rdN (by omega) (by omega)] at h
    by_cases h0 : M.2 0 (8 * p + m) = 0
    · rw [if_pos h0, lt_e, lt_e, zs1] at h
      exact ih (m + 1) n _ r (by omega) (by omega) (lt256_or ha (by omega)) h
    · rw [if_neg h0, lt_e, zs1] at h
      exact ih (m + 1) n _ r (by omega) (by omega) ha h
set_option maxRecDepth 100000 in
theorem bits_256 : ∀ a, a < 256 → (f_J6_bitCount_0f7a4 (Int32.ofNat a) = f_X12_bits (Int32.ofNat a) ∧ (f_X12_bits (Int32.ofNat a)).isSome = true) := by decide +kernel
theorem bits_b {x : Int32} (h : lt256 x) : ∃ r, f_J6_bitCount_0f7a4 x = some r ∧ f_X12_bits x = some r := by
  obtain ⟨a, ha, rfl⟩ := lt256_z h
  obtain ⟨h1, h2⟩ := bits_256 a ha
  rw [zI_nat] at h1 h2
  obtain ⟨r, hr⟩ := Option.isSome_iff_exists.mp h2
  exact ⟨r, h1.trans hr, hr⟩
theorem slackN_b {S M : Gr} {p : Nat} (hp : p < 8) (ht : tb (S.1 0) (zI p) = true) (he : ∀ s : Nat, s < 8 → S.2 4 (8 * p + s) = M.2 0 (8 * p + s)) : ∃ r q, f_X7_slackSpokes S (zI p) = some r ∧ f_X12_slackOf M (zI p) = some q ∧ f_X12_bits q = some r := by
  obtain ⟨q, h1, h2⟩ := slack_b hp ht he
  obtain ⟨r, h3, h4⟩ := bits_b (slack_256 hp 8 0 fu 0 q (by omega) (by decide) lt256_0 h2)
  exact ⟨r, q, by unfold f_X7_slackSpokes; rw [h1, bd_s, h3, bd_s], h2, h4⟩
