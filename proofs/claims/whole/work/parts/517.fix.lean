/-! fix: one place asked by all bearings -/
/-- the bearings i told: webs pw i at X i, Y i, spokes v (2 i + 1) -/
def brg (S M : Gr) (v : Nat → Int) (c : Nat) (pw : Nat → Nat) (X Y : Nat → Int) : Prop := ∀ i, i < c → pw i < 8 ∧ v (2 * i) = (pw i : Int) ∧ tb (M.1 5) (zI (pw i)) = true ∧ wpOK S M (pw i) (X i) (Y i)
def Pt (v X Y : Nat → Int) (a b : Int) (i : Nat) : Bool := decide (spz (a - X i) (b - Y i) = zI (v (2 * i + 1)))
def allT (P : Nat → Bool) : Nat → Nat → Bool
  | 0, _ => true
  | d + 1, m => P m && allT P d (m + 1)
theorem tow_lp {C : Nat → Gr} {M L : Gr} (hI : Inv C M) {c : Nat} (hc : c ≤ 8) (v : Nat → Int) (hA : ∀ j, j < 2 * c → f_X8_at (C 1) (zI j) = some (zI (v j))) (pw : Nat → Nat) (X Y : Nat → Int) (hB : brg (C 13) M v c pw X Y) {a b : Int} (hab : 0 ≤ a ∧ a < 24 ∧ 0 ≤ b ∧ b < 16) :
    ∀ (d m n : Nat), m + d = c → d < n → f_X6_isToward_n3 L (C 13) (C 1) (zI c) (zI (24 * b + a)) n (zI m) = some (b2 (allT (Pt v X Y a b) d m)) := by
  intro d
  induction d with
  | zero =>
    intro m n hm hn
    obtain ⟨n, rfl⟩ : ∃ k, n = k + 1 := ⟨n - 1, by omega⟩
    rw [f_X6_isToward_n3, if_pos ((leN (by omega) (by omega)).mpr (by omega))]; rfl
  | succ d ih =>
    intro m n hm hn
    obtain ⟨n, rfl⟩ : ∃ k, n = k + 1 := ⟨n - 1, by omega⟩
    obtain ⟨b1, b2', b3, b4⟩ := hB m (by omega)
    have hr := b4.1
    rw [f_X6_isToward_n3, if_neg (fun h => absurd ((leN (by omega) (by omega)).mp h) (by omega)), ix2p, ix2, hA (2 * m) (by omega), hA (2 * m + 1) (by omega), bd_s, b2', hasWeb_e, hI.2.1.1, b3, bd_s, b2_t, i10]
    simp only [lt_e, zs1]
    rw [pl_rem (by omega) (by omega) (by omega) (by omega), pl_div (by omega) (by omega) (by omega) (by omega), rdN b1 (by omega), rdN b1 (by omega), b4.2.1, b4.2.2.1, zI_sub, zI_sub, sp_c (by omega) (by omega) (by omega) (by omega), bd_s, bd_s]
    show _ = some (b2 (Pt v X Y a b m && allT (Pt v X Y a b) d (m + 1)))
    by_cases h : spz (a - X m) (b - Y m) = zI (v (2 * m + 1))
    · have hp : Pt v X Y a b m = true := decide_eq_true h
      rw [if_pos h, hp, Bool.true_and]
      exact ih (m + 1) n (by omega) (by omega)
    · have hp : Pt v X Y a b m = false := decide_eq_false h
      rw [if_neg h, hp, Bool.false_and]; rfl
theorem fxm_lp {C : Nat → Gr} {M S : Gr} (hS3 : S.2 3 = M.2 3) {c : Nat} (hc : c ≤ 8) (v : Nat → Int) (hO : ∀ j, j < 2 * c → f_X12_octet S (zI j) = some (zI (v j))) (pw : Nat → Nat) (X Y : Nat → Int) (hB : brg (C 13) M v c pw X Y) {a b : Int} (hab : 0 ≤ a ∧ a < 24 ∧ 0 ≤ b ∧ b < 16) (x2 : Int32) (k91 : Gr → Int32 → Int32 → Int32 → Option (Int32 × Gr)) (x3 x4 : Int32) :
    ∀ (d m n : Nat) (t : Bool), m + d = c → d < n → f_X12_fix_n102 (zI c) x2 k91 n S x3 x4 (zI (24 * b + a)) (b2 t) (zI m) = if (t && allT (Pt v X Y a b) d m) = true then k91 S (x3 + 1) (zI (24 * b + a)) (zI (24 * b + a) + (-1)) else k91 S x3 x4 (zI (24 * b + a) + (-1)) := by
  intro d
  induction d with
  | zero =>
    intro m n t hm hn
    obtain ⟨n, rfl⟩ : ∃ k, n = k + 1 := ⟨n - 1, by omega⟩
    rw [f_X12_fix_n102, if_pos ((leN (by omega) (by omega)).mpr (by omega))]
    cases t with
    | false => rw [b2_f, i00, if_neg (by rw [Bool.false_and]; decide)]; rfl
    | true => rw [b2_t, i10, if_pos (by rfl)]; rfl
  | succ d ih =>
    intro m n t hm hn
    obtain ⟨n, rfl⟩ : ∃ k, n = k + 1 := ⟨n - 1, by omega⟩
    obtain ⟨b1, b2', b3, b4⟩ := hB m (by omega)
    have hr := b4.1
    rw [f_X12_fix_n102, if_neg (fun h => absurd ((leN (by omega) (by omega)).mp h) (by omega))]
    cases t with
    | false =>
      rw [b2_f, i00, lt_e, zs1]
      have h := ih (m + 1) n false (by omega) (by omega)
      rw [b2_f, Bool.false_and] at h
      rw [h, Bool.false_and]
    | true =>
      rw [b2_t, i10, ix2p, ix2, hO (2 * m) (by omega), hO (2 * m + 1) (by omega), bd_s, b2', rdN b1 (by omega), hS3, b4.2.2.2, sp_m b4.1 hab, bd_s, bd_s]
      simp only [lt_e, zs1]
      have e : (true && allT (Pt v X Y a b) (d + 1) m) = (Pt v X Y a b m && allT (Pt v X Y a b) d (m + 1)) := by rw [Bool.true_and]; rfl
      rw [e]
      by_cases h : spz (a - X m) (b - Y m) = zI (v (2 * m + 1))
      · have hp : Pt v X Y a b m = true := decide_eq_true h
        rw [if_pos h, hp]
        exact ih (m + 1) n true (by omega) (by omega)
      · have hp : Pt v X Y a b m = false := decide_eq_false h
        rw [if_neg h, hp]
        exact ih (m + 1) n false (by omega) (by omega)
def Fx (v X Y : Nat → Int) (c m : Nat) : Bool := allT (Pt v X Y ((m % 24 : Nat) : Int) ((m / 24 : Nat) : Int)) c 0
theorem pl_24 (m : Nat) : zI (m : Int) = zI (24 * ((m / 24 : Nat) : Int) + ((m % 24 : Nat) : Int)) := by congr 1; omega
theorem f54_n {L S T : Gr} {c : Nat} {F : Nat → Bool} (hF : ∀ m : Nat, m < 384 → f_X6_isToward L S T (zI c) (zI m) = some (b2 (F m))) {x4 : Int32} (hx : ¬ x4 = 1) : ∀ (d m n : Nat), m + d = 384 → d < n → f_X6_fixBy_n54 L S T (zI c) x4 n (zI (qn F m)) (zI m) = some (zI (qn F 384)) := by
  intro d
  induction d with
  | zero =>
    intro m n hm hn
    obtain ⟨n, rfl⟩ : ∃ k, n = k + 1 := ⟨n - 1, by omega⟩
    have e : m = 384 := by omega
    subst e
    rw [f_X6_fixBy_n54, if_pos (le384 (by omega) (by omega)), if_neg hx]
  | succ d ih =>
    intro m n hm hn
    obtain ⟨n, rfl⟩ : ∃ k, n = k + 1 := ⟨n - 1, by omega⟩
    have h := ih (m + 1) n (by omega) (by omega)
    have e : qn F (m + 1) = qn F m + (if F m = true then 1 else 0) := rfl
    rw [f_X6_fixBy_n54, if_neg (nle384 (by omega)), hF m (by omega), bd_s, if_neg hx, lt_e, lt_e, lt_e, zs1, zs1]
    cases hq : F m with
    | false =>
      rw [hq, if_neg (by decide)] at e
      rw [e] at h
      rw [b2_f, i00]; exact h
    | true =>
      rw [hq, if_pos rfl] at e
      rw [b2_t, i10, ← e]; exact h
theorem f54_f {L S T : Gr} {c : Nat} {F : Nat → Bool} (hF : ∀ m : Nat, m < 384 → f_X6_isToward L S T (zI c) (zI m) = some (b2 (F m))) : ∀ (d m n : Nat) (acc : Int32), m + d = 384 → d < n → f_X6_fixBy_n54 L S T (zI c) 1 n acc (zI m) = some (fq F d m) := by
  intro d
  induction d with
  | zero =>
    intro m n acc hm hn
    obtain ⟨n, rfl⟩ : ∃ k, n = k + 1 := ⟨n - 1, by omega⟩
    rw [f_X6_fixBy_n54, if_pos (le384 (by omega) (by omega)), if_pos rfl]; rfl
  | succ d ih =>
    intro m n acc hm hn
    obtain ⟨n, rfl⟩ : ∃ k, n = k + 1 := ⟨n - 1, by omega⟩
    rw [f_X6_fixBy_n54, if_neg (nle384 (by omega)), hF m (by omega), bd_s, if_pos rfl, lt_e, zs1]
    unfold fq
    cases hq : F m with
    | false =>
      rw [b2_f, i00, if_neg (by decide)]
      exact ih (m + 1) n acc (by omega) (by omega)
    | true => rw [b2_t, i10, if_pos rfl]
theorem qn_mono (F : Nat → Bool) (m : Nat) : ∀ k, qn F m ≤ qn F (m + k) := by
  intro k
  induction k with
  | zero => exact Nat.le_refl _
  | succ k ih =>
    have : qn F (m + k + 1) = qn F (m + k) + (if F (m + k) = true then 1 else 0) := rfl
    show qn F m ≤ qn F (m + k + 1)
    omega
theorem f91 {S : Gr} {c : Nat} {F : Nat → Bool} (x2 : Int32) (hF : ∀ m : Nat, m < 384 → ∀ (k91 : Gr → Int32 → Int32 → Int32 → Option (Int32 × Gr)) (x3 x4 : Int32), f_X12_fix_n102 (zI c) x2 k91 fu S x3 x4 (zI m) 1 0 = if F m = true then k91 S (x3 + 1) (zI m) (zI m + (-1)) else k91 S x3 x4 (zI m + (-1))) : ∀ (m n d : Nat), m + d = 384 → m < n → f_X12_fix_n91 (zI c) x2 n S (zI ((qn F 384 - qn F m : Nat) : Int)) (fq F d m) (zI ((m : Int) - 1)) = (if x2 = 0 then some (zI (qn F 384), S) else some (fq F 384 0, S)) := by
  have e0 : (0 : Int32) = zI 0 := rfl
  have em : (-1 : Int32) = zI (-1) := rfl
  intro m
  induction m with
  | zero =>
    intro n d hm hn
    obtain ⟨n, rfl⟩ : ∃ k, n = k + 1 := ⟨n - 1, by omega⟩
    have e : d = 384 := by omega
    subst e
    have h1 : zI (((0 : Nat) : Int) - 1) < 0 := by decide
    rw [f_X12_fix_n91, if_pos h1]
    rfl
  | succ m ih =>
    intro n d hm hn
    obtain ⟨n, rfl⟩ : ∃ k, n = k + 1 := ⟨n - 1, by omega⟩
    have e1 : ((m + 1 : Nat) : Int) - 1 = (m : Int) := by omega
    have h1 : ¬ zI (m : Int) < 0 := by rw [e0, zI_lt (by omega) (by omega) (by omega) (by omega)]; omega
    have h := ih n (d + 1) (by omega) (by omega)
    have eq : qn F (m + 1) = qn F m + (if F m = true then 1 else 0) := rfl
    have hle := qn_mono F (m + 1) d
    rw [hm] at hle
    have es : zI (m : Int) + (-1) = zI ((m : Int) - 1) := by rw [em, zI_add]; rfl
    rw [e1, f_X12_fix_n91, if_neg h1, hF m (by omega), es]
    cases hq : F m with
    | true =>
      rw [hq, if_pos rfl] at eq
      have ef : fq F (d + 1) m = zI m := by unfold fq; rw [if_pos hq]
      rw [ef] at h
      rw [if_pos rfl, zs1, show qn F 384 - qn F (m + 1) + 1 = qn F 384 - qn F m by omega]
      exact h
    | false =>
      rw [hq, if_neg (by decide)] at eq
      have ef : fq F (d + 1) m = fq F d (m + 1) := by
        show (if F m = true then zI m else fq F d (m + 1)) = _
        rw [if_neg (by rw [hq]; decide)]
      rw [ef] at h
      rw [if_neg (by decide), show qn F 384 - qn F (m + 1) = qn F 384 - qn F m by omega]
      exact h
theorem fxv_lp {C : Nat → Gr} {M L : Gr} (hI : Inv C M) {c : Nat} (hc : c ≤ 8) (v : Nat → Int) (hv : ∀ j, j < 2 * c → 0 ≤ v j ∧ v j < 256) (hA : ∀ j, j < 2 * c → f_X8_at (C 1) (zI j) = some (zI (v j))) (hO : ∀ j, j < 2 * c → f_X12_octet (sI M 8 0) (zI j) = some (zI (v j))) (x4 : Int32)
    (hfin : (∀ i, i < c → ∃ p : Nat, p < 8 ∧ v (2 * i) = (p : Int) ∧ tb (M.1 5) (zI p) = true) → ∃ r, f_X6_fixBy_n54 L (C 13) (C 1) (zI c) x4 fu 0 0 = some r ∧ f_X12_fix_n91 (zI c) x4 fu (sI M 8 0) 0 (-2) 383 = some (r, sI M 8 0)) :
    ∀ (d m n n' : Nat), m + d = c → d < n → d < n' → (∀ i, i < m → ∃ p : Nat, p < 8 ∧ v (2 * i) = (p : Int) ∧ tb (M.1 5) (zI p) = true) → ∃ r, f_X6_fixBy_n3 L (C 13) (C 1) (zI c) x4 n (zI m) = some r ∧ f_X12_fix_n38 (zI c) x4 n' (sI M 8 0) (zI m) = some (r, sI M 8 0) := by
  intro d
  induction d with
  | zero =>
    intro m n n' hm hn hn' hok
    obtain ⟨n, rfl⟩ : ∃ k, n = k + 1 := ⟨n - 1, by omega⟩
    obtain ⟨n', rfl⟩ : ∃ k, n' = k + 1 := ⟨n' - 1, by omega⟩
    have h1 : zI c ≤ zI m := (leN (by omega) (by omega)).mpr (by omega)
    rw [f_X6_fixBy_n3, if_pos h1, f_X12_fix_n38, if_pos h1]
    exact hfin (fun i hi => hok i (by omega))
  | succ d ih =>
    intro m n n' hm hn hn' hok
    obtain ⟨n, rfl⟩ : ∃ k, n = k + 1 := ⟨n - 1, by omega⟩
    obtain ⟨n', rfl⟩ : ∃ k, n' = k + 1 := ⟨n' - 1, by omega⟩
    have h1 : ¬ zI c ≤ zI m := fun h => absurd ((leN (by omega) (by omega)).mp h) (by omega)
    rw [f_X6_fixBy_n3, if_neg h1, f_X12_fix_n38, if_neg h1, ix2p, ix2, hA (2 * m) (by omega), hA (2 * m + 1) (by omega), hO (2 * m) (by omega), hO (2 * m + 1) (by omega)]
    simp only [bd_s, hasWeb_e, isWeb_e, lt_e, zs1]
    rw [hI.2.1.1, show (sI M 8 0).1 5 = M.1 5 from rfl]
    cases ht : tb (M.1 5) (zI (v (2 * m))) with
    | false => rw [b2_f, i00, i00]; exact ⟨_, rfl, rfl⟩
    | true =>
      rw [b2_t, i10, i10]
      by_cases h8 : zI (v (2 * m + 1)) < 8
      · rw [if_pos h8, if_pos h8]
        refine ih (m + 1) n n' (by omega) (by omega) (by omega) (fun i hi => ?_)
        by_cases e : i = m
        · subst e
          obtain ⟨p, hp, e2, -⟩ := tb_t ht
          have b0 := hv (2 * i) (by omega)
          rw [zI_eq (by omega) (by omega) (by omega) (by omega)] at e2
          exact ⟨p, hp, e2, by rw [← e2]; exact ht⟩
        · exact hok i (by omega)
      · rw [if_neg h8, if_neg h8]; exact ⟨_, rfl, rfl⟩
theorem fix_ok : hp_fix Inv := by
  intro C M hI x y
  obtain ⟨k, hk⟩ := tpR.of hI.1
  have hk260 := hk.1
  unfold f_X11_fix f_X12_fix
  rw [within_e, in_e, bd_s, bd_s, within_e, in_e, bd_s, bd_s]
  by_cases hx : (1 : Int32) ≤ x ∧ x ≤ 8
  · rw [decide_eq_true hx, b2_t, i10, i10]
    by_cases hy : (0 : Int32) ≤ y ∧ y ≤ 1
    · rw [decide_eq_true hy, b2_t, i10, i10]
      obtain ⟨c, hc1, hc2, rfl⟩ := in_of2 1 8 (by omega) (by omega) hx
      rw [ix2, has_b hk (by omega), bd_s]
      by_cases hck : 2 * c ≤ k
      · rw [decide_eq_true hck, b2_t, i10, if_pos ((hasm_b hk (by omega)).mpr hck), lt_e]
        have hv : ∀ j, j < 2 * c → 0 ≤ bz (C 1) j ∧ bz (C 1) j < 256 := fun j hj => ⟨(tp_v hk (by omega)).1, (tp_v hk (by omega)).2.1⟩
        have hA : ∀ j, j < 2 * c → f_X8_at (C 1) (zI j) = some (zI (bz (C 1) j)) := fun j hj => at_b hk (by omega)
        have hO : ∀ j, j < 2 * c → f_X12_octet (sI M 8 0) (zI j) = some (zI (bz (C 1) j)) := fun j hj => oct_b hk rfl (by omega)
        obtain ⟨r, q1, q2⟩ := fxv_lp (L := C 8) hI hc2 (bz (C 1)) hv hA hO y (fun hw => by
          have hB : brg (C 13) M (bz (C 1)) c (fun i => (bz (C 1) (2 * i)).toNat) (fun i => ((C 13).2 2 (bz (C 1) (2 * i)).toNat).toInt) (fun i => ((C 13).2 3 (bz (C 1) (2 * i)).toNat).toInt) := fun i hi => by
            obtain ⟨p, hp, e1, e2⟩ := hw i hi
            have e3 : (bz (C 1) (2 * i)).toNat = p := by omega
            obtain ⟨x', y', w1, w2, w3, w4⟩ := wp_of hI hp ((tb_z hp).mp e2)
            show (bz (C 1) (2 * i)).toNat < 8 ∧ bz (C 1) (2 * i) = (((bz (C 1) (2 * i)).toNat : Nat) : Int) ∧ tb (M.1 5) (zI (((bz (C 1) (2 * i)).toNat : Nat) : Int)) = true ∧ wpOK (C 13) M (bz (C 1) (2 * i)).toNat ((C 13).2 2 (bz (C 1) (2 * i)).toNat).toInt ((C 13).2 3 (bz (C 1) (2 * i)).toNat).toInt
            rw [e3, w2, w3, zI_toInt (by omega) (by omega), zI_toInt (by omega) (by omega)]
            exact ⟨hp, e1, e2, w1, w2, w3, w4⟩
          have hF1 : ∀ m : Nat, m < 384 → f_X6_isToward (C 8) (C 13) (C 1) (zI c) (zI m) = some (b2 (Fx (bz (C 1)) (fun i => ((C 13).2 2 (bz (C 1) (2 * i)).toNat).toInt) (fun i => ((C 13).2 3 (bz (C 1) (2 * i)).toNat).toInt) c m)) := fun m hm => by
            rw [pl_24 m]
            exact tow_lp hI hc2 (bz (C 1)) hA _ _ _ hB (by omega) c 0 fu (by omega) (by show c < 1000; omega)
          have hF2 : ∀ m : Nat, m < 384 → ∀ (k91 : Gr → Int32 → Int32 → Int32 → Option (Int32 × Gr)) (x3 x4 : Int32), f_X12_fix_n102 (zI c) y k91 fu (sI M 8 0) x3 x4 (zI m) 1 0 = if Fx (bz (C 1)) (fun i => ((C 13).2 2 (bz (C 1) (2 * i)).toNat).toInt) (fun i => ((C 13).2 3 (bz (C 1) (2 * i)).toNat).toInt) c m = true then k91 (sI M 8 0) (x3 + 1) (zI m) (zI m + (-1)) else k91 (sI M 8 0) x3 x4 (zI m + (-1)) := fun m hm k91 x3 x4 => by
            have h := fxm_lp (C := C) (M := M) (S := sI M 8 0) rfl hc2 (bz (C 1)) hO _ _ _ hB (a := ((m % 24 : Nat) : Int)) (b := ((m / 24 : Nat) : Int)) (by omega) y k91 x3 x4 c 0 fu true (by omega) (by show c < 1000; omega)
            rw [← pl_24 m, Bool.true_and] at h
            exact h
          have h3 := f91 y hF2 384 fu 0 (by omega) (by decide)
          rw [Nat.sub_self] at h3
          obtain ⟨j, hj, rfl⟩ := in_of 1 (by omega) hy
          by_cases y0 : j = 0
          · subst y0
            have h1 := f54_n hF1 (x4 := 0) (by decide) 384 0 fu (by omega) (by decide)
            exact ⟨_, h1, h3⟩
          · have y1 : j = 1 := by omega
            subst y1
            have h1 := f54_f hF1 384 0 fu 0 (by omega) (by decide)
            exact ⟨_, h1, h3⟩) c 0 fu fu (by omega) (by show c < 1000; omega) (by show c < 1000; omega) (fun i hi => by omega)
        have q1 : f_X6_fixBy (C 8) (C 13) (C 1) (zI c) y = some r := q1
        have q2 : f_X12_fix_n38 (zI c) y fu (sI M 8 0) 0 = _ := q2
        rw [q1, q2]
        exact ⟨_, _, rfl, rfl, rfl, emp_ok hI (keep8 M 0) rfl rfl rfl rfl rfl rfl rfl⟩
      · rw [decide_eq_false hck, b2_f, i00, if_neg (fun h => hck ((hasm_b hk (by omega)).mp h))]
        exact ⟨_, _, rfl, rfl, rfl, Inv_keep hI (keepM.rf M) hI.1 rfl rfl rfl rfl⟩
    · rw [decide_eq_false hy, b2_f, i00, i00]; exact ⟨_, _, rfl, rfl, rfl, Inv_keep hI (keepM.rf M) hI.1 rfl rfl rfl rfl⟩
  · rw [decide_eq_false hx, b2_f, i00, i00]; exact ⟨_, _, rfl, rfl, rfl, Inv_keep hI (keepM.rf M) hI.1 rfl rfl rfl rfl⟩
