/-! undo -/
theorem tw_bt {w : Int32} {p : Nat} (hp : p < 8) : tw w p ↔ bt w p = true := by
  unfold tw
  rw [← zI_nI]
  constructor
  · intro h
    have h1 : bt ((w >>> (nI p &&& 31)) &&& 1) 0 = true := by rw [h]; decide +kernel
    rw [b_and, b_sshr p (by omega) w (by omega), if_pos (by omega)] at h1
    rw [Bool.and_eq_true] at h1
    exact h1.1
  · intro h
    refine b_ext fun i hi => ?_
    rw [b_and, b_sshr p (by omega) w hi]
    by_cases h0 : i = 0
    · subst h0
      rw [if_pos (by omega), show p + 0 = p from rfl, h]; decide +kernel
    · have h2 : bt 1 i = false := (by decide +kernel : ∀ j, j < 32 → ¬ j = 0 → bt 1 j = false) i hi h0
      rw [h2, Bool.and_false]
theorem tw_and {a b : Int32} {p : Nat} (hp : p < 8) : tw (a &&& b) p ↔ (tw a p ∧ tw b p) := by
  rw [tw_bt hp, tw_bt hp, tw_bt hp, b_and, Bool.and_eq_true]
theorem cp8m {β : Type} {k : Option β} {m : Nat} (hm : m < 8) : cp' (zI m * 8) (zI m * 8) 8 64 64 k = k := by
  have e : zI m * 8 = zI ((8 * m : Nat) : Int) := by
    have e8 : (8 : Int32) = zI 8 := rfl
    rw [e8, zI_mul]; congr 1; omega
  have h0 : ¬ zI ((8 * m : Nat) : Int) < 0 := by
    have e0 : (0 : Int32) = zI 0 := rfl
    rw [e0, zI_lt (by omega) (by omega) (by omega) (by omega)]; omega
  have h8 : Int32.toNatClampNeg 8 = 8 := by decide
  unfold cp'
  rw [e]
  refine if_neg ?_
  rw [clN (by omega), h8]
  rintro (h | h | h | h | h)
  · exact h0 h
  · exact h0 h
  · exact absurd h (by decide)
  · omega
  · omega
theorem cl8m {m : Nat} (hm : m < 8) : Int32.toNatClampNeg (zI m * 8) = 8 * m := by
  have e : zI m * 8 = zI ((8 * m : Nat) : Int) := by
    have e8 : (8 : Int32) = zI 8 := rfl
    rw [e8, zI_mul]; congr 1; omega
  rw [e, clN (by omega)]
theorem tk1 {K : Gr} : ∀ (d m n : Nat) (S : Gr), m + d = 8 → d < n → ∃ S', f_X7_takeBack_n2 K n S (zI m) = f_X7_takeBack_n45 K fu S' 0 ∧ S'.1 = S.1 ∧ (∀ j, j ≠ 4 → S'.2 j = S.2 j) ∧ ∀ p s : Nat, p < 8 → s < 8 → S'.2 4 (8 * p + s) = if m ≤ p ∧ tb (K.1 0) (zI p) = true then K.2 4 (8 * p + s) else S.2 4 (8 * p + s) := by
  intro d
  induction d with
  | zero =>
    intro m n S hm hn
    obtain ⟨n, rfl⟩ : ∃ k, n = k + 1 := ⟨n - 1, by omega⟩
    rw [f_X7_takeBack_n2, if_pos (le8 (by omega) (by omega))]
    exact ⟨S, rfl, rfl, fun _ _ => rfl, fun p s hp hs => by rw [if_neg (by omega)]⟩
  | succ d ih =>
    intro m n S hm hn
    obtain ⟨n, rfl⟩ : ∃ k, n = k + 1 := ⟨n - 1, by omega⟩
    rw [f_X7_takeBack_n2, if_neg (nle8 (by omega)), hasWeb_e, bd_s, lt_e, zs1]
    cases ht : tb (K.1 0) (zI m) with
    | false =>
      rw [b2_f, i00]
      obtain ⟨S', q1, q2, q3, q4⟩ := ih (m + 1) n S (by omega) (by omega)
      refine ⟨S', q1, q2, q3, fun p s hp hs => ?_⟩
      rw [q4 p s hp hs]
      by_cases e : p = m
      · subst e
        rw [if_neg (by omega), if_neg (fun h => by rw [ht] at h; exact absurd h.2 (by decide))]
      · by_cases h1 : m + 1 ≤ p ∧ tb (K.1 0) (zI p) = true
        · rw [if_pos h1, if_pos ⟨by omega, h1.2⟩]
        · rw [if_neg h1, if_neg (fun h => h1 ⟨by omega, h.2⟩)]
    | true =>
      rw [b2_t, i10, cp8m (by omega), lt_e, lt_e]
      obtain ⟨S', q1, q2, q3, q4⟩ := ih (m + 1) n (sR S 4 (va_cpy (K.2 4) (S.2 4) (Int32.toNatClampNeg (zI m * 8)) (Int32.toNatClampNeg (zI m * 8)) (Int32.toNatClampNeg 8))) (by omega) (by omega)
      refine ⟨S', q1, q2, fun j hj => ?_, fun p s hp hs => ?_⟩
      · rw [q3 j hj, sR_2, if_neg hj]
      · rw [q4 p s hp hs, sR_2, if_pos rfl, cl8m (by omega), show Int32.toNatClampNeg 8 = 8 from by decide]
        by_cases e : p = m
        · subst e
          rw [if_neg (by omega), if_pos ⟨Nat.le_refl _, ht⟩, pk_cpy_in (by omega) (by omega), show 8 * p + (8 * p + s - 8 * p) = 8 * p + s by omega]
        · rw [pk_cpy_out (by omega)]
          by_cases h1 : m + 1 ≤ p ∧ tb (K.1 0) (zI p) = true
          · rw [if_pos h1, if_pos ⟨by omega, h1.2⟩]
          · rw [if_neg h1, if_neg (fun h => h1 ⟨by omega, h.2⟩)]
theorem tk2 {K : Gr} : ∀ (d m n : Nat) (S : Gr), m + d = 8 → d < n → ∃ S', f_X7_takeBack_n45 K n S (zI m) = some S' ∧ S'.1 0 = S.1 0 ∧ S'.1 1 = S.1 1 ∧ S'.1 9 = K.1 9 ∧ S'.1 10 = K.1 10 ∧ (∀ j, j ≠ 5 → j ≠ 6 → j ≠ 8 → S'.2 j = S.2 j) ∧ ∀ g : Nat, g < 8 → (S'.2 5 g = (if m ≤ g ∧ tb (K.1 1) (zI g) = true then K.2 5 g else S.2 5 g)) ∧ (S'.2 6 g = (if m ≤ g ∧ tb (K.1 1) (zI g) = true then K.2 6 g else S.2 6 g)) ∧ (S'.2 8 g = (if m ≤ g ∧ tb (K.1 1) (zI g) = true then K.2 8 g else S.2 8 g)) := by
  intro d
  induction d with
  | zero =>
    intro m n S hm hn
    obtain ⟨n, rfl⟩ : ∃ k, n = k + 1 := ⟨n - 1, by omega⟩
    rw [f_X7_takeBack_n45, if_pos (le8 (by omega) (by omega)), lt_e, lt_e]
    exact ⟨_, rfl, rfl, rfl, rfl, rfl, fun _ _ _ _ => rfl, fun g hg => by rw [if_neg (by omega), if_neg (by omega), if_neg (by omega)]; exact ⟨rfl, rfl, rfl⟩⟩
  | succ d ih =>
    intro m n S hm hn
    obtain ⟨n, rfl⟩ : ∃ k, n = k + 1 := ⟨n - 1, by omega⟩
    rw [f_X7_takeBack_n45, if_neg (nle8 (by omega)), hasFleet_e, bd_s]
    simp only [lt_e, zs1, rdN (f := K.2 5) (N := 8) (m := m) (by omega) (by omega), rdN (f := K.2 6) (N := 8) (m := m) (by omega) (by omega), rdN (f := K.2 8) (N := 8) (m := m) (by omega) (by omega), ckN (N := 8) (m := m) (by omega) (by omega), clN (m := m) (by omega)]
    cases ht : tb (K.1 1) (zI m) with
    | false =>
      rw [b2_f, i00]
      obtain ⟨S', q1, q2, q3, q4, q5, q6, q7⟩ := ih (m + 1) n S (by omega) (by omega)
      refine ⟨S', q1, q2, q3, q4, q5, q6, fun g hg => ?_⟩
      have e1 : (m + 1 ≤ g ∧ tb (K.1 1) (zI g) = true) ↔ (m ≤ g ∧ tb (K.1 1) (zI g) = true) := by
        constructor
        · intro h; exact ⟨by omega, h.2⟩
        · intro h
          refine ⟨?_, h.2⟩
          by_cases e : g = m
          · rw [e, ht] at h; exact absurd h.2 (by decide)
          · omega
      have h := q7 g hg
      simp only [e1] at h
      exact h
    | true =>
      rw [b2_t, i10]
      obtain ⟨S', q1, q2, q3, q4, q5, q6, q7⟩ := ih (m + 1) n (sA (sA (sA S 5 m (K.2 5 m)) 6 m (K.2 6 m)) 8 m (K.2 8 m)) (by omega) (by omega)
      refine ⟨S', q1, q2, q3, q4, q5, fun j h5 h6 h8 => ?_, fun g hg => ?_⟩
      · rw [q6 j h5 h6 h8, sA_2, if_neg h8, sA_2, if_neg h6, sA_2, if_neg h5]
      · obtain ⟨r1, r2, r3⟩ := q7 g hg
        have f5 : (sA (sA (sA S 5 m (K.2 5 m)) 6 m (K.2 6 m)) 8 m (K.2 8 m)).2 5 g = if g = m then K.2 5 m else S.2 5 g := rfl
        have f6 : (sA (sA (sA S 5 m (K.2 5 m)) 6 m (K.2 6 m)) 8 m (K.2 8 m)).2 6 g = if g = m then K.2 6 m else S.2 6 g := rfl
        have f8 : (sA (sA (sA S 5 m (K.2 5 m)) 6 m (K.2 6 m)) 8 m (K.2 8 m)).2 8 g = if g = m then K.2 8 m else S.2 8 g := rfl
        rw [f5] at r1
        rw [f6] at r2
        rw [f8] at r3
        by_cases e : g = m
        · subst e
          have n1 : ¬ (g + 1 ≤ g ∧ tb (K.1 1) (zI g) = true) := fun h => absurd h.1 (by omega)
          rw [if_neg n1, if_pos rfl] at r1 r2 r3
          rw [if_pos ⟨Nat.le_refl _, ht⟩, if_pos ⟨Nat.le_refl _, ht⟩, if_pos ⟨Nat.le_refl _, ht⟩]
          exact ⟨r1, r2, r3⟩
        · have e1 : (m + 1 ≤ g ∧ tb (K.1 1) (zI g) = true) ↔ (m ≤ g ∧ tb (K.1 1) (zI g) = true) := by
            constructor
            · intro h; exact ⟨by omega, h.2⟩
            · intro h; exact ⟨by omega, h.2⟩
          rw [if_neg e] at r1 r2 r3
          simp only [e1] at r1 r2 r3
          exact ⟨r1, r2, r3⟩
/-- the reference's inner loop: tensions of one web -/
theorem un_in {k11 : Gr → Int32 → Option (Int32 × Gr)} {m : Nat} (hm : m < 8) : ∀ (d i n : Nat) (S : Gr), i + d = 8 * m + 8 → 8 * m ≤ i → d < n → ∃ S', f_X12_undo_n22 k11 n S (zI m) (zI i) = f_X12_undo_n22 k11 1 S' (zI m) (zI ((8 * m + 8 : Nat) : Int)) ∧ S'.1 = S.1 ∧ (∀ j, j ≠ 0 → S'.2 j = S.2 j) ∧ ∀ j, S'.2 0 j = if i ≤ j ∧ j < 8 * m + 8 ∧ tb (S.1 5 &&& S.1 55) (zI m) = true then S.2 2 j else S.2 0 j := by
  have hc : ∀ i : Nat, i < 1000 → ((8 * zI m + 8 ≤ zI i) ↔ 8 * m + 8 ≤ i) := by
    intro i hi
    have e8 : (8 : Int32) = zI 8 := rfl
    rw [e8, zI_mul, zI_add, zI_le (by omega) (by omega) (by omega) (by omega)]; omega
  have ez : ∀ i : Nat, (0 : Int32) + zI i = zI i := fun i => Int32.zero_add _
  intro d
  induction d with
  | zero =>
    intro i n S hi h8 hn
    obtain ⟨n, rfl⟩ : ∃ k, n = k + 1 := ⟨n - 1, by omega⟩
    have e : i = 8 * m + 8 := by omega
    subst e
    refine ⟨S, ?_, rfl, fun _ _ => rfl, fun j => by rw [if_neg (by omega)]⟩
    rw [f_X12_undo_n22, if_pos ((hc _ (by omega)).mpr (by omega)), f_X12_undo_n22, if_pos ((hc _ (by omega)).mpr (by omega))]
  | succ d ih =>
    intro i n S hi h8 hn
    obtain ⟨n, rfl⟩ : ∃ k, n = k + 1 := ⟨n - 1, by omega⟩
    rw [f_X12_undo_n22, if_neg (fun h => absurd ((hc _ (by omega)).mp h) (by omega)), has_z hm, bd_s, ez, rdN (by omega) (by omega), ckN (by omega) (by omega), clN (by omega)]
    simp only [lt_e, zs1]
    rcases (Bool.eq_false_or_eq_true (tb (S.1 5 &&& S.1 55) (zI m))).symm with ht | ht
    · have hnt : ¬ tb (S.1 5 &&& S.1 55) (zI m) = true := by rw [ht]; decide
      rw [show b2 (tb (S.1 5 &&& S.1 55) (zI m)) = 0 from by rw [ht]; rfl, i00]
      obtain ⟨S', q1, q2, q3, q4⟩ := ih (i + 1) n S (by omega) (by omega) (by omega)
      refine ⟨S', q1, q2, q3, fun j => ?_⟩
      rw [q4 j, if_neg (fun h : _ ∧ _ ∧ _ => hnt h.2.2), if_neg (fun h : _ ∧ _ ∧ _ => hnt h.2.2)]
    · have htw := ht
      rw [show b2 (tb (S.1 5 &&& S.1 55) (zI m)) = 1 from by rw [ht]; rfl, i10]
      obtain ⟨S', q1, q2, q3, q4⟩ := ih (i + 1) n (sA S 0 i (S.2 2 i)) (by omega) (by omega) (by omega)
      refine ⟨S', q1, q2, fun j hj => ?_, fun j => ?_⟩
      · rw [q3 j hj, sA_2, if_neg hj]
      · have q4 := q4 j
        have f1 : (sA S 0 i (S.2 2 i)).2 0 j = if j = i then S.2 2 i else S.2 0 j := rfl
        have f2 : (sA S 0 i (S.2 2 i)).2 2 j = S.2 2 j := rfl
        have f3 : (sA S 0 i (S.2 2 i)).1 = S.1 := rfl
        rw [f1, f2, f3] at q4
        rw [q4]
        by_cases e : j = i
        · subst e
          rw [if_neg (by omega), if_pos rfl, if_pos ⟨Nat.le_refl _, by omega, htw⟩]
        · by_cases h1 : i + 1 ≤ j ∧ j < 8 * m + 8
          · rw [if_pos ⟨h1.1, h1.2, htw⟩, if_pos ⟨by omega, h1.2, htw⟩]
          · rw [if_neg (fun h => h1 ⟨h.1, h.2.1⟩), if_neg e, if_neg (fun h => h1 ⟨by omega, h.2.1⟩)]
theorem un_out : ∀ (d m n : Nat) (S : Gr), m + d = 8 → d < n → ∃ S', f_X12_undo_n11 n S (zI m) = some (1, S') ∧ S'.1 = S.1 ∧ (∀ j, j ≠ 0 → S'.2 j = S.2 j) ∧ S'.2 0 80 = S.2 2 80 ∧ S'.2 0 81 = S.2 2 81 ∧
    (∀ p s : Nat, p < 8 → s < 8 → S'.2 0 (8 * p + s) = if m ≤ p ∧ tb (S.1 5 &&& S.1 55) (zI p) = true then S.2 2 (8 * p + s) else S.2 0 (8 * p + s)) ∧
    (∀ g : Nat, g < 8 → S'.2 0 (64 + g) = (if m ≤ g ∧ tb (S.1 6 &&& S.1 56) (zI g) = true then S.2 2 (64 + g) else S.2 0 (64 + g)) ∧ S'.2 0 (72 + g) = (if m ≤ g ∧ tb (S.1 6 &&& S.1 56) (zI g) = true then S.2 2 (72 + g) else S.2 0 (72 + g))) := by
  have e80 : (80 : Int32) = zI ((80 : Nat) : Int) := rfl
  have e81 : (81 : Int32) = zI ((81 : Nat) : Int) := rfl
  intro d
  induction d with
  | zero =>
    intro m n S hm hn
    obtain ⟨n, rfl⟩ : ∃ k, n = k + 1 := ⟨n - 1, by omega⟩
    rw [f_X12_undo_n11, if_pos (le8 (by omega) (by omega)), e80, e81, rdN (by omega) (by omega), ckN (by omega) (by omega), clN (by omega), lt_e, rdN (by omega) (by omega), ckN (by omega) (by omega), clN (by omega), lt_e]
    refine ⟨_, rfl, rfl, fun j hj => ?_, rfl, rfl, fun p s hp hs => ?_, fun g hg => ?_⟩
    · rw [sA_2, if_neg hj, sA_2, if_neg hj]
    · rw [if_neg (by omega), sA_2, if_pos rfl, upd_e, if_neg (by omega), sA_2, if_pos rfl, upd_e, if_neg (by omega)]
    · rw [if_neg (by omega), if_neg (by omega), sA_2, if_pos rfl, upd_e, if_neg (by omega), sA_2, if_pos rfl, upd_e, if_neg (by omega), upd_e, if_neg (by omega), upd_e, if_neg (by omega)]
      exact ⟨rfl, rfl⟩
  | succ d ih =>
    intro m n S hm hn
    obtain ⟨n, rfl⟩ : ∃ k, n = k + 1 := ⟨n - 1, by omega⟩
    have hm8 : m < 8 := by omega
    have e8m : (8 : Int32) * zI m = zI ((8 * m : Nat) : Int) := by
      have e8 : (8 : Int32) = zI 8 := rfl
      rw [e8, zI_mul]; first | rfl | (congr 1; omega)
    have hc8 : 8 * zI m + 8 ≤ zI ((8 * m + 8 : Nat) : Int) := by
      have e8 : (8 : Int32) = zI 8 := rfl
      rw [e8, zI_mul, zI_add, zI_le (by omega) (by omega) (by omega) (by omega)]; omega
    obtain ⟨S1, a1, a2, a3, a4⟩ := un_in (k11 := f_X12_undo_n11 n) hm8 8 (8 * m) fu S (by omega) (by omega) (by decide)
    rw [f_X12_undo_n11, if_neg (nle8 (by omega)), lt_e, e8m, a1, f_X12_undo_n22, if_pos hc8, has_z hm8, bd_s, ix64, ix72, rdN (by omega) (by omega), ckN (by omega) (by omega), clN (by omega)]
    simp only [lt_e, zs1]
    rw [rdN (by omega) (by omega), ckN (by omega) (by omega), clN (by omega), a2]
    rcases (Bool.eq_false_or_eq_true (tb (S.1 6 &&& S.1 56) (zI m))).symm with ht | ht
    · rw [show b2 (tb (S.1 6 &&& S.1 56) (zI m)) = 0 from by rw [ht]; rfl, i00]
      obtain ⟨S', q1, q2, q3, q4, q5, q6, q7⟩ := ih (m + 1) n S1 (by omega) (by omega)
      rw [a2, a3 2 (by omega)] at q6 q7
      rw [a3 2 (by omega)] at q4 q5
      refine ⟨S', q1, q2.trans a2, fun j hj => (q3 j hj).trans (a3 j hj), q4, q5, fun p s hp hs => ?_, fun g hg => ?_⟩
      · rw [q6 p s hp hs, a4]
        by_cases e : p = m
        · subst e
          rw [if_neg (fun h : p + 1 ≤ p ∧ _ => absurd h.1 (by omega))]
          by_cases hb : tb (S.1 5 &&& S.1 55) (zI p) = true
          · rw [if_pos ⟨by omega, by omega, hb⟩, if_pos ⟨Nat.le_refl _, hb⟩]
          · rw [if_neg (fun h : _ ∧ _ ∧ _ => hb h.2.2), if_neg (fun h : _ ∧ _ => hb h.2)]
        · rw [if_neg (fun h : 8 * m ≤ 8 * p + s ∧ 8 * p + s < 8 * m + 8 ∧ _ => by have h1 := h.1; have h2 := h.2.1; omega)]
          by_cases hb : m + 1 ≤ p ∧ tb (S.1 5 &&& S.1 55) (zI p) = true
          · rw [if_pos hb, if_pos ⟨by omega, hb.2⟩]
          · rw [if_neg hb, if_neg (fun h : _ ∧ _ => hb ⟨by omega, h.2⟩)]
      · obtain ⟨r1, r2⟩ := q7 g hg
        rw [a4, if_neg (fun h : 8 * m ≤ 64 + g ∧ 64 + g < 8 * m + 8 ∧ _ => absurd h.2.1 (by omega))] at r1
        rw [a4, if_neg (fun h : 8 * m ≤ 72 + g ∧ 72 + g < 8 * m + 8 ∧ _ => absurd h.2.1 (by omega))] at r2
        have e1 : (m + 1 ≤ g ∧ tb (S.1 6 &&& S.1 56) (zI g) = true) ↔ (m ≤ g ∧ tb (S.1 6 &&& S.1 56) (zI g) = true) := by
          constructor
          · intro h; exact ⟨by omega, h.2⟩
          · intro h
            refine ⟨?_, h.2⟩
            by_cases e : g = m
            · rw [e, ht] at h; exact absurd h.2 (by decide)
            · omega
        simp only [e1] at r1 r2
        exact ⟨r1, r2⟩
    · rw [show b2 (tb (S.1 6 &&& S.1 56) (zI m)) = 1 from by rw [ht]; rfl, i10]
      obtain ⟨S2, hS2⟩ : ∃ z, z = sA (sA S1 0 (64 + m) (S1.2 2 (64 + m))) 0 (72 + m) ((sA S1 0 (64 + m) (S1.2 2 (64 + m))).2 2 (72 + m)) := ⟨_, rfl⟩
      have b1 : S2.1 = S.1 := by rw [hS2]; exact a2
      have b2 : ∀ j, j ≠ 0 → S2.2 j = S.2 j := fun j hj => by rw [hS2, sA_2, if_neg hj, sA_2, if_neg hj]; exact a3 j hj
      have b3 : ∀ j, S2.2 0 j = if j = 72 + m then S.2 2 (72 + m) else if j = 64 + m then S.2 2 (64 + m) else S1.2 0 j := fun j => by
        rw [hS2]
        show (if j = 72 + m then S1.2 2 (72 + m) else if j = 64 + m then S1.2 2 (64 + m) else S1.2 0 j) = _
        rw [a3 2 (by omega)]
      have b3p : ∀ p s : Nat, p < 8 → s < 8 → S2.2 0 (8 * p + s) = S1.2 0 (8 * p + s) := fun p s hp hs => by
        rw [b3, if_neg (show ¬ 8 * p + s = 72 + m by omega), if_neg (show ¬ 8 * p + s = 64 + m by omega)]
      rw [← hS2]
      obtain ⟨S', q1, q2, q3, q4, q5, q6, q7⟩ := ih (m + 1) n S2 (by omega) (by omega)
      rw [b1, b2 2 (by omega)] at q6 q7
      rw [b2 2 (by omega)] at q4 q5
      refine ⟨S', q1, q2.trans b1, fun j hj => (q3 j hj).trans (b2 j hj), q4, q5, fun p s hp hs => ?_, fun g hg => ?_⟩
      · rw [q6 p s hp hs, b3p p s hp hs, a4]
        by_cases e : p = m
        · subst e
          rw [if_neg (fun h : p + 1 ≤ p ∧ _ => absurd h.1 (by omega))]
          by_cases hb : tb (S.1 5 &&& S.1 55) (zI p) = true
          · rw [if_pos ⟨by omega, by omega, hb⟩, if_pos ⟨Nat.le_refl _, hb⟩]
          · rw [if_neg (fun h : _ ∧ _ ∧ _ => hb h.2.2), if_neg (fun h : _ ∧ _ => hb h.2)]
        · rw [if_neg (fun h : 8 * m ≤ 8 * p + s ∧ 8 * p + s < 8 * m + 8 ∧ _ => by have h1 := h.1; have h2 := h.2.1; omega)]
          by_cases hb : m + 1 ≤ p ∧ tb (S.1 5 &&& S.1 55) (zI p) = true
          · rw [if_pos hb, if_pos ⟨by omega, hb.2⟩]
          · rw [if_neg hb, if_neg (fun h : _ ∧ _ => hb ⟨by omega, h.2⟩)]
      · obtain ⟨r1, r2⟩ := q7 g hg
        rw [b3, if_neg (show ¬ 64 + g = 72 + m by omega)] at r1
        rw [b3] at r2
        by_cases e : g = m
        · subst e
          rw [if_neg (fun h : g + 1 ≤ g ∧ _ => absurd h.1 (by omega)), if_pos rfl] at r1 r2
          rw [if_pos ⟨Nat.le_refl _, ht⟩, if_pos ⟨Nat.le_refl _, ht⟩]
          exact ⟨r1, r2⟩
        · rw [if_neg (show ¬ 64 + g = 64 + m by omega), a4, if_neg (fun h : 8 * m ≤ 64 + g ∧ 64 + g < 8 * m + 8 ∧ _ => absurd h.2.1 (by omega))] at r1
          rw [if_neg (show ¬ 72 + g = 72 + m by omega), if_neg (show ¬ 72 + g = 64 + m by omega), a4, if_neg (fun h : 8 * m ≤ 72 + g ∧ 72 + g < 8 * m + 8 ∧ _ => absurd h.2.1 (by omega))] at r2
          have e1 : (m + 1 ≤ g ∧ tb (S.1 6 &&& S.1 56) (zI g) = true) ↔ (m ≤ g ∧ tb (S.1 6 &&& S.1 56) (zI g) = true) := by
            constructor
            · intro h; exact ⟨by omega, h.2⟩
            · intro h; exact ⟨by omega, h.2⟩
          simp only [e1] at r1 r2
          exact ⟨r1, r2⟩
