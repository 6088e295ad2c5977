theorem le8 {m : Nat} (h : 8 ≤ m) (h2 : m < 100000) : (8 : Int32) ≤ zI m := by
  have e : (8 : Int32) = zI 8 := rfl
  rw [e, zI_le (by omega) (by omega) (by omega) (by omega)]; omega
theorem nle8 {m : Nat} (h : m < 8) : ¬ (8 : Int32) ≤ zI m := by
  have e : (8 : Int32) = zI 8 := rfl
  rw [e, zI_le (by omega) (by omega) (by omega) (by omega)]; omega
theorem le16 {m : Nat} (h : 16 ≤ m) (h2 : m < 100000) : (16 : Int32) ≤ zI m := by
  have e : (16 : Int32) = zI 16 := rfl
  rw [e, zI_le (by omega) (by omega) (by omega) (by omega)]; omega
theorem nle16 {m : Nat} (h : m < 16) : ¬ (16 : Int32) ≤ zI m := by
  have e : (16 : Int32) = zI 16 := rfl
  rw [e, zI_le (by omega) (by omega) (by omega) (by omega)]; omega
theorem le82 {m : Nat} (h : 82 ≤ m) (h2 : m < 100000) : (82 : Int32) ≤ zI m := by
  have e : (82 : Int32) = zI 82 := rfl
  rw [e, zI_le (by omega) (by omega) (by omega) (by omega)]; omega
theorem nle82 {m : Nat} (h : m < 82) : ¬ (82 : Int32) ≤ zI m := by
  have e : (82 : Int32) = zI 82 := rfl
  rw [e, zI_le (by omega) (by omega) (by omega) (by omega)]; omega
theorem le64 {m : Nat} (h : 64 ≤ m) (h2 : m < 100000) : (64 : Int32) ≤ zI m := by
  have e : (64 : Int32) = zI 64 := rfl
  rw [e, zI_le (by omega) (by omega) (by omega) (by omega)]; omega
theorem nle64 {m : Nat} (h : m < 64) : ¬ (64 : Int32) ≤ zI m := by
  have e : (64 : Int32) = zI 64 := rfl
  rw [e, zI_le (by omega) (by omega) (by omega) (by omega)]; omega
theorem le65 {m : Nat} (h : 65 ≤ m) (h2 : m < 100000) : (65 : Int32) ≤ zI m := by
  have e : (65 : Int32) = zI 65 := rfl
  rw [e, zI_le (by omega) (by omega) (by omega) (by omega)]; omega
theorem nle65 {m : Nat} (h : m < 65) : ¬ (65 : Int32) ≤ zI m := by
  have e : (65 : Int32) = zI 65 := rfl
  rw [e, zI_le (by omega) (by omega) (by omega) (by omega)]; omega
theorem le256 {m : Nat} (h : 256 ≤ m) (h2 : m < 100000) : (256 : Int32) ≤ zI m := by
  have e : (256 : Int32) = zI 256 := rfl
  rw [e, zI_le (by omega) (by omega) (by omega) (by omega)]; omega
theorem nle256 {m : Nat} (h : m < 256) : ¬ (256 : Int32) ≤ zI m := by
  have e : (256 : Int32) = zI 256 := rfl
  rw [e, zI_le (by omega) (by omega) (by omega) (by omega)]; omega
theorem le260 {m : Nat} (h : 260 ≤ m) (h2 : m < 100000) : (260 : Int32) ≤ zI m := by
  have e : (260 : Int32) = zI 260 := rfl
  rw [e, zI_le (by omega) (by omega) (by omega) (by omega)]; omega
theorem nle260 {m : Nat} (h : m < 260) : ¬ (260 : Int32) ≤ zI m := by
  have e : (260 : Int32) = zI 260 := rfl
  rw [e, zI_le (by omega) (by omega) (by omega) (by omega)]; omega
theorem le384 {m : Nat} (h : 384 ≤ m) (h2 : m < 100000) : (384 : Int32) ≤ zI m := by
  have e : (384 : Int32) = zI 384 := rfl
  rw [e, zI_le (by omega) (by omega) (by omega) (by omega)]; omega
theorem nle384 {m : Nat} (h : m < 384) : ¬ (384 : Int32) ≤ zI m := by
  have e : (384 : Int32) = zI 384 := rfl
  rw [e, zI_le (by omega) (by omega) (by omega) (by omega)]; omega
theorem zs1 (m : Nat) : zI m + 1 = zI ((m + 1 : Nat) : Int) := by
  have e : (1 : Int32) = zI 1 := rfl
  rw [e, zI_add]; rfl
theorem z0 : (0 : Int32) = zI ((0 : Nat) : Int) := rfl
theorem ix8 {p m : Nat} : (zI p * 8) + zI m = zI ((8 * p + m : Nat) : Int) := by
  have e : (8 : Int32) = zI 8 := rfl
  rw [e, zI_mul, zI_add]; congr 1; omega
theorem ix8m {p m : Nat} : (0 + (8 * zI p)) + zI m = zI ((8 * p + m : Nat) : Int) := by
  have e : (8 : Int32) = zI 8 := rfl
  have e0 : (0 : Int32) = zI 0 := rfl
  rw [e, e0, zI_mul, zI_add, zI_add]; congr 1; omega
theorem rdN {β : Type} {f : Nat → Int32} {N m : Nat} {k : Int32 → Option β} (h : m < N) (h2 : m < 100000) : rd' f N (zI m) k = k (f m) := by
  rw [rd_z (by omega) (by omega) (by omega)]; rfl
theorem ckN {β : Type} {N m : Nat} {k : Option β} (h : m < N) (h2 : m < 100000) : ck' N (zI m) k = k := ck_z (by omega) (by omega) (by omega)
theorem clN {m : Nat} (h : m < 100000) : (zI m).toNatClampNeg = m := by rw [zI_clamp (by omega) (by omega)]; rfl
theorem i10 {α : Type} {a b : α} : (if (1 : Int32) = 0 then a else b) = b := if_neg (by decide)
theorem i00 {α : Type} {a b : α} : (if (0 : Int32) = 0 then a else b) = a := if_pos rfl
theorem fuS : fu = 999 + 1 := rfl
/-- loops over the spokes of a told web -/
theorem slack_lp {S M : Gr} {p : Nat} (hp : p < 8) (ht : tb (S.1 0) (zI p) = true) (he : ∀ s : Nat, s < 8 → S.2 4 (8 * p + s) = M.2 0 (8 * p + s)) : ∀ (d m n n' : Nat) (acc : Int32), m + d = 8 → d < n → d < n' → ∃ r, f_X7_slackBits_n4 S (zI p) n acc (zI m) = some r ∧ f_X12_slackOf_n4 M (zI p) n' acc (zI m) = some r := by
  intro d
  induction d with
  | zero =>
    intro m n n' acc hm hn hn'
    obtain ⟨n, rfl⟩ : ∃ k, n = k + 1 := ⟨n - 1, by omega⟩
    obtain ⟨n', rfl⟩ : ∃ k, n' = k + 1 := ⟨n' - 1, by omega⟩
    refine ⟨acc, ?_, ?_⟩
    · rw [f_X7_slackBits_n4, if_pos (le8 (by omega) (by omega))]
    · rw [f_X12_slackOf_n4, if_pos (le8 (by omega) (by omega))]
  | succ d ih =>
    intro m n n' acc hm hn hn'
    obtain ⟨n, rfl⟩ : ∃ k, n = k + 1 := ⟨n - 1, by omega⟩
    obtain ⟨n', rfl⟩ : ∃ k, n' = k + 1 := ⟨n' - 1, by omega⟩
    rw [f_X7_slackBits_n4, if_neg (nle8 (by omega)), hasWeb_e, ht, bd_s, b2_t, if_neg (by decide), ix8, rdN (by omega) (by omega)]
    rw [f_X12_slackOf_n4, if_neg (nle8 (by omega)), ix8m, rdN (by omega) (by omega), he m (by omega)]
    by_cases h0 : M.2 0 (8 * p + m) = 0
    · rw [if_pos h0, if_pos h0, lt_e, lt_e, lt_e, lt_e, zs1]
      exact ih (m + 1) n n' _ (by omega) (by omega) (by omega)
    · rw [if_neg h0, if_neg h0, lt_e, lt_e, zs1]
      exact ih (m + 1) n n' _ (by omega) (by omega) (by omega)
theorem slack_b {S M : Gr} {p : Nat} (hp : p < 8) (ht : tb (S.1 0) (zI p) = true) (he : ∀ s : Nat, s < 8 → S.2 4 (8 * p + s) = M.2 0 (8 * p + s)) : ∃ r, f_X7_slackBits S (zI p) = some r ∧ f_X12_slackOf M (zI p) = some r :=
  slack_lp hp ht he 8 0 fu fu 0 (by omega) (by decide) (by decide)
theorem tens_lp {S M : Gr} {p : Nat} (hp : p < 8) (ht : tb (S.1 0) (zI p) = true) (he : ∀ s : Nat, s < 8 → S.2 4 (8 * p + s) = M.2 0 (8 * p + s)) : ∀ (d m n n' : Nat) (acc : Int32), m + d = 8 → d < n → d < n' → ∃ r, f_X7_tensionsOf_n4 S (zI p) n acc (zI m) = some r ∧ f_X12_tensionsOf_n4 M (zI p) n' acc (zI m) = some r := by
  intro d
  induction d with
  | zero =>
    intro m n n' acc hm hn hn'
    obtain ⟨n, rfl⟩ : ∃ k, n = k + 1 := ⟨n - 1, by omega⟩
    obtain ⟨n', rfl⟩ : ∃ k, n' = k + 1 := ⟨n' - 1, by omega⟩
    refine ⟨acc, ?_, ?_⟩
    · rw [f_X7_tensionsOf_n4, if_pos (le8 (by omega) (by omega))]
    · rw [f_X12_tensionsOf_n4, if_pos (le8 (by omega) (by omega))]
  | succ d ih =>
    intro m n n' acc hm hn hn'
    obtain ⟨n, rfl⟩ : ∃ k, n = k + 1 := ⟨n - 1, by omega⟩
    obtain ⟨n', rfl⟩ : ∃ k, n' = k + 1 := ⟨n' - 1, by omega⟩
    rw [f_X7_tensionsOf_n4, if_neg (nle8 (by omega)), hasWeb_e, ht, bd_s, b2_t, if_neg (by decide), ix8, rdN (by omega) (by omega), lt_e, lt_e, zs1]
    rw [f_X12_tensionsOf_n4, if_neg (nle8 (by omega)), ix8m, rdN (by omega) (by omega), he m (by omega), lt_e, lt_e, zs1]
    exact ih (m + 1) n n' _ (by omega) (by omega) (by omega)
theorem tens_b {S M : Gr} {p : Nat} (hp : p < 8) (ht : tb (S.1 0) (zI p) = true) (he : ∀ s : Nat, s < 8 → S.2 4 (8 * p + s) = M.2 0 (8 * p + s)) : ∃ r, f_X7_tensionsOf S (zI p) = some r ∧ f_X12_tensionsOf M (zI p) = some r :=
  tens_lp hp ht he 8 0 fu fu 0 (by omega) (by decide) (by decide)
theorem tens_f {S : Gr} {x : Int32} (ht : tb (S.1 0) x = false) : f_X7_tensionsOf S x = some 0 := by
  unfold f_X7_tensionsOf
  rw [fuS, f_X7_tensionsOf_n4, if_neg (by decide), hasWeb_e, ht, bd_s, b2_f, if_pos rfl]
theorem bd_some {α : Type} (x : Option α) : (x.bind fun u => some u) = x := by cases x <;> rfl
/-- of a told web the tensions are the reference's -/
theorem dyn_te {w f h d : Int32} {te fx fy co : Nat → Int32} {w' f' : Int32} {now : Nat → Int32} (H : seaDyn w f h d te fx fy co w' f' now) {p : Nat} (hp : p < 8) (ht : tw w' p) : ∀ s : Nat, s < 8 → te (8 * p + s) = now (8 * p + s) := fun s hs => by
  obtain ⟨t, -, -, h1, h2⟩ := H.2.2.2.2.2.2.1 p hp ht s hs
  rw [h1, h2]
theorem webIs_ok : hp_webIs Inv := by
  intro C M hI x y
  obtain ⟨h1, h2, h3, h4, h5⟩ := id hI
  unfold f_X11_webIs f_X12_webIs
  rw [hasWeb_e, isWeb_e, bd_s, bd_s, h2.1]
  cases ht : tb (M.1 5) x with
  | false => rw [b2_f, if_pos rfl, if_pos rfl]; exact ⟨_, _, rfl, rfl, rfl, hI⟩
  | true =>
    obtain ⟨p, hp, rfl, htw⟩ := tb_t ht
    have he := dyn_te h2 hp htw
    have ht' : tb ((C 13).1 0) (zI p) = true := by rw [h2.1]; exact ht
    rw [b2_t, i10, i10, within_e, in_e, bd_s, bd_s]
    by_cases hy : (0 : Int32) ≤ y ∧ y ≤ 7
    · rw [decide_eq_true hy, b2_t, i10, i10]
      obtain ⟨a, c1, c2, rfl⟩ := zI_of y
      have e0 : (0 : Int32) = zI 0 := rfl
      have e7 : (7 : Int32) = zI 7 := rfl
      rw [e0, e7, zI_le (by omega) (by omega) c1 c2, zI_le c1 c2 (by omega) (by omega)] at hy
      obtain ⟨j, rfl⟩ : ∃ j : Nat, a = j := ⟨a.toNat, by omega⟩
      rw [ix8, ix8m, rdN (by omega) (by omega), rdN (by omega) (by omega)]
      exact ⟨_, _, rfl, rfl, he j (by omega), hI⟩
    · rw [decide_eq_false hy, b2_f, i00, i00]
      by_cases hy1 : y = 10
      · rw [if_pos hy1, if_pos hy1, rdN hp (by omega), rdN hp (by omega), rdN hp (by omega)]
        obtain ⟨a, b, -, -, -, -, q1, q2, q3⟩ := h3.1 p hp htw
        refine ⟨_, _, rfl, rfl, ?_, hI⟩
        show 24 * (C 13).2 3 p + (C 13).2 2 p = M.2 3 p
        rw [q1, q2, q3]
        have e24 : (24 : Int32) = zI 24 := rfl
        rw [e24, zI_mul, zI_add]
      · rw [if_neg hy1, if_neg hy1]
        by_cases hy2 : y = 11
        · rw [if_pos hy2, if_pos hy2, bd_some, bd_some]
          obtain ⟨r, q1, q2⟩ := slack_b hp ht' he
          exact ⟨r, r, q1, q2, rfl, hI⟩
        · rw [if_neg hy2, if_neg hy2]; exact ⟨_, _, rfl, rfl, rfl, hI⟩
theorem allT_lp {S M : Gr} (hw : S.1 0 = M.1 5) (he : ∀ p : Nat, p < 8 → tw (M.1 5) p → ∀ s : Nat, s < 8 → S.2 4 (8 * p + s) = M.2 0 (8 * p + s)) : ∀ (d m n n' : Nat) (acc : Int32), m + d = 8 → d < n → d < n' → ∃ r, f_X7_allTensions_n4 S n acc (zI m) = some r ∧ f_X12_tensionsOfAll_n4 M n' acc (zI m) = some r := by
  intro d
  induction d with
  | zero =>
    intro m n n' acc hm hn hn'
    obtain ⟨n, rfl⟩ : ∃ k, n = k + 1 := ⟨n - 1, by omega⟩
    obtain ⟨n', rfl⟩ : ∃ k, n' = k + 1 := ⟨n' - 1, by omega⟩
    refine ⟨acc, ?_, ?_⟩
    · rw [f_X7_allTensions_n4, if_pos (le8 (by omega) (by omega))]
    · rw [f_X12_tensionsOfAll_n4, if_pos (le8 (by omega) (by omega))]
  | succ d ih =>
    intro m n n' acc hm hn hn'
    obtain ⟨n, rfl⟩ : ∃ k, n = k + 1 := ⟨n - 1, by omega⟩
    obtain ⟨n', rfl⟩ : ∃ k, n' = k + 1 := ⟨n' - 1, by omega⟩
    rw [f_X7_allTensions_n4, if_neg (nle8 (by omega)), f_X12_tensionsOfAll_n4, if_neg (nle8 (by omega)), isWeb_e, bd_s]
    cases ht : tb (M.1 5) (zI m) with
    | false =>
      rw [tens_f (by rw [hw]; exact ht), bd_s, lt_e, lt_e, zs1, b2_f, if_pos rfl, lt_e, show acc + 0 = acc from Int32.add_zero acc]
      exact ih (m + 1) n n' acc (by omega) (by omega) (by omega)
    | true =>
      obtain ⟨r, q1, q2⟩ := tens_b (S := S) (M := M) (p := m) (by omega) (by rw [hw]; exact ht) (he m (by omega) ((tb_z (by omega)).mp ht))
      rw [q1, bd_s, lt_e, lt_e, zs1, b2_t, if_neg (by decide), q2, bd_s, lt_e, lt_e]
      exact ih (m + 1) n n' _ (by omega) (by omega) (by omega)
theorem count_ok : hp_count Inv := by
  intro C M hI x
  obtain ⟨h1, h2, h3, h4, h5⟩ := id hI
  obtain ⟨a1, a2, a3, a4, ⟨hh, b1, b2, b3, b4⟩, ⟨dd, c1, c2, c3, c4⟩, a7, a8⟩ := id h2
  obtain ⟨⟨k, t1, t2, t3⟩, t4⟩ := id h1
  obtain ⟨n, m, l1, l2, l3, l4⟩ := id h5
  unfold f_X11_count f_X12_count
  by_cases x0 : x = 0
  · rw [if_pos x0, if_pos x0]; exact ⟨_, _, rfl, rfl, b3.trans b4.symm, hI⟩
  rw [if_neg x0, if_neg x0]
  by_cases x0 : x = 1
  · rw [if_pos x0, if_pos x0]; exact ⟨_, _, rfl, rfl, a1, hI⟩
  rw [if_neg x0, if_neg x0]
  by_cases x0 : x = 2
  · rw [if_pos x0, if_pos x0]; exact ⟨_, _, rfl, rfl, a2, hI⟩
  rw [if_neg x0, if_neg x0]
  by_cases x0 : x = 3
  · rw [if_pos x0, if_pos x0]; exact ⟨_, _, rfl, rfl, l2.trans l3.symm, hI⟩
  rw [if_neg x0, if_neg x0]
  by_cases x0 : x = 4
  · rw [if_pos x0, if_pos x0]; exact ⟨_, _, rfl, rfl, t2.trans t3.symm, hI⟩
  rw [if_neg x0, if_neg x0]
  by_cases x0 : x = 5
  · rw [if_pos x0, if_pos x0]; exact ⟨_, _, rfl, rfl, c3.trans c4.symm, hI⟩
  rw [if_neg x0, if_neg x0]
  by_cases x0 : x = 6
  · rw [if_pos x0, if_pos x0, bd_some, bd_some]
    obtain ⟨r, q1, q2⟩ := allT_lp (S := C 13) (M := M) a1 (fun p hp ht => dyn_te h2 hp ht) 8 0 fu fu 0 (by omega) (by decide) (by decide)
    exact ⟨r, r, q1, q2, rfl, hI⟩
  rw [if_neg x0, if_neg x0]
  exact ⟨_, _, rfl, rfl, rfl, hI⟩
theorem hangs_lp {S M : Gr} {x : Nat} (hx : x ≤ 30) : ∀ (d k n : Nat) (a b : Int64), k + d = 2 * x → d < n → ∃ r, f_X11_hangs_n24 S (zI x) n a b (zI k) = some r ∧ f_X12_hangs_n24 M (zI x) n a b (zI k) = some r := by
  have e2 : (2 : Int32) = zI 2 := rfl
  intro d
  induction d with
  | zero =>
    intro k n a b hk hn
    obtain ⟨n, rfl⟩ : ∃ k, n = k + 1 := ⟨n - 1, by omega⟩
    have hc : (2 : Int32) * zI x ≤ zI k := by rw [e2, zI_mul, zI_le (by omega) (by omega) (by omega) (by omega)]; omega
    refine ⟨a - 2, ?_, ?_⟩
    · rw [f_X11_hangs_n24, if_pos hc]
    · rw [f_X12_hangs_n24, if_pos hc]
  | succ d ih =>
    intro k n a b hk hn
    obtain ⟨n, rfl⟩ : ∃ k, n = k + 1 := ⟨n - 1, by omega⟩
    have hc : ¬ (2 : Int32) * zI x ≤ zI k := by rw [e2, zI_mul, zI_le (by omega) (by omega) (by omega) (by omega)]; omega
    rw [f_X11_hangs_n24, if_neg hc, f_X12_hangs_n24, if_neg hc, lt_e, lt_e, lt_e, lt_e, zs1]
    exact ih (k + 1) n _ _ (by omega) (by omega)
theorem hangs_ok : hp_hangs Inv := by
  intro C M hI x
  unfold f_X11_hangs f_X12_hangs
  rw [within_e, in_e, bd_s, bd_s]
  by_cases hx : (3 : Int32) ≤ x ∧ x ≤ 30
  · rw [decide_eq_true hx, b2_t, if_neg (by decide), if_neg (by decide)]
    obtain ⟨a, c1, c2, rfl⟩ := zI_of x
    have e0 : (3 : Int32) = zI 3 := rfl
    have e7 : (30 : Int32) = zI 30 := rfl
    rw [e0, e7, zI_le (by omega) (by omega) c1 c2, zI_le c1 c2 (by omega) (by omega)] at hx
    obtain ⟨j, rfl⟩ : ∃ j : Nat, a = j := ⟨a.toNat, by omega⟩
    obtain ⟨r, q1, q2⟩ := hangs_lp (S := C 0) (M := M) (x := j) (by omega) (2 * j) 0 fu 2 1 (by omega) (by show 2 * j < 1000; omega)
    exact ⟨r, r, q1, q2, rfl, hI⟩
  · rw [decide_eq_false hx, b2_f, if_pos rfl, if_pos rfl]; exact ⟨_, _, rfl, rfl, rfl, hI⟩

