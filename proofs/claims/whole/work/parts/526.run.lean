/-! a law's piece reckoned: the class's heap against the reference's stack -/
theorem sI_s (S : Gr) (k : Nat) (x : Int32) : (sI S k x).1 k = x := if_pos rfl
theorem sI_o (S : Gr) (k j : Nat) (x : Int32) (h : j ≠ k) : (sI S k x).1 j = S.1 j := if_neg h
theorem dz_n {β : Type} {y : Int32} {k : Option β} (h : ¬ y = 0) : dz' y k = k := if_neg h
def lF (L L' : Gr) : Prop := (∀ j, j ≠ 9 → j ≠ 10 → j ≠ 11 → L'.1 j = L.1 j) ∧ ∀ j, j ≠ 8 → L'.2 j = L.2 j
theorem lF.rf (L : Gr) : lF L L := ⟨fun _ _ _ _ => rfl, fun _ _ => rfl⟩
theorem lF.tr {A B C : Gr} (h : lF A B) (k : lF B C) : lF A C := ⟨fun j h1 h2 h3 => (k.1 j h1 h2 h3).trans (h.1 j h1 h2 h3), fun j hj => (k.2 j hj).trans (h.2 j hj)⟩
def sF (S S' : Gr) : Prop := S'.1 = S.1 ∧ ∀ j, j ≠ 29 → S'.2 j = S.2 j
theorem sF.rf (S : Gr) : sF S S := ⟨rfl, fun _ _ => rfl⟩
theorem sF.tr {A B C : Gr} (h : sF A B) (k : sF B C) : sF A C := ⟨k.1.trans h.1, fun j hj => (k.2 j hj).trans (h.2 j hj)⟩
theorem rk_b {L : Gr} {t o : Nat} (ht : t ≤ 29) (hL : L.1 9 = zI ((t + 2 : Nat) : Int)) (ho : 2 ≤ o) (ho2 : o ≤ 6) : (5 ≤ o ∧ L.2 8 (t + 1) = 0 ∧ f_X3_reckon L (zI (sgOf o)) = some (sI (sI L 9 (zI ((t + 1 : Nat) : Int))) 11 1)) ∨ (¬ (5 ≤ o ∧ L.2 8 (t + 1) = 0) ∧ ∃ z, f_X12_reckon (zI o) (L.2 8 t) (L.2 8 (t + 1)) = some z ∧ f_X3_reckon L (zI (sgOf o)) = some (sA (sI L 9 (zI ((t + 1 : Nat) : Int))) 8 t z)) := by
  have e2 : (2 : Int32) = zI ((2 : Nat) : Int) := rfl
  have e32 : (32 : Int32) = zI ((32 : Nat) : Int) := rfl
  have c1 : ¬ L.1 9 < 2 := by rw [hL, e2, ltN (by omega) (by omega)]; omega
  have c2 : L.1 9 ≤ 32 := by rw [hL, e32, leN (by omega) (by omega)]; omega
  have p1 : zI ((t + 2 : Nat) : Int) - 1 = zI ((t + 1 : Nat) : Int) := zp1 (t + 1)
  have key : ∀ sg : Int32, f_X3_reckon L sg = (if sg = 43 then some (sA (sI L 9 (zI ((t + 1 : Nat) : Int))) 8 t (L.2 8 t + L.2 8 (t + 1))) else if sg = 45 then some (sA (sI L 9 (zI ((t + 1 : Nat) : Int))) 8 t (L.2 8 t - L.2 8 (t + 1))) else if sg = 42 then some (sA (sI L 9 (zI ((t + 1 : Nat) : Int))) 8 t (L.2 8 t * L.2 8 (t + 1))) else if L.2 8 (t + 1) = 0 then some (sI (sI L 9 (zI ((t + 1 : Nat) : Int))) 11 1) else if sg = 47 then some (sA (sI L 9 (zI ((t + 1 : Nat) : Int))) 8 t (L.2 8 t / L.2 8 (t + 1))) else some (sA (sI L 9 (zI ((t + 1 : Nat) : Int))) 8 t (L.2 8 t - L.2 8 t / L.2 8 (t + 1) * L.2 8 (t + 1)))) := by
    intro sg
    unfold f_X3_reckon
    rw [if_neg c1, if_pos c2, hL, p1, lt_e, sI_s, zp1, sI_2, rdN (by omega) (by omega), rdN (by omega) (by omega)]
    simp only [ckN (N := 32) (m := t) (by omega) (by omega), clN (m := t) (by omega), lt_e]
    by_cases h0 : L.2 8 (t + 1) = 0
    · rw [if_pos h0, if_pos h0]
    · rw [if_neg h0, if_neg h0, dz_n h0, dz_n h0]
  rw [key]
  have hoo : o = 2 ∨ o = 3 ∨ o = 4 ∨ o = 5 ∨ o = 6 := by omega
  rcases hoo with rfl | rfl | rfl | rfl | rfl
  · have es : zI (sgOf 2) = 43 := rfl
    have eo : zI ((2 : Nat) : Int) = 2 := rfl
    right; refine ⟨by omega, L.2 8 t + L.2 8 (t + 1), ?_, ?_⟩
    · unfold f_X12_reckon; rw [eo, if_pos rfl]
    · rw [es, if_pos rfl]
  · have es : zI (sgOf 3) = 45 := rfl
    have eo : zI ((3 : Nat) : Int) = 3 := rfl
    right; refine ⟨by omega, L.2 8 t - L.2 8 (t + 1), ?_, ?_⟩
    · unfold f_X12_reckon; rw [eo, if_neg (by decide), if_pos rfl]
    · rw [es, if_neg (by decide), if_pos rfl]
  · have es : zI (sgOf 4) = 42 := rfl
    have eo : zI ((4 : Nat) : Int) = 4 := rfl
    right; refine ⟨by omega, L.2 8 t * L.2 8 (t + 1), ?_, ?_⟩
    · unfold f_X12_reckon; rw [eo, if_neg (by decide), if_neg (by decide), if_pos rfl]
    · rw [es, if_neg (by decide), if_neg (by decide), if_pos rfl]
  · have es : zI (sgOf 5) = 47 := rfl
    have eo : zI ((5 : Nat) : Int) = 5 := rfl
    by_cases h0 : L.2 8 (t + 1) = 0
    · left; refine ⟨by omega, h0, ?_⟩
      rw [es, if_neg (by decide), if_neg (by decide), if_neg (by decide), if_pos h0]
    · right; refine ⟨fun h => h0 h.2, L.2 8 t / L.2 8 (t + 1), ?_, ?_⟩
      · unfold f_X12_reckon; rw [eo, if_neg (by decide), if_neg (by decide), if_neg (by decide), if_pos rfl, dz_n h0, lt_e]
      · rw [es, if_neg (by decide), if_neg (by decide), if_neg (by decide), if_neg h0, if_pos rfl]
  · have es : zI (sgOf 6) = 37 := rfl
    have eo : zI ((6 : Nat) : Int) = 6 := rfl
    by_cases h0 : L.2 8 (t + 1) = 0
    · left; refine ⟨by omega, h0, ?_⟩
      rw [es, if_neg (by decide), if_neg (by decide), if_neg (by decide), if_pos h0]
    · right; refine ⟨fun h => h0 h.2, L.2 8 t - L.2 8 t / L.2 8 (t + 1) * L.2 8 (t + 1), ?_, ?_⟩
      · unfold f_X12_reckon; rw [eo, if_neg (by decide), if_neg (by decide), if_neg (by decide), if_neg (by decide), if_pos rfl, dz_n h0, lt_e]
      · rw [es, if_neg (by decide), if_neg (by decide), if_neg (by decide), if_neg h0, if_neg (by decide)]
theorem cm_b {L : Gr} {o : Nat} (hL : L.1 9 = 2) (ho : 7 ≤ o) (ho2 : o ≤ 9) : ∃ h : Bool, f_X3_compare L (zI (sgOf o)) = some (sI (sI L 9 0) 10 (b2 h)) ∧ f_X12_reckon (zI o) (L.2 8 0) (L.2 8 1) = some (b2 h) := by
  have rd0 : ∀ {β : Type} {N : Nat} {g : Nat → Int32} {q : Int32 → Option β}, 0 < N → rd' g N 0 q = q (g 0) := fun hN => rdN (m := 0) hN (by omega)
  have rd1 : ∀ {β : Type} {N : Nat} {g : Nat → Int32} {q : Int32 → Option β}, 1 < N → rd' g N 1 q = q (g 1) := fun hN => rdN (m := 1) hN (by omega)
  have key : ∀ sg : Int32, f_X3_compare L sg = (if sg = 61 then (if L.2 8 0 = L.2 8 1 then some (sI (sI L 9 0) 10 1) else some (sI (sI L 9 0) 10 0)) else if sg = 60 then (if L.2 8 1 ≤ L.2 8 0 then some (sI (sI L 9 0) 10 0) else some (sI (sI L 9 0) 10 1)) else (if L.2 8 0 ≤ L.2 8 1 then some (sI (sI L 9 0) 10 0) else some (sI (sI L 9 0) 10 1))) := by
    intro sg
    have d1 : (2 : Int32) - 2 = 0 := rfl
    have d2 : (0 : Int32) + 1 = 1 := rfl
    unfold f_X3_compare
    rw [hL, if_neg (by decide), if_pos (by decide), d1, lt_e, sI_s, d2, sI_2, rd0 (by omega), rd1 (by omega)]
    simp only [lt_e]
  have hoo : o = 7 ∨ o = 8 ∨ o = 9 := by omega
  rcases hoo with rfl | rfl | rfl
  · have es : zI (sgOf 7) = 60 := rfl
    have eo : zI ((7 : Nat) : Int) = 7 := rfl
    have hm : f_X12_reckon 7 (L.2 8 0) (L.2 8 1) = if L.2 8 1 ≤ L.2 8 0 then some 0 else some 1 := by
      unfold f_X12_reckon
      rw [if_neg (by decide), if_neg (by decide), if_neg (by decide), if_neg (by decide), if_neg (by decide), if_pos rfl]
    rw [key, es, if_neg (by decide), if_pos rfl, eo, hm]
    by_cases h : L.2 8 1 ≤ L.2 8 0
    · rw [if_pos h, if_pos h]; exact ⟨false, rfl, rfl⟩
    · rw [if_neg h, if_neg h]; exact ⟨true, rfl, rfl⟩
  · have es : zI (sgOf 8) = 62 := rfl
    have eo : zI ((8 : Nat) : Int) = 8 := rfl
    have hm : f_X12_reckon 8 (L.2 8 0) (L.2 8 1) = if L.2 8 0 ≤ L.2 8 1 then some 0 else some 1 := by
      unfold f_X12_reckon
      rw [if_neg (by decide), if_neg (by decide), if_neg (by decide), if_neg (by decide), if_neg (by decide), if_neg (by decide), if_pos rfl]
    rw [key, es, if_neg (by decide), if_neg (by decide), eo, hm]
    by_cases h : L.2 8 0 ≤ L.2 8 1
    · rw [if_pos h, if_pos h]; exact ⟨false, rfl, rfl⟩
    · rw [if_neg h, if_neg h]; exact ⟨true, rfl, rfl⟩
  · have es : zI (sgOf 9) = 61 := rfl
    have eo : zI ((9 : Nat) : Int) = 9 := rfl
    have hm : f_X12_reckon 9 (L.2 8 0) (L.2 8 1) = if L.2 8 0 = L.2 8 1 then some 1 else some 0 := by
      unfold f_X12_reckon
      rw [if_neg (by decide), if_neg (by decide), if_neg (by decide), if_neg (by decide), if_neg (by decide), if_neg (by decide), if_neg (by decide)]
    rw [key, es, if_pos rfl, eo, hm]
    by_cases h : L.2 8 0 = L.2 8 1
    · rw [if_pos h, if_pos h]; exact ⟨true, rfl, rfl⟩
    · rw [if_neg h, if_neg h]; exact ⟨false, rfl, rfl⟩
theorem cd_div {o : Nat} {v : Int} (ho : o ≤ 12) (h1 : 0 ≤ v) (h2 : v ≤ 99999) : zI (1048576 * o + v) / 1048576 = zI o := by
  obtain ⟨n, hn⟩ : ∃ n : Nat, 1048576 * (o : Int) + v = n := ⟨(1048576 * (o : Int) + v).toNat, by omega⟩
  have e : (1048576 : Int32) = nI 1048576 := rfl
  rw [hn, ← zI_nI, e, pk_div (by omega) (by omega) (by omega), zI_nI]
  congr 1; omega
theorem cd_rem {o : Nat} {v : Int} (ho : o ≤ 12) (h1 : 0 ≤ v) (h2 : v ≤ 99999) : zI (1048576 * o + v) - zI (1048576 * o + v) / 1048576 * 1048576 = zI v := by
  have e : (1048576 : Int32) = zI 1048576 := rfl
  rw [cd_div ho h1 h2, e, zI_mul, zI_sub]; congr 1; omega
theorem cd_inj {o o' : Nat} {v v' : Int} (ho : o ≤ 12) (h1 : 0 ≤ v) (h2 : v ≤ 99999) (ho' : o' ≤ 12) (h1' : 0 ≤ v') (h2' : v' ≤ 99999) (h : zI (1048576 * o + v) = zI (1048576 * o' + v')) : o = o' ∧ v = v' := by
  rw [zI_eq (by omega) (by omega) (by omega) (by omega)] at h; omega
theorem hup_b {L : Gr} {t : Nat} (ht : t < 31) (hL : L.1 9 = zI t) (x : Int32) : f_X3_heapUp L x = some (sI (sA L 8 t x) 9 (zI ((t + 1 : Nat) : Int))) := by
  have e32 : (32 : Int32) = zI ((32 : Nat) : Int) := rfl
  have c1 : ¬ (32 : Int32) ≤ L.1 9 := by rw [hL, e32, leN (by omega) (by omega)]; omega
  unfold f_X3_heapUp
  rw [if_neg c1, hL, ckN (by omega) (by omega), clN (by omega), lt_e, sA_1, hL, lt_e, zs1]
/-- how class and reference stand before a code where t operands wait -/
def rnR (t : Nat) (L S : Gr) (x3 : Int32) : Prop := L.1 11 = 0 ∧ ((t ≤ 31 ∧ L.1 9 = zI t ∧ x3 = zI t ∧ ∀ j, j < t → L.2 8 j = S.2 29 j) ∨ (t = 100 ∧ L.1 9 = 0 ∧ x3 = 1 ∧ ∃ h : Bool, L.1 10 = b2 h ∧ S.2 29 0 = b2 h))
def ocR (t : Nat) (L : Gr) (r : Int32) : Prop := (L.1 11 = 1 ∧ r = 0) ∨ (L.1 11 = 0 ∧ ((t ≤ 31 ∧ L.1 9 = zI t ∧ (1 ≤ t → L.2 8 0 = r)) ∨ (t = 100 ∧ ∃ h : Bool, L.1 10 = b2 h ∧ r = b2 h)))
def lsR (L S : Gr) (m : Nat) (sg vl codes : Nat → Int32) : Prop := L.1 4 = zI m ∧ L.2 5 = sg ∧ L.2 6 = vl ∧ S.2 24 = codes ∧ ∀ j, j < 10 → L.2 7 j = S.2 30 j
theorem lsR.mv {L S L' S' : Gr} {m : Nat} {sg vl codes : Nat → Int32} (h : lsR L S m sg vl codes) (k : lF L L') (l : sF S S') : lsR L' S' m sg vl codes := by
  unfold lsR
  rw [k.1 4 (by omega) (by omega) (by omega), k.2 5 (by omega), k.2 6 (by omega), k.2 7 (by omega), l.2 24 (by omega), l.2 30 (by omega)]; exact h
