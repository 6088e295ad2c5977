/-! the first rule that holds, and its worth -/
def lwR (L N : Gr) : Prop := lawOK (L.1 0) (L.2 1) (L.2 2) (L.2 3) (L.1 4) (L.2 5) (L.2 6) (N.1 17) (N.2 24) (N.2 25) (N.2 26) (N.2 27) (N.2 28)
def lG (L L' : Gr) : Prop := (∀ j, j ≠ 9 → j ≠ 10 → j ≠ 11 → L'.1 j = L.1 j) ∧ ∀ j, j ≠ 7 → j ≠ 8 → L'.2 j = L.2 j
def hF (N N' : Gr) : Prop := (∀ j, j ≠ 39 → j ≠ 40 → N'.1 j = N.1 j) ∧ ∀ j, j ≠ 0 → j ≠ 29 → j ≠ 30 → N'.2 j = N.2 j
theorem lG.rf (L : Gr) : lG L L := ⟨fun _ _ _ _ => rfl, fun _ _ _ => rfl⟩
theorem lG.tr {A B C : Gr} (h : lG A B) (k : lG B C) : lG A C := ⟨fun j h1 h2 h3 => (k.1 j h1 h2 h3).trans (h.1 j h1 h2 h3), fun j h1 h2 => (k.2 j h1 h2).trans (h.2 j h1 h2)⟩
theorem lG.of {A B : Gr} (h : lF A B) : lG A B := ⟨h.1, fun j _ h2 => h.2 j h2⟩
theorem hF.rf (L : Gr) : hF L L := ⟨fun _ _ _ => rfl, fun _ _ _ _ => rfl⟩
theorem hF.tr {A B C : Gr} (h : hF A B) (k : hF B C) : hF A C := ⟨fun j h1 h2 => (k.1 j h1 h2).trans (h.1 j h1 h2), fun j h1 h2 h3 => (k.2 j h1 h2 h3).trans (h.2 j h1 h2 h3)⟩
theorem hF.of {A B : Gr} (h : sF A B) : hF A B := ⟨fun j _ _ => by rw [h.1], fun j _ h2 _ => h.2 j h2⟩
theorem lwR.mv {L N L' N' : Gr} (h : lwR L N) (k : lG L L') (l : hF N N') : lwR L' N' := by
  unfold lwR
  rw [k.1 0 (by omega) (by omega) (by omega), k.1 4 (by omega) (by omega) (by omega), k.2 1 (by omega) (by omega), k.2 2 (by omega) (by omega), k.2 3 (by omega) (by omega), k.2 5 (by omega) (by omega), k.2 6 (by omega) (by omega), l.1 17 (by omega) (by omega), l.2 24 (by omega) (by omega) (by omega), l.2 25 (by omega) (by omega) (by omega), l.2 26 (by omega) (by omega) (by omega), l.2 27 (by omega) (by omega) (by omega), l.2 28 (by omega) (by omega) (by omega)]
  exact h
/-- the reference's worth of a rule -/
def wth (S : Gr) (x y : Int32) : Option (Int32 × Gr) := (f_X12_reckonsTo S x y).bind fun u11 => if 0 ≤ u11.1 then (if u11.1 ≤ 99 then (some (u11.1, u11.2)) else (some (99, u11.2))) else (some (0, u11.2))
theorem fr_lp {n m K : Nat} {kd ws cs sg vl codes co fr ha to' : Nat → Int32} (hn : n ≤ 16) (hm : m ≤ 240) (hQ : ∀ q : Nat, q < n → ∃ (L A B D W S : Nat), (L = 116 ∨ L = 109 ∨ L = 120) ∧ kd q = zI L ∧ co q = zI L ∧ fr q = zI A ∧ ha q = zI B ∧ to' q = zI D ∧ D ≤ 240 ∧ ws q = zI W ∧ cs q = zI S ∧ (L ≠ 120 → piece sg vl codes A B W 1 ∧ W + (B - A) < m) ∧ piece sg vl codes B D S 100 ∧ S + (D - B) < m) : ∀ (d q f f' : Nat) (L S : Gr), q + d = n → d < f → d < f' → L.1 0 = zI n → L.2 1 = kd → L.2 3 = cs → lsR L S m sg vl codes → S.1 17 = zI n → S.2 25 = co → S.2 26 = fr → S.2 27 = ha → S.2 28 = to' → ∃ r L' S', f_X3_firstRule_n2 (zI K) f L (zI q) = some (r, L') ∧ lF L L' ∧ sF S S' ∧ ((r = -1 ∧ f_X12_byLaw_n2 (zI K) f' S (zI q) = some (0, S') ∧ f_X12_holdsAny_n2 (zI K) f' S (zI q) = some (0, S')) ∨ ∃ p : Nat, p < n ∧ r = zI p ∧ kd p = zI K ∧ f_X12_holdsAny_n2 (zI K) f' S (zI q) = some (1, S') ∧ f_X12_byLaw_n2 (zI K) f' S (zI q) = wth S' (fr p) (ha p)) := by
  intro d
  induction d with
  | zero =>
    intro q f f' L S hq hf hf' l0 l1 l3 hl s17 s25 s26 s27 s28
    obtain ⟨f, rfl⟩ : ∃ k, f = k + 1 := ⟨f - 1, by omega⟩
    obtain ⟨f', rfl⟩ : ∃ k, f' = k + 1 := ⟨f' - 1, by omega⟩
    have c1 : zI n ≤ zI q := (leN (by omega) (by omega)).mpr (by omega)
    rw [f_X3_firstRule_n2, l0, if_pos c1, f_X12_byLaw_n2, s17, if_pos c1, f_X12_holdsAny_n2, s17, if_pos c1]
    exact ⟨_, _, S, rfl, lF.rf L, sF.rf S, Or.inl ⟨rfl, rfl, rfl⟩⟩
  | succ d ih =>
    intro q f f' L S hq hf hf' l0 l1 l3 hl s17 s25 s26 s27 s28
    obtain ⟨f, rfl⟩ : ∃ k, f = k + 1 := ⟨f - 1, by omega⟩
    obtain ⟨f', rfl⟩ : ∃ k, f' = k + 1 := ⟨f' - 1, by omega⟩
    have c1 : ¬ zI n ≤ zI q := fun h => absurd ((leN (by omega) (by omega)).mp h) (by omega)
    obtain ⟨T, A, B, D, W, Z, a1, a2, a3, a4, a5, a6, a7, a8, a9, a10, a11, a12⟩ := hQ q (by omega)
    by_cases hk : zI (T : Int) = zI (K : Int)
    · obtain ⟨L1, r, S1, q1, q2, q3, q4, q5⟩ := run_b (L := L) (S := S) (by omega) hm a11 a12 hl
      have hF1 : f_X3_firstRule_n2 (zI K) (f + 1) L (zI q) = (if L1.1 10 = 0 then f_X3_firstRule_n2 (zI K) f L1 (zI ((q + 1 : Nat) : Int)) else (if L1.1 11 = 0 then some (zI q, L1) else f_X3_firstRule_n2 (zI K) f L1 (zI ((q + 1 : Nat) : Int)))) := by
        rw [f_X3_firstRule_n2, l0, if_neg c1, rdN (by omega) (by omega), l1, a2, if_pos hk, rdN (by omega) (by omega), l3, a9, q1, bd_s]
        simp only [lt_e, zs1]
      have hB1 : f_X12_byLaw_n2 (zI K) (f' + 1) S (zI q) = (if r = 1 then wth S1 (fr q) (ha q) else f_X12_byLaw_n2 (zI K) f' S1 (zI ((q + 1 : Nat) : Int))) := by
        rw [f_X12_byLaw_n2, s17, if_neg c1, rdN (by omega) (by omega), s25, a3, if_pos hk, rdN (by omega) (by omega), s27, a5, rdN (by omega) (by omega), s28, a6, q2, bd_s]
        simp only [lt_e, zs1]
        by_cases h1 : r = 1
        · rw [if_pos h1, if_pos h1, rdN (by omega) (by omega), rdN (by omega) (by omega), (q4.2 26 (by omega)).trans s26, (q4.2 27 (by omega)).trans s27, a5]; rfl
        · rw [if_neg h1, if_neg h1]
      have hH1 : f_X12_holdsAny_n2 (zI K) (f' + 1) S (zI q) = (if r = 1 then some (1, S1) else f_X12_holdsAny_n2 (zI K) f' S1 (zI ((q + 1 : Nat) : Int))) := by
        rw [f_X12_holdsAny_n2, s17, if_neg c1, rdN (by omega) (by omega), s25, a3, if_pos hk, rdN (by omega) (by omega), s27, a5, rdN (by omega) (by omega), s28, a6, q2, bd_s]
        simp only [lt_e, zs1]
      rw [hF1, hB1, hH1]
      have nx : ∃ r L' S', f_X3_firstRule_n2 (zI K) f L1 (zI ((q + 1 : Nat) : Int)) = some (r, L') ∧ lF L L' ∧ sF S S' ∧ ((r = -1 ∧ f_X12_byLaw_n2 (zI K) f' S1 (zI ((q + 1 : Nat) : Int)) = some (0, S') ∧ f_X12_holdsAny_n2 (zI K) f' S1 (zI ((q + 1 : Nat) : Int)) = some (0, S')) ∨ ∃ p : Nat, p < n ∧ r = zI p ∧ kd p = zI K ∧ f_X12_holdsAny_n2 (zI K) f' S1 (zI ((q + 1 : Nat) : Int)) = some (1, S') ∧ f_X12_byLaw_n2 (zI K) f' S1 (zI ((q + 1 : Nat) : Int)) = wth S' (fr p) (ha p)) := by
        obtain ⟨r', L2, S2, p1, p2, p3, p4⟩ := ih (q + 1) f f' L1 S1 (by omega) (by omega) (by omega) ((q3.1 0 (by omega) (by omega) (by omega)).trans l0) ((q3.2 1 (by omega)).trans l1) ((q3.2 3 (by omega)).trans l3) (hl.mv q3 q4) (by rw [q4.1]; exact s17) ((q4.2 25 (by omega)).trans s25) ((q4.2 26 (by omega)).trans s26) ((q4.2 27 (by omega)).trans s27) ((q4.2 28 (by omega)).trans s28)
        exact ⟨r', L2, S2, p1, q3.tr p2, q4.tr p3, p4⟩
      rcases q5 with ⟨u1, u2⟩ | ⟨u1, ⟨u2, -⟩ | ⟨u2, h, u3, u4⟩⟩
      · have n1 : ¬ r = 1 := by rw [u2]; decide
        have n2 : ¬ L1.1 11 = 0 := by rw [u1]; decide
        rw [if_neg n1, if_neg n1, if_neg n2]
        by_cases h10 : L1.1 10 = 0
        · rw [if_pos h10]; exact nx
        · rw [if_neg h10]; exact nx
      · omega
      · cases h with
        | false =>
          have n1 : ¬ r = 1 := by rw [u4]; decide
          have n2 : L1.1 10 = 0 := u3
          rw [if_neg n1, if_neg n1, if_pos n2]; exact nx
        | true =>
          have n1 : r = 1 := u4
          have n2 : ¬ L1.1 10 = 0 := by rw [u3]; decide
          rw [if_pos n1, if_pos n1, if_neg n2, if_pos u1]
          exact ⟨_, _, _, rfl, q3, q4, Or.inr ⟨q, by omega, rfl, a2.trans hk, rfl, rfl⟩⟩
    · have hF1 : f_X3_firstRule_n2 (zI K) (f + 1) L (zI q) = f_X3_firstRule_n2 (zI K) f L (zI ((q + 1 : Nat) : Int)) := by
        rw [f_X3_firstRule_n2, l0, if_neg c1, rdN (by omega) (by omega), l1, a2, if_neg hk, lt_e, zs1]
      have hB1 : f_X12_byLaw_n2 (zI K) (f' + 1) S (zI q) = f_X12_byLaw_n2 (zI K) f' S (zI ((q + 1 : Nat) : Int)) := by
        rw [f_X12_byLaw_n2, s17, if_neg c1, rdN (by omega) (by omega), s25, a3, if_neg hk, lt_e, zs1]
      have hH1 : f_X12_holdsAny_n2 (zI K) (f' + 1) S (zI q) = f_X12_holdsAny_n2 (zI K) f' S (zI ((q + 1 : Nat) : Int)) := by
        rw [f_X12_holdsAny_n2, s17, if_neg c1, rdN (by omega) (by omega), s25, a3, if_neg hk, lt_e, zs1]
      rw [hF1, hB1, hH1]
      exact ih (q + 1) f f' L S (by omega) (by omega) (by omega) l0 l1 l3 hl s17 s25 s26 s27 s28
theorem any_b {L S : Gr} (h : lwR L S) (hs : ∀ j, j < 10 → L.2 7 j = S.2 30 j) : ∃ r L' S' t, f_X3_firstRule L 120 = some (r, L') ∧ f_X12_holdsAny S 120 = some (b2 t, S') ∧ lF L L' ∧ sF S S' ∧ (t = false ↔ r = -1) := by
  obtain ⟨n, m, h1, h2, h3, h4, h5, h6⟩ := h
  obtain ⟨r, L', S', q1, q2, q3, q4⟩ := fr_lp (K := 120) h1 h4 h6 n 0 fu fu L S (by omega) (by show n < 1000; omega) (by show n < 1000; omega) h2 rfl rfl ⟨h5, rfl, rfl, rfl, hs⟩ h3 rfl rfl rfl rfl
  rcases q4 with ⟨u1, -, u2⟩ | ⟨p, p1, u1, -, u2, -⟩
  · exact ⟨r, L', S', false, q1, u2, q2, q3, iff_of_true rfl u1⟩
  · exact ⟨r, L', S', true, q1, u2, q2, q3, iff_of_false (by decide) (by rw [u1]; exact zne1 p (by omega))⟩
theorem clamp_b (r : Int32) : ∃ w : Int, 0 ≤ w ∧ w ≤ 99 ∧ mx' 0 (mn' 99 r) = zI w ∧ ∀ S : Gr, (if 0 ≤ r then (if r ≤ 99 then (some (r, S)) else (some (99, S))) else (some (0, S))) = some (zI w, S) := by
  obtain ⟨z, z1, z2, rfl⟩ := zI_of r
  have e0 : (0 : Int32) = zI 0 := rfl
  have e99 : (99 : Int32) = zI 99 := rfl
  have k1 : (0 : Int32) ≤ zI z ↔ 0 ≤ z := by rw [e0, zI_le (by omega) (by omega) z1 z2]
  have k2 : zI z ≤ (99 : Int32) ↔ z ≤ 99 := by rw [e99, zI_le z1 z2 (by omega) (by omega)]
  have k3 : zI z < (99 : Int32) ↔ z < 99 := by rw [e99, zI_lt z1 z2 (by omega) (by omega)]
  have k4 : (0 : Int32) < zI z ↔ 0 < z := by rw [e0, zI_lt (by omega) (by omega) z1 z2]
  by_cases c1 : z < 99
  · have em : mn' 99 (zI z) = zI z := if_pos (k3.mpr c1)
    by_cases c2 : 0 < z
    · refine ⟨z, by omega, by omega, by rw [em]; exact if_pos (k4.mpr c2), fun S => ?_⟩
      rw [if_pos (k1.mpr (by omega)), if_pos (k2.mpr (by omega))]
    · refine ⟨0, by omega, by omega, by rw [em]; exact if_neg (fun h => c2 (k4.mp h)), fun S => ?_⟩
      by_cases c3 : z = 0
      · rw [if_pos (k1.mpr (by omega)), if_pos (k2.mpr (by omega)), c3]
      · rw [if_neg (fun h => by have := k1.mp h; omega)]; rfl
  · have em : mn' 99 (zI z) = 99 := if_neg (fun h => c1 (k3.mp h))
    refine ⟨99, by omega, by omega, by rw [em]; rfl, fun S => ?_⟩
    rw [if_pos (k1.mpr (by omega))]
    by_cases c3 : z = 99
    · rw [if_pos (k2.mpr (by omega)), c3]
    · rw [if_neg (fun h => by have := k2.mp h; omega)]; rfl
theorem by_b {L S : Gr} {K : Nat} (hK : K = 116 ∨ K = 109) (h : lwR L S) (hs : ∀ j, j < 10 → L.2 7 j = S.2 30 j) : ∃ (r : Int32) (L1 : Gr) (w : Int) (L2 S' : Gr), f_X3_firstRule L (zI K) = some (r, L1) ∧ f_X3_worthOf L1 r = some (zI w, L2) ∧ f_X12_byLaw S (zI K) = some (zI w, S') ∧ 0 ≤ w ∧ w ≤ 99 ∧ lF L L2 ∧ sF S S' := by
  obtain ⟨n, m, h1, h2, h3, h4, h5, h6⟩ := h
  have e0 : (0 : Int32) = zI ((0 : Nat) : Int) := rfl
  obtain ⟨r, L', S', q1, q2, q3, q4⟩ := fr_lp (K := K) h1 h4 h6 n 0 fu fu L S (by omega) (by show n < 1000; omega) (by show n < 1000; omega) h2 rfl rfl ⟨h5, rfl, rfl, rfl, hs⟩ h3 rfl rfl rfl rfl
  rcases q4 with ⟨u1, u2, -⟩ | ⟨p, p1, u1, u3, -, u2⟩
  · refine ⟨r, L', 0, L', S', q1, ?_, u2, by omega, by omega, q2, q3⟩
    unfold f_X3_worthOf
    rw [u1, if_pos (by decide)]; rfl
  · obtain ⟨T, A, B, D, W, Z, a1, a2, a3, a4, a5, a6, a7, a8, a9, a10, a11, a12⟩ := h6 p p1
    have hT : T = K := (eqN (by omega) (by omega)).mp (a2.symm.trans u3)
    obtain ⟨b1, b2'⟩ := a10 (by omega)
    have hl : lsR L' S' m (L.2 5) (L.2 6) (S.2 24) := lsR.mv (L := L) (S := S) ⟨h5, rfl, rfl, rfl, hs⟩ q2 q3
    obtain ⟨L2, v, S2, k1, k2, k3, k4, k5⟩ := run_b (L := L') (S := S') (a := A) (b := B) (c := W) (by have := a11.1; omega) h4 b1 b2' hl
    have c1 : ¬ r < 0 := by rw [u1, e0, ltN (by omega) (by omega)]; omega
    have c2 : r < L'.1 0 := by rw [u1, q2.1 0 (by omega) (by omega) (by omega), h2, ltN (by omega) (by omega)]; omega
    obtain ⟨w, w1, w2, w3, w4⟩ := clamp_b v
    have hby : f_X12_byLaw_n2 (zI K) fu S (zI ((0 : Nat) : Int)) = _ := u2
    rw [a4, a5] at hby
    have rd0 : ∀ {β : Type} {N : Nat} {g : Nat → Int32} {q : Int32 → Option β}, 0 < N → rd' g N 0 q = q (g 0) := fun hN => rdN (m := 0) hN (by omega)
    rcases k5 with ⟨x1, x2⟩ | ⟨x1, ⟨x2, x3, x4⟩ | ⟨x2, -⟩⟩
    · have n2 : ¬ L2.1 11 = 0 := by rw [x1]; decide
      have hw0 : zI w = 0 := by
        have := w4 L
        rw [x2, if_pos (by decide), if_pos (by decide)] at this
        exact (Prod.mk.inj (Option.some.inj this)).1.symm
      refine ⟨r, L', w, L2, S2, q1, ?_, ?_, w1, w2, q2.tr k3, q3.tr k4⟩
      · unfold f_X3_worthOf
        rw [if_neg c1, if_pos c2, u1, rdN (by omega) (by omega), q2.2 2 (by omega), a8, k1, bd_s, if_neg n2, hw0]
      · refine hby.trans ?_
        unfold wth
        rw [k2, bd_s]
        exact w4 S2
    · have c3 : (1 : Int32) ≤ L2.1 9 := by rw [x3]; decide
      refine ⟨r, L', w, L2, S2, q1, ?_, ?_, w1, w2, q2.tr k3, q3.tr k4⟩
      · unfold f_X3_worthOf
        rw [if_neg c1, if_pos c2, u1, rdN (by omega) (by omega), q2.2 2 (by omega), a8, k1, bd_s, if_pos x1, if_pos c3, rd0 (by omega), lt_e, lt_e, x4 (by omega), w3]
      · refine hby.trans ?_
        unfold wth
        rw [k2, bd_s]
        exact w4 S2
    · omega
