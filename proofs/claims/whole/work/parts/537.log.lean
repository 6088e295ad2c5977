/-! log: the reference's steps -/
def lgA (x1 x2 : Int32) (f0 f1 : Nat) (N : Gr) : Option (Int32 × Gr) := (f_X12_readsSpoke_n0 f0 N).bind fun u => f_X12_log_n61 x1 x2 f1 u.2 u.1
def lgB (x1 x2 : Int32) (f0 f1 : Nat) (N : Gr) : Option (Int32 × Gr) := (f_X12_readsSpoke_n156 f0 N).bind fun u => f_X12_log_n61 x1 x2 f1 u.2 u.1
def lgF (N N' : Gr) : Prop := (∀ j, j ≠ 9 → j ≠ 11 → j ≠ 44 → j ≠ 45 → N'.1 j = N.1 j) ∧ ∀ j, j ≠ 41 → j ≠ 42 → j ≠ 43 → N'.2 j = N.2 j
theorem lgF.rf (N : Gr) : lgF N N := ⟨fun _ _ _ _ _ => rfl, fun _ _ _ _ => rfl⟩
theorem lgF.tr {A B C : Gr} (h : lgF A B) (k : lgF B C) : lgF A C := ⟨fun j a b c d => (k.1 j a b c d).trans (h.1 j a b c d), fun j a b c => (k.2 j a b c).trans (h.2 j a b c)⟩
theorem lgF.i (N : Gr) {k : Nat} (hk : k = 9 ∨ k = 11 ∨ k = 44 ∨ k = 45) (x : Int32) : lgF N (sI N k x) := ⟨fun j a b c d => sI_o _ _ _ _ (by omega), fun _ _ _ _ => rfl⟩
theorem lgF.a (N : Gr) {k : Nat} (hk : k = 41 ∨ k = 42 ∨ k = 43) (i : Nat) (x : Int32) : lgF N (sA N k i x) := ⟨fun _ _ _ _ _ => rfl, fun j a b c => sA_o _ _ _ _ _ (by omega)⟩
/-- the rounds below o stay -/
def lgK (o : Nat) (N N' : Gr) : Prop := ∀ j, j < o → N'.2 42 j = N.2 42 j ∧ N'.2 43 j = N.2 43 j
theorem lgK.rf (o : Nat) (N : Gr) : lgK o N N := fun _ _ => ⟨rfl, rfl⟩
theorem lgK.tr {o : Nat} {A B C : Gr} (h : lgK o A B) (k : lgK o B C) : lgK o A C := fun j hj => ⟨(k j hj).1.trans (h j hj).1, (k j hj).2.trans (h j hj).2⟩
theorem lgK.le {o o' : Nat} {A B : Gr} (h : lgK o A B) (hl : o' ≤ o) : lgK o' A B := fun j hj => h j (by omega)
/-- the log so far -/
def lgR (G N : Gr) (s : Nat) : Prop := G.1 2 = zI s ∧ N.1 44 = zI s ∧ s ≤ 64 ∧ ∀ j, j < s → G.2 1 j = N.2 41 j
section
variable {b : Nat → Int} {n i o s : Nat} {X G N : Gr} {x1 x2 : Int32} {f0 f1 : Nat}
theorem n61_0 : f_X12_log_n61 x1 x2 (f1 + 1) N 0 = f_X12_log_n91 x1 x2 N 0 := by rw [f_X12_log_n61, i00]
theorem A_bad (hb : txB b n) (h : txR X N b n i) (h1 : cu b n i ≠ 40) (h2 : ¬ (48 ≤ cu b n i ∧ cu b n i ≤ 55)) : lgA x1 x2 (f0 + 1) (f1 + 1) N = f_X12_log_n91 x1 x2 (sI N 11 (zI (ft 1 i))) 0 := by
  have hc := cu_b hb i
  have e40 : (40 : Int32) = zI 40 := rfl
  have n40 : ¬ zI (cu b n i) = 40 := by rw [e40, zI_eq (by omega) (by omega) (by omega) (by omega)]; exact h1
  have ii : f_X12_in (zI (cu b n i)) 48 55 = some (b2 (decide (48 ≤ cu b n i ∧ cu b n i ≤ 55))) := in_z (a := 48) (b := 55) (by omega) (by omega) (by omega) (by omega) (by omega) (by omega)
  have w1 : f_X12_wrongAt N 1 (N.1 9) = _ := wro_b h 1
  unfold lgA
  rw [f_X12_readsSpoke_n0, here_b hb h, bd_s, if_neg n40, bd_s, ii, bd_s, decide_eq_false h2, b2_f, i00, w1, bd_s, zb_0, bd_s]
  exact n61_0
theorem A_full (hb : txB b n) (h : txR X N b n i) (h2 : 48 ≤ cu b n i ∧ cu b n i ≤ 55) (hs : N.1 44 = 64) : lgA x1 x2 (f0 + 1) (f1 + 1) N = f_X12_log_n91 x1 x2 (sI N 11 (zI (ft 6 i))) 0 := by
  have hc := cu_b hb i
  have e40 : (40 : Int32) = zI 40 := rfl
  have n40 : ¬ zI (cu b n i) = 40 := by rw [e40, zI_eq (by omega) (by omega) (by omega) (by omega)]; omega
  have ii : f_X12_in (zI (cu b n i)) 48 55 = some (b2 (decide (48 ≤ cu b n i ∧ cu b n i ≤ 55))) := in_z (a := 48) (b := 55) (by omega) (by omega) (by omega) (by omega) (by omega) (by omega)
  have w1 : f_X12_wrongAt N 6 (N.1 9) = _ := wro_b h 6
  unfold lgA
  rw [f_X12_readsSpoke_n0, here_b hb h, bd_s, if_neg n40, bd_s, ii, bd_s, decide_eq_true h2, b2_t, i10, if_pos hs, w1, bd_s, zb_0, bd_s]
  exact n61_0
theorem A_dig (hb : txB b n) (h : txR X N b n i) (h2 : 48 ≤ cu b n i ∧ cu b n i ≤ 55) (hs : N.1 44 = zI s) (hs2 : s < 64) : lgA x1 x2 (f0 + 1) f1 N = lgB x1 x2 fu f1 (sI (sI (sA N 41 s (zI (cu b n i - 48))) 44 (zI ((s + 1 : Nat) : Int))) 9 (zI ((i + 1 : Nat) : Int))) := by
  have hc := cu_b hb i
  have e40 : (40 : Int32) = zI 40 := rfl
  have e48 : (48 : Int32) = zI 48 := rfl
  have e64 : (64 : Int32) = zI ((64 : Nat) : Int) := rfl
  have n40 : ¬ zI (cu b n i) = 40 := by rw [e40, zI_eq (by omega) (by omega) (by omega) (by omega)]; omega
  have n64 : ¬ N.1 44 = 64 := by rw [hs, e64, eqN (by omega) (by omega)]; omega
  have ii : f_X12_in (zI (cu b n i)) 48 55 = some (b2 (decide (48 ≤ cu b n i ∧ cu b n i ≤ 55))) := in_z (a := 48) (b := 55) (by omega) (by omega) (by omega) (by omega) (by omega) (by omega)
  have e9 : (sI (sA N 41 s (zI (cu b n i - 48))) 44 (zI ((s + 1 : Nat) : Int))).1 9 = zI i := by rw [sI_o _ _ _ _ (by omega)]; exact h.2.2.1
  unfold lgA
  rw [f_X12_readsSpoke_n0, here_b hb h, bd_s, if_neg n40, bd_s, ii, bd_s, decide_eq_true h2, b2_t, i10, if_neg n64, bd_s, hs, ckN (by omega) (by omega), clN (by omega), e48, zI_sub, lt_e, sA_1, hs, zs1, lt_e, e9, zs1, lt_e]
  rfl
theorem A_open2 (hb : txB b n) (h : txR X N b n i) (h1 : cu b n i = 40) (ho : N.1 45 = 2) : lgA x1 x2 (f0 + 1) (f1 + 1) N = f_X12_log_n91 x1 x2 (sI N 11 (zI (ft 5 i))) 0 := by
  have y40 : zI (cu b n i) = 40 := by rw [h1]; rfl
  have w1 : f_X12_wrongAt N 5 (N.1 9) = _ := wro_b h 5
  unfold lgA
  rw [f_X12_readsSpoke_n0, here_b hb h, bd_s, if_pos y40, if_pos ho, w1, bd_s, zb_0, bd_s]
  exact n61_0
theorem A_open (hb : txB b n) (h : txR X N b n i) (h1 : cu b n i = 40) (ho : N.1 45 = zI o) (ho2 : o < 2) (hs : N.1 44 = zI s) : lgA x1 x2 (f0 + 1) f1 N = lgA x1 x2 f0 f1 (sI (sI (sA (sA N 42 o (zI i)) 43 o (zI s)) 45 (zI ((o + 1 : Nat) : Int))) 9 (zI ((i + 1 : Nat) : Int))) := by
  have e2 : (2 : Int32) = zI ((2 : Nat) : Int) := rfl
  have y40 : zI (cu b n i) = 40 := by rw [h1]; rfl
  have n2 : ¬ N.1 45 = 2 := by rw [ho, e2, eqN (by omega) (by omega)]; omega
  have e44 : (sA N 42 o (zI i)).1 44 = zI s := hs
  have e45 : (sA N 42 o (zI i)).1 45 = zI o := ho
  have e45' : (sA (sA N 42 o (zI i)) 43 o (zI s)).1 45 = zI o := ho
  have e9 : (sI (sA (sA N 42 o (zI i)) 43 o (zI s)) 45 (zI ((o + 1 : Nat) : Int))).1 9 = zI i := by rw [sI_o _ _ _ _ (by omega)]; exact h.2.2.1
  unfold lgA
  rw [f_X12_readsSpoke_n0, here_b hb h, bd_s, if_pos y40, if_neg n2, ho, h.2.2.1, ckN (by omega) (by omega), clN (by omega), lt_e, e45, e44, ckN (by omega) (by omega), clN (by omega), lt_e, e45', zs1, lt_e, e9, zs1, lt_e]
theorem B_on (hb : txB b n) (h : txR X N b n i) (ho : N.1 45 = zI o) (ho2 : o ≤ 2) (h1 : ¬ (cu b n i = 41 ∧ 0 < o)) (h2 : i < n ∨ 0 < o) : lgB x1 x2 (f0 + 1) (f1 + 1) N = lgA x1 x2 fu f1 N := by
  have hc := cu_b hb i
  have hn := hb.1
  have hi := h.1
  have e0 : (0 : Int32) = zI ((0 : Nat) : Int) := rfl
  have e41 : (41 : Int32) = zI 41 := rfl
  have key : f_X12_readsSpoke_n156 (f0 + 1) N = some (1, N) := by
    rw [f_X12_readsSpoke_n156, here_b hb h, bd_s]
    by_cases e : cu b n i = 41
    · have y : zI (cu b n i) = 41 := by rw [e]; rfl
      have z : N.1 45 ≤ 0 := by rw [ho, e0, leN (by omega) (by omega)]; omega
      rw [if_pos y, if_pos z]
    · have y : ¬ zI (cu b n i) = 41 := by rw [e41, zI_eq (by omega) (by omega) (by omega) (by omega)]; exact e
      rw [if_neg y]
  unfold lgB
  rw [key, bd_s]
  dsimp only
  rw [f_X12_log_n61, i10, h.2.2.1, h.2.2.2.1]
  by_cases e : i < n
  · rw [if_pos ((ltN (by omega) (by omega)).mpr e)]; rfl
  · have z : ¬ N.1 45 ≤ 0 := by rw [ho, e0, leN (by omega) (by omega)]; omega
    rw [if_neg (fun h => e ((ltN (by omega) (by omega)).mp h)), if_neg z]; rfl
theorem B_end (hb : txB b n) (h : txR X N b n i) (ho : N.1 45 = 0) (h2 : i = n) : lgB x1 x2 (f0 + 1) (f1 + 1) N = f_X12_log_n91 x1 x2 N 1 := by
  have hn := hb.1
  have y : zI (cu b n i) = -1 := by
    unfold cu
    rw [if_neg (by omega)]; rfl
  unfold lgB
  rw [f_X12_readsSpoke_n156, here_b hb h, bd_s, y, if_neg (by decide), bd_s]
  dsimp only
  rw [f_X12_log_n61, i10, h.2.2.1, h.2.2.2.1, if_neg (fun h => absurd ((ltN (by omega) (by omega)).mp h) (by omega)), ho, if_pos (by decide)]
theorem B_close (hb : txB b n) (h : txR X N b n i) (ho : N.1 45 = zI o) (ho2 : o ≤ 2) (h1 : cu b n i = 41) (h2 : 0 < o) : lgB x1 x2 (f0 + 1) f1 N = (f_X12_readsRoundEnd N).bind fun u22 => if u22.1 = 0 then f_X12_log_n61 x1 x2 f1 u22.2 0 else lgB x1 x2 f0 f1 u22.2 := by
  have e0 : (0 : Int32) = zI ((0 : Nat) : Int) := rfl
  have y : zI (cu b n i) = 41 := by rw [h1]; rfl
  have z : ¬ N.1 45 ≤ 0 := by rw [ho, e0, leN (by omega) (by omega)]; omega
  unfold lgB
  rw [f_X12_readsSpoke_n156, here_b hb h, bd_s, if_pos y, if_neg z]
  cases f_X12_readsRoundEnd N with
  | none => rfl
  | some u =>
    rw [bd_s, bd_s]
    by_cases e : u.1 = 0
    · rw [if_pos e, if_pos e]; rfl
    · rw [if_neg e, if_neg e]
end
/-- a row said again -/
theorem rep_lp {X : Gr} {s0 len t : Nat} (h1 : 1 ≤ len) (h2 : s0 + len * t ≤ 64) (ht : 2 ≤ t) : ∀ (d k f f' : Nat) (G N : Gr), k + d = len * (t - 1) → d < f → d < f' → G.1 2 = zI ((s0 + len + k : Nat) : Int) → (∀ j, j < s0 + len + k → G.2 1 j = N.2 41 j) → ∃ G' N', f_X5_repeat_n2 X (zI len) (zI ((len * (t - 1) : Nat) : Int)) f G (zI k) = some G' ∧ f_X12_readsRoundEnd_n129 f' N (zI t) (zI s0) (zI len) (zI ((len + k : Nat) : Int)) = some (1, N') ∧ lgR G' N' (s0 + len * t) ∧ (∀ j, j ≠ 44 → N'.1 j = N.1 j) ∧ (∀ j, j ≠ 41 → N'.2 j = N.2 j) := by
  have el : len * t = len * (t - 1) + len := by
    obtain ⟨r, rfl⟩ : ∃ r, t = r + 1 := ⟨t - 1, by omega⟩
    rw [Nat.mul_succ, Nat.add_sub_cancel]
  have em : zI len * zI t = zI ((len * t : Nat) : Int) := by rw [zI_mul]; congr 1
  intro d
  induction d with
  | zero =>
    intro k f f' G N hk hf hf' hG hj
    obtain ⟨f, rfl⟩ : ∃ k, f = k + 1 := ⟨f - 1, by omega⟩
    obtain ⟨f', rfl⟩ : ∃ k, f' = k + 1 := ⟨f' - 1, by omega⟩
    have ek : s0 + len + k = s0 + len * t := by omega
    rw [f_X5_repeat_n2, if_pos ((leN (by omega) (by omega)).mpr (by omega)), f_X12_readsRoundEnd_n129, em, if_pos ((leN (by omega) (by omega)).mpr (by omega)), zaN, lt_e]
    rw [ek] at hG hj
    exact ⟨G, _, rfl, rfl, ⟨hG, sI_s _ _ _, h2, hj⟩, fun j h => sI_o _ _ _ _ h, fun _ _ => rfl⟩
  | succ d ih =>
    intro k f f' G N hk hf hf' hG hj
    obtain ⟨f, rfl⟩ : ∃ k, f = k + 1 := ⟨f - 1, by omega⟩
    obtain ⟨f', rfl⟩ : ∃ k, f' = k + 1 := ⟨f' - 1, by omega⟩
    have e63 : (63 : Int32) = zI ((63 : Nat) : Int) := rfl
    have hw : zI len ≤ zI ((s0 + len + k : Nat) : Int) ∧ zI ((s0 + len + k : Nat) : Int) ≤ 63 := by
      rw [e63, leN (by omega) (by omega), leN (by omega) (by omega)]; omega
    have i1 : zI ((s0 + len + k : Nat) : Int) - zI len = zI ((s0 + k : Nat) : Int) := by rw [zI_sub]; congr 1; omega
    have i2 : zI s0 + zI ((len + k : Nat) : Int) = zI ((s0 + len + k : Nat) : Int) := by rw [zI_add]; congr 1; omega
    rw [f_X5_repeat_n2, if_neg (fun h => absurd ((leN (by omega) (by omega)).mp h) (by omega)), hG, within_e, decide_eq_true hw, bd_s, b2_t, i10, i1, rdN (by omega) (by omega), ckN (by omega) (by omega), clN (by omega), lt_e, sA_1, hG, lt_e, zs1, lt_e, zs1]
    rw [f_X12_readsRoundEnd_n129, em, if_neg (fun h => absurd ((leN (by omega) (by omega)).mp h) (by omega)), i2, i1, rdN (by omega) (by omega), ckN (by omega) (by omega), clN (by omega), lt_e, lt_e, zs1]
    obtain ⟨G', N', q1, q2, q3, q4, q5⟩ := ih (k + 1) f f' (sI (sA G 1 (s0 + len + k) (G.2 1 (s0 + k))) 2 (zI ((s0 + len + k + 1 : Nat) : Int))) (sA N 41 (s0 + len + k) (N.2 41 (s0 + k))) (by omega) (by omega) (by omega) (sI_s _ _ _) (fun j hj' => by
      rw [sI_2, sA_s, sA_s, hj (s0 + k) (by omega)]
      by_cases e : j = s0 + len + k
      · rw [if_pos e, if_pos e]
      · rw [if_neg e, if_neg e]; exact hj j (by omega))
    exact ⟨G', N', q1, q2, q3, q4, fun j h => by rw [q5 j h, sA_o _ _ _ _ _ h]⟩
