/-! law: conditions; the reference's steps -/
def cE (f0 f1 fe : Nat) (N : Gr) : Option (Int32 × Gr) := (f_X12_endsPiece_n0 fe N).bind fun u => f_X12_readsCondition_n92 (f_X12_readsCondition_n40 f0) f1 u
theorem em_eqv {L N : Gr} {c0 a0 cm m : Nat} {q : List Nat} {ty : Nat → Nat} {P P' : Nat → Prop} (h : em L N c0 a0 cm m q ty P) (e : ∀ j, P j ↔ P' j) : em L N c0 a0 cm m q ty P' := by
  have : P = P' := funext fun j => propext (e j)
  rw [← this]; exact h
section
variable {b : Nat → Int} {n : Nat}
/-- endsPiece stops -/
theorem cE_stop {N : Gr} {w s f0 f1 fe : Nat} (hw : w < 260) (h15 : N.1 15 = zI ((w + 1 : Nat) : Int)) (e : stE N w s) (hs : s ≠ 10) : cE f0 f1 (fe + 1) N = f_X12_readsCondition_n92 (f_X12_readsCondition_n40 f0) f1 N := by
  have e10 : (10 : Int32) = zI ((10 : Nat) : Int) := rfl
  have hs14 := e.1
  have ns : ¬ zI (s : Int) = 10 := by rw [e10, eqN (by omega) (by omega)]; exact hs
  unfold cE
  rw [f_X12_endsPiece_n0, wt_s hw h15 e, bd_s, if_neg ns, bd_s]
/-- endsPiece takes a not -/
theorem cE_not {L N : Gr} {c0 a0 cm m w o f0 f1 fe : Nat} {ty : Nat → Nat} {P : Nat → Prop} (hw : w < 250) (hcm : cm < 250) (h15 : N.1 15 = zI ((w + 1 : Nat) : Int)) (h13 : N.1 13 = zI ((o + 1 : Nat) : Int)) (e : stE N w 10) (he : em L N c0 a0 cm m [10] ty P) (ht : ty cm = 100) : ∃ N' ty', cE f0 f1 (fe + 1) N = cE f0 f1 fe N' ∧ em L N' c0 a0 (cm + 1) m [] ty' P ∧ ty' (cm + 1) = 100 ∧ N'.1 15 = zI w ∧ N'.1 13 = zI o ∧ (∀ j, j ≠ 13 → j ≠ 14 → j ≠ 15 → N'.1 j = N.1 j) ∧ (∀ j, j ≠ 18 → N'.2 j = N.2 j) ∧ lnF a0 N N' := by
  have y : zI ((10 : Nat) : Int) = (10 : Int32) := rfl
  have hn : f_X12_notes N 10 0 = some (ntN N cm (zI (1048576 * ((10 : Nat) : Int) + 0))) := notes_e (by omega) he.1.1 10 0
  obtain ⟨N', eN'⟩ : ∃ N', N' = sI (sI (ntN N cm (zI (1048576 * ((10 : Nat) : Int) + 0))) 15 (zI w)) 13 (zI o) := ⟨_, rfl⟩
  have he1 := em_rn he 100 (by omega) ⟨fun h => by omega, fun h => by omega, fun _ => ⟨ht, rfl⟩⟩
  refine ⟨N', _, ?_, by rw [eN']; exact he1.nm rfl rfl, tyU_s _ _ _, by rw [eN']; rfl, by rw [eN']; rfl, fun j h1 h2 h3 => ?_, fun j h1 => ?_, ?_⟩
  · have e15 : (ntN N cm (zI (1048576 * ((10 : Nat) : Int) + 0))).1 15 = zI ((w + 1 : Nat) : Int) := h15
    have e13 : (sI (ntN N cm (zI (1048576 * ((10 : Nat) : Int) + 0))) 15 (zI w)).1 13 = zI ((o + 1 : Nat) : Int) := h13
    unfold cE
    rw [f_X12_endsPiece_n0, wt_s (by omega) h15 e, bd_s, if_pos y, hn, bd_s, e15, zp1, lt_e, e13, zp1, lt_e, ← eN']
  · rw [eN', sI_o _ _ _ _ h1, sI_o _ _ _ _ h3]; unfold ntN; rw [sI_o _ _ _ _ h2]; rfl
  · rw [eN']; unfold ntN; rw [sI_2, sI_2, sI_2, sA_o _ _ _ _ _ h1]
  · rw [eN']; exact (lnF.nt N he.1.2.2.2.1 _).tr ((lnF.i _ (by omega) _).tr (lnF.i _ (by omega) _))
/-- the reference opens a bracket or a not -/
theorem opn_b (hb : txB b n) {X N : Gr} {i w o s : Nat} (h : txR X N b n i) (hlt : i < n) (hw : w ≤ i) (h13 : N.1 13 = zI o) (h15 : N.1 15 = zI w) (ho : o ≤ 6) (hs : s = 10 ∨ s = 13) : (o = 6 ∧ f_X12_opens N (zI s) = some (0, sI N 11 (zI (ft 5 i)))) ∨ (o < 6 ∧ ∃ N', f_X12_opens N (zI s) = some (1, N') ∧ txR (sI X 2 (zI ((i + 1 : Nat) : Int))) N' b n (i + 1) ∧ N'.1 13 = zI ((o + 1 : Nat) : Int) ∧ N'.1 15 = zI ((w + 1 : Nat) : Int) ∧ N'.1 14 = N.1 14 ∧ N'.2 18 = N.2 18 ∧ stE N' w s ∧ skF w N N' ∧ ∀ a0, lnF a0 N N') := by
  have hn := hb.1
  have hi := h.1
  have e6 : (6 : Int32) = zI ((6 : Nat) : Int) := rfl
  unfold f_X12_opens
  by_cases eo : o = 6
  · have y6 : N.1 13 = 6 := by rw [h13, eo]; rfl
    have w1 : f_X12_wrongAt N 5 (N.1 9) = _ := wro_b h 5
    rw [if_pos y6, w1, bd_s, zb_0]
    exact Or.inl ⟨eo, rfl⟩
  · have n6 : ¬ N.1 13 = 6 := by rw [h13, e6, eqN (by omega) (by omega)]; exact eo
    have e15 : (sI N 13 (zI ((o + 1 : Nat) : Int))).1 15 = zI w := by rw [sI_o _ _ _ _ (by omega)]; exact h15
    have e15' : (sA (sI N 13 (zI ((o + 1 : Nat) : Int))) 19 w (1048576 * zI s)).1 15 = zI w := e15
    have e9 : (sI (sA (sI N 13 (zI ((o + 1 : Nat) : Int))) 19 w (1048576 * zI s)) 15 (zI ((w + 1 : Nat) : Int))).1 9 = zI i := h.2.2.1
    have e0 : (1048576 : Int32) * zI s = zI (1048576 * (s : Int) + 0) := by
      have e : (1048576 : Int32) = zI 1048576 := rfl
      rw [e, zI_mul]; congr 1
    rw [if_neg n6, h13, zs1, lt_e, e15, ckN (by omega) (by omega), clN (by omega), lt_e, e15', zs1, lt_e, e9, zs1, lt_e]
    refine Or.inr ⟨by omega, _, rfl, h.nx hlt (sI_s _ _ _) rfl rfl, rfl, rfl, rfl, rfl, ⟨by omega, 0, by omega, by omega, ?_⟩, fun j hj => ?_, fun a0 => (lnF.i N (by omega) _).tr ((lnF.a19 _ _ _).tr ((lnF.i _ (by omega) _).tr (lnF.i _ (by omega) _)))⟩
    · rw [sI_2, sI_2, sA_s, if_pos rfl, e0]
    · rw [sI_2, sI_2, sA_s, if_neg (by omega), sI_2]
/-- a jump that waits: class has landed it -/
def pnd (L N : Gr) (c0 a0 cm w s : Nat) (P PP : Nat → Prop) (g : Nat) : Prop := (g = w ∧ PP = P) ∨ ∃ k : Nat, g = w + 1 ∧ N.2 19 w = zI (1048576 * (s : Int) + k) ∧ ¬ P k ∧ PP = (fun j => P j ∨ j = k) ∧ L.2 6 (c0 + (k - a0)) = zI ((c0 + (cm - a0) : Nat) : Int)
/-- one landing -/
theorem lnd_1 {L N : Gr} {c0 a0 cm m w s k : Nat} {ty : Nat → Nat} {P PP : Nat → Prop} (hw : w < 250) (hcm : cm ≤ 250) (hs : s = 11 ∨ s = 12) (h15 : N.1 15 = zI ((w + 1 : Nat) : Int)) (hk : N.2 19 w = zI (1048576 * (s : Int) + k)) (he : em L N c0 a0 cm m [] ty PP) (ht : ty cm = 100) (hnp : ¬ P k) (hPP : PP = fun j => P j ∨ j = k) (hv : L.2 6 (c0 + (k - a0)) = zI ((c0 + (cm - a0) : Nat) : Int)) (x1 : Int32) (K : Gr → Option Gr) : ∃ N', f_X12_lands_n22 x1 K N = K N' ∧ em L N' c0 a0 cm m [] ty P ∧ N'.1 15 = zI w ∧ (∀ j, j ≠ 15 → N'.1 j = N.1 j) ∧ (∀ j, j ≠ 18 → N'.2 j = N.2 j) ∧ lnF a0 N N' := by
  have hpk : PP k := by rw [hPP]; exact Or.inr rfl
  have hkb := he.2.2.1 k hpk
  obtain ⟨o, o1, o2, o3⟩ := em_rl he hpk ht (by omega) hv
  have hd : zI (1048576 * (s : Int) + k) - zI (1048576 * (s : Int) + k) / 1048576 * 1048576 = zI k := ce_rem (by omega) (by omega) (by omega)
  have hd2 : zI (1048576 * (o : Int) + 0) / 1048576 = zI o := ce_div (by omega) (by omega) (by omega)
  have e : (1048576 : Int32) = zI 1048576 := rfl
  have ev : (1048576 : Int32) * zI o + zI cm = zI (1048576 * (o : Int) + cm) := by rw [e, zI_mul, zI_add]
  have e15 : (sA N 18 k (zI (1048576 * (o : Int) + cm))).1 15 = zI ((w + 1 : Nat) : Int) := h15
  unfold f_X12_lands_n22
  rw [h15, zp1, rdN (by omega) (by omega), hk, hd, lt_e, rdN (by omega) (by omega), o2, hd2, lt_e, ckN (by omega) (by omega), clN (by omega), he.1.1, ev, lt_e, e15, zp1, lt_e]
  refine ⟨_, rfl, (em_eqv o3 (fun j => ?_)).nm rfl rfl, sI_s _ _ _, fun j h => sI_o _ _ _ _ h, fun j h => by rw [sI_2, sA_o _ _ _ _ _ h], (lnF.a18 N (by omega) _).tr (lnF.i _ (by omega) _)⟩
  rw [hPP]
  constructor
  · rintro ⟨h | h, h2⟩
    · exact h
    · exact absurd h h2
  · intro h
    exact ⟨Or.inl h, fun e => hnp (e ▸ h)⟩
/-- landing at an and: what waits is 11 over something else -/
theorem lnd_a {L N : Gr} {c0 a0 cm m w g s' : Nat} {ty : Nat → Nat} {P PP : Nat → Prop} (hw : w < 240) (hcm : cm ≤ 250) (h15 : N.1 15 = zI g) (he : em L N c0 a0 cm m [] ty PP) (ht : ty cm = 100) (hp : pnd L N c0 a0 cm w 11 P PP g) (hw1 : 1 ≤ w) (htop : stE N (w - 1) s') (hs' : s' ≠ 11) : ∃ N', f_X12_lands N 0 = some N' ∧ em L N' c0 a0 cm m [] ty P ∧ N'.1 15 = zI w ∧ (∀ j, j ≠ 15 → N'.1 j = N.1 j) ∧ (∀ j, j ≠ 18 → N'.2 j = N.2 j) ∧ lnF a0 N N' := by
  have e11 : (11 : Int32) = zI ((11 : Nat) : Int) := rfl
  have stop : ∀ (N : Gr) (f : Nat), N.1 15 = zI w → stE N (w - 1) s' → f_X12_lands_n0 0 (f + 1) N = some N := fun N f h15 htop => by
    have hs14 := htop.1
    obtain ⟨w', rfl⟩ : ∃ k, w = k + 1 := ⟨w - 1, by omega⟩
    have ns : ¬ zI (s' : Int) = 11 := by rw [e11, eqN (by omega) (by omega)]; exact hs'
    rw [f_X12_lands_n0, wt_s (by omega) h15 htop, bd_s, if_neg ns, i00]
  rcases hp with ⟨rfl, rfl⟩ | ⟨k, rfl, k2, k3, k4, k5⟩
  · exact ⟨N, stop N 999 h15 htop, he, h15, fun _ _ => rfl, fun _ _ => rfl, lnF.rf a0 N⟩
  · have hkb := he.2.2.1 k (by rw [k4]; exact Or.inr rfl)
    have st : stE N w 11 := ⟨by omega, k, by omega, by omega, k2⟩
    have y : zI ((11 : Nat) : Int) = (11 : Int32) := rfl
    obtain ⟨N', a1, a2, a3, a4, a5, a6⟩ := lnd_1 (by omega) hcm (Or.inl rfl) h15 k2 he ht k3 k4 k5 0 (f_X12_lands_n0 0 999)
    refine ⟨N', ?_, a2, a3, a4, a5, a6⟩
    unfold f_X12_lands
    rw [fuS, f_X12_lands_n0, wt_s (by omega) h15 st, bd_s, if_pos y, a1]
    exact stop N' 998 a3 (htop.mv (by rw [a5 19 (by omega)]))
/-- landing at an or: 11 over 12 over a bracket -/
theorem lnd_o {L N : Gr} {c0 a0 cm m w g1 g : Nat} {ty : Nat → Nat} {P P1 PP : Nat → Prop} (hw : w < 240) (hcm : cm ≤ 250) (h15 : N.1 15 = zI g) (he : em L N c0 a0 cm m [] ty PP) (ht : ty cm = 100) (hp1 : pnd L N c0 a0 cm w 12 P P1 g1) (hp : pnd L N c0 a0 cm g1 11 P1 PP g) (hw1 : 1 ≤ w) (htop : stE N (w - 1) 13) : ∃ N', f_X12_lands N 1 = some N' ∧ em L N' c0 a0 cm m [] ty P ∧ N'.1 15 = zI w ∧ (∀ j, j ≠ 15 → N'.1 j = N.1 j) ∧ (∀ j, j ≠ 18 → N'.2 j = N.2 j) ∧ lnF a0 N N' := by
  have y11 : zI ((11 : Nat) : Int) = (11 : Int32) := rfl
  have y12 : zI ((12 : Nat) : Int) = (12 : Int32) := rfl
  -- the end: the bracket on top
  have stop : ∀ (N : Gr) (f : Nat), N.1 15 = zI w → stE N (w - 1) 13 → f_X12_lands_n0 1 (f + 1) N = some N := fun N f h15 htop => by
    obtain ⟨w', rfl⟩ : ∃ k, w = k + 1 := ⟨w - 1, by omega⟩
    have n1 : ¬ zI ((13 : Nat) : Int) = 11 := by decide
    have n2 : ¬ zI ((13 : Nat) : Int) = 12 := by decide
    rw [f_X12_lands_n0, wt_s (by omega) h15 htop, bd_s, if_neg n1, i10, bd_s, if_neg n2]
  -- a 12, or none
  have low : ∀ (N : Gr) (f : Nat), N.1 15 = zI g1 → em L N c0 a0 cm m [] ty P1 → pnd L N c0 a0 cm w 12 P P1 g1 → stE N (w - 1) 13 → ∃ N', f_X12_lands_n0 1 (f + 1 + 1) N = some N' ∧ em L N' c0 a0 cm m [] ty P ∧ N'.1 15 = zI w ∧ (∀ j, j ≠ 15 → N'.1 j = N.1 j) ∧ (∀ j, j ≠ 18 → N'.2 j = N.2 j) ∧ lnF a0 N N' := fun N f h15 he hp1 htop => by
    rcases hp1 with ⟨e1, e2⟩ | ⟨k, e1, k2, k3, k4, k5⟩
    · rw [e1] at h15
      rw [e2] at he
      exact ⟨N, stop N (f + 1) h15 htop, he, h15, fun _ _ => rfl, fun _ _ => rfl, lnF.rf a0 N⟩
    · rw [e1] at h15
      have hkb := he.2.2.1 k (by rw [k4]; exact Or.inr rfl)
      have st : stE N w 12 := ⟨by omega, k, by omega, by omega, k2⟩
      have n1 : ¬ zI ((12 : Nat) : Int) = 11 := by decide
      obtain ⟨N', a1, a2, a3, a4, a5, a6⟩ := lnd_1 (by omega) hcm (Or.inr rfl) h15 k2 he ht k3 k4 k5 1 (f_X12_lands_n0 1 (f + 1))
      refine ⟨N', ?_, a2, a3, a4, a5, a6⟩
      rw [f_X12_lands_n0, wt_s (by omega) h15 st, bd_s, if_neg n1, i10, bd_s, if_pos y12, a1]
      exact stop N' f a3 (htop.mv (by rw [a5 19 (by omega)]))
  have hg1 : g1 ≤ w + 1 := by
    rcases hp1 with ⟨e1, -⟩ | ⟨k, e1, -⟩ <;> omega
  rcases hp with ⟨rfl, rfl⟩ | ⟨k, rfl, k2, k3, k4, k5⟩
  · exact low N 998 h15 he hp1 htop
  · have hkb := he.2.2.1 k (by rw [k4]; exact Or.inr rfl)
    have st : stE N g1 11 := ⟨by omega, k, by omega, by omega, k2⟩
    obtain ⟨N', a1, a2, a3, a4, a5, a6⟩ := lnd_1 (by omega) hcm (Or.inl rfl) h15 k2 he ht k3 k4 k5 1 (f_X12_lands_n0 1 999)
    have hp1' : pnd L N' c0 a0 cm w 12 P P1 g1 := by
      unfold pnd
      rw [a5 19 (by omega)]; exact hp1
    obtain ⟨N2, b1, b2', b3, b4, b5, b6⟩ := low N' 997 a3 a2 hp1' (htop.mv (by rw [a5 19 (by omega)]))
    refine ⟨N2, ?_, b2', b3, fun j h => (b4 j h).trans (a4 j h), fun j h => (b5 j h).trans (a5 j h), a6.tr b6⟩
    unfold f_X12_lands
    rw [fuS, f_X12_lands_n0, wt_s (by omega) h15 st, bd_s, if_pos y11, a1]
    exact b1
/-- a jump is written on both sides -/
theorem jmp_b (hb : txB b n) {X L N : Gr} {i c0 a0 cm m w o s : Nat} {ty : Nat → Nat} {P : Nat → Prop} (hst : lst X L N b n i c0 a0 cm m [] ty P w o) (ht : ty cm = 100) (hlt : i < n) (hs : s = 11 ∨ s = 12) : ∃ N' ty', f_X12_jumps N (zI s) = some N' ∧ f_X3_writeSign L (zI (sgOf s)) = some (wrL L m (zI (sgOf s)) 0) ∧ f_X3_lastSign (wrL L m (zI (sgOf s)) 0) = some (zI ((c0 + (cm - a0) : Nat) : Int)) ∧ lst (sI X 2 (zI ((i + 1 : Nat) : Int))) (wrL L m (zI (sgOf s)) 0) N' b n (i + 1) c0 a0 (cm + 1) (m + 1) [] ty' (fun j => P j ∨ j = cm) (w + 1) o ∧ ty' (cm + 1) = 0 ∧ ¬ P cm ∧ N'.2 19 w = zI (1048576 * (s : Int) + cm) ∧ skF w N N' ∧ lnF a0 N N' ∧ lrF c0 L (wrL L m (zI (sgOf s)) 0) := by
  obtain ⟨h, he, h13, h15, hw, hm⟩ := hst
  have hn := hb.1
  have hi := h.1
  obtain ⟨⟨g1, g2, g3, g4, g5, g6⟩, -, g8, -⟩ := id he
  have g5 : m = c0 + (cm - a0) := g5
  have e : (1048576 : Int32) = zI 1048576 := rfl
  have ev : (1048576 : Int32) * zI s + zI cm = zI (1048576 * (s : Int) + cm) := by rw [e, zI_mul, zI_add]
  obtain ⟨N1, eN1⟩ : ∃ N1, N1 = sI (sA N 19 w (zI (1048576 * (s : Int) + cm))) 15 (zI ((w + 1 : Nat) : Int)) := ⟨_, rfl⟩
  have he1 : em L N1 c0 a0 cm m [] ty P := by rw [eN1]; exact he.nm rfl rfl
  have hnt : f_X12_notes N1 (zI s) 0 = some (ntN N1 cm (zI (1048576 * (s : Int) + 0))) := notes_e (by omega) he1.1.1 s 0
  have e9 : (ntN N1 cm (zI (1048576 * (s : Int) + 0))).1 9 = zI i := by rw [eN1]; exact h.2.2.1
  refine ⟨sI (ntN N1 cm (zI (1048576 * (s : Int) + 0))) 9 (zI ((i + 1 : Nat) : Int)), tyU ty (cm + 1) 0, ?_, wsign_e (by omega) g2 _, ?_, ⟨?_, (em_jp he1 hs ht).nm rfl rfl, ?_, ?_, by omega, by omega⟩, tyU_s _ _ _, fun hp => by have := g8 _ hp; omega, ?_, fun j hj => ?_, ?_, lrF.w L (by omega) _ _⟩
  · have e15 : (sA N 19 w (zI (1048576 * (s : Int) + cm))).1 15 = zI w := h15
    unfold f_X12_jumps
    rw [h15, ckN (by omega) (by omega), clN (by omega), g1, ev, lt_e, e15, zs1, lt_e, ← eN1, hnt, bd_s, e9, zs1, lt_e]
  · have e4 : (wrL L m (zI (sgOf s)) 0).1 4 = zI ((m + 1 : Nat) : Int) := sI_s _ _ _
    unfold f_X3_lastSign
    rw [e4, zp1, g5]
  · exact h.nx hlt (sI_s _ _ _) (by rw [eN1]; rfl) (by rw [eN1]; rfl)
  · rw [eN1]; exact h13
  · rw [eN1]; rfl
  · rw [sI_2]; unfold ntN; rw [sI_2, sA_o _ _ _ _ _ (by omega), eN1, sI_2, sA_s, if_pos rfl]
  · rw [sI_2]; unfold ntN; rw [sI_2, sA_o _ _ _ _ _ (by omega), eN1, sI_2, sA_s, if_neg (by omega)]
  · refine lnF.tr (B := N1) ?_ ((lnF.nt N1 g4 _).tr (lnF.i _ (by omega) _))
    rw [eN1]; exact (lnF.a19 _ _ _).tr (lnF.i _ (by omega) _)
/-- the class lands its jump, or there is none -/
theorem clj_b {L N : Gr} {c0 a0 cm m w s g : Nat} {ty : Nat → Nat} {P P1 PP : Nat → Prop} {jm : Int32} (hm : m ≤ 240) (he : em L N c0 a0 cm m [] ty PP) (hj : (g = w ∧ P1 = P ∧ jm = -1) ∨ ∃ k : Nat, g = w + 1 ∧ N.2 19 w = zI (1048576 * (s : Int) + k) ∧ ¬ P k ∧ P1 = (fun j => P j ∨ j = k) ∧ jm = zI ((c0 + (k - a0) : Nat) : Int)) (hsub : ∀ k, P1 k → PP k) : ∃ L', f_X3_landJump L jm = some L' ∧ em L' N c0 a0 cm m [] ty PP ∧ pnd L' N c0 a0 cm w s P P1 g ∧ lrF c0 L L' ∧ (∀ j, ¬ P1 j → a0 ≤ j → L'.2 6 (c0 + (j - a0)) = L.2 6 (c0 + (j - a0))) := by
  obtain ⟨⟨g1, g2, g3, g4, g5, g6⟩, -, g8, -⟩ := id he
  have g5 : m = c0 + (cm - a0) := g5
  unfold f_X3_landJump
  rcases hj with ⟨e1, e2, e3⟩ | ⟨k, e1, k2, k3, k4, k5⟩
  · have hc : ¬ ((0 : Int32) ≤ jm ∧ jm ≤ L.1 4 - 1) := fun h => by rw [e3] at h; exact absurd h.1 (by decide)
    rw [within_e, decide_eq_false hc, bd_s, b2_f, i00]
    exact ⟨L, rfl, he, Or.inl ⟨e1, e2⟩, lrF.rf c0 L, fun _ _ _ => rfl⟩
  · have hpk : PP k := hsub k (by rw [k4]; exact Or.inr rfl)
    have hkb := g8 k hpk
    have e0 : (0 : Int32) = zI 0 := rfl
    have e1' : (1 : Int32) = zI 1 := rfl
    have hc : ((0 : Int32) ≤ jm ∧ jm ≤ L.1 4 - 1) := by
      rw [k5, g2, e0, e1', zI_sub, zI_le (by omega) (by omega) (by omega) (by omega), zI_le (by omega) (by omega) (by omega) (by omega)]; omega
    rw [within_e, decide_eq_true hc, bd_s, b2_t, i10, k5, ckN (by omega) (by omega), clN (by omega), lt_e]
    refine ⟨_, rfl, em_cl he hpk _, Or.inr ⟨k, e1, k2, k3, k4, ?_⟩, ⟨fun _ _ => rfl, fun j _ h6 => sA_o _ _ _ _ _ h6, fun j hj => ?_⟩, fun j hj ha => ?_⟩
    · rw [sA_s, if_pos rfl, g2, g5]
    · rw [sA_o _ _ _ _ _ (by omega), sA_s, if_neg (by omega)]; exact ⟨rfl, rfl⟩
    · rw [sA_s, if_neg (fun e => hj (by rw [k4]; right; omega))]
end
