/-! a touch -/
def hrR (S L N : Gr) (w f : Int32) : Prop := dynR S N w f ∧ seaFix (S.2 2) (S.2 3) (S.2 7) w f (N.2 3) (N.2 4) ∧ (N.1 5 = w ∧ N.1 6 = f) ∧ lwR L N
theorem hF.s30 (N : Gr) (i : Nat) (x : Int32) : hF N (sA N 30 i x) := ⟨fun _ _ _ => rfl, fun j _ _ h => sA_o _ _ _ _ _ h⟩
theorem hF.s0 (N : Gr) (i : Nat) (x : Int32) : hF N (sA N 0 i x) := ⟨fun _ _ _ => rfl, fun j h _ _ => sA_o _ _ _ _ _ h⟩
theorem hF.i39 (N : Gr) (x : Int32) : hF N (sI N 39 x) := ⟨fun j h _ => sI_o _ _ _ _ h, fun _ _ _ _ => rfl⟩
theorem hF.i40 (N : Gr) (x : Int32) : hF N (sI N 40 x) := ⟨fun j _ h => sI_o _ _ _ _ h, fun _ _ _ _ => rfl⟩
theorem lG.s7 (L : Gr) (i : Nat) (x : Int32) : lG L (sA L 7 i x) := ⟨fun _ _ _ _ => rfl, fun j h _ => sA_o _ _ _ _ _ h⟩
def seeL (L : Gr) (p s t r h : Int32) : Gr := sA (sA (sA (sA (sA L 7 0 p) 7 2 s) 7 3 t) 7 6 r) 7 8 h
def seeF (L : Gr) (g d e c w : Int32) : Gr := sA (sA (sA (sA (sA L 7 1 g) 7 4 d) 7 5 e) 7 7 c) 7 9 w
theorem see1 (L : Gr) (a b c d e : Int32) : f_X3_seeWeb L a b c d e = some (seeL L a b c d e) := by
  have k0 : ∀ {β : Type} {q : Option β}, ck' 10 0 q = q := fun {β} {q} => ckN (m := 0) (by omega) (by omega)
  have k2 : ∀ {β : Type} {q : Option β}, ck' 10 2 q = q := fun {β} {q} => ckN (m := 2) (by omega) (by omega)
  have k3 : ∀ {β : Type} {q : Option β}, ck' 10 3 q = q := fun {β} {q} => ckN (m := 3) (by omega) (by omega)
  have k6 : ∀ {β : Type} {q : Option β}, ck' 10 6 q = q := fun {β} {q} => ckN (m := 6) (by omega) (by omega)
  have k8 : ∀ {β : Type} {q : Option β}, ck' 10 8 q = q := fun {β} {q} => ckN (m := 8) (by omega) (by omega)
  unfold f_X3_seeWeb
  rw [k0, lt_e, k2, lt_e, k3, lt_e, k6, lt_e, k8, lt_e]
  rfl
theorem see2 (L : Gr) (a b c d e : Int32) : f_X3_seeFleet L a b c d e = some (seeF L a b c d e) := by
  have k1 : ∀ {β : Type} {q : Option β}, ck' 10 1 q = q := fun {β} {q} => ckN (m := 1) (by omega) (by omega)
  have k4 : ∀ {β : Type} {q : Option β}, ck' 10 4 q = q := fun {β} {q} => ckN (m := 4) (by omega) (by omega)
  have k5 : ∀ {β : Type} {q : Option β}, ck' 10 5 q = q := fun {β} {q} => ckN (m := 5) (by omega) (by omega)
  have k7 : ∀ {β : Type} {q : Option β}, ck' 10 7 q = q := fun {β} {q} => ckN (m := 7) (by omega) (by omega)
  have k9 : ∀ {β : Type} {q : Option β}, ck' 10 9 q = q := fun {β} {q} => ckN (m := 9) (by omega) (by omega)
  unfold f_X3_seeFleet
  rw [k1, lt_e, k4, lt_e, k5, lt_e, k7, lt_e, k9, lt_e]
  rfl
theorem seeL_G (L : Gr) (a b c d e : Int32) : lG L (seeL L a b c d e) := (lG.s7 L 0 a).tr ((lG.s7 _ 2 b).tr ((lG.s7 _ 3 c).tr ((lG.s7 _ 6 d).tr (lG.s7 _ 8 e))))
theorem seeF_G (L : Gr) (a b c d e : Int32) : lG L (seeF L a b c d e) := (lG.s7 L 1 a).tr ((lG.s7 _ 4 b).tr ((lG.s7 _ 5 c).tr ((lG.s7 _ 7 d).tr (lG.s7 _ 9 e))))
def set6 (N : Gr) (p g s t : Int32) : Gr := sA (sA (sA (sA (sA (sA N 30 0 p) 30 1 g) 30 2 s) 30 3 t) 30 4 0) 30 5 0
def setN (N : Gr) (p g s t r h : Int32) : Gr := sA (sA (sA (sA (set6 N p g s t) 30 6 r) 30 7 8) 30 8 h) 30 9 0
theorem setN_F (N : Gr) (p g s t r h : Int32) : hF N (setN N p g s t r h) := (hF.s30 N 0 p).tr ((hF.s30 _ 1 g).tr ((hF.s30 _ 2 s).tr ((hF.s30 _ 3 t).tr ((hF.s30 _ 4 0).tr ((hF.s30 _ 5 0).tr ((hF.s30 _ 6 r).tr ((hF.s30 _ 7 8).tr ((hF.s30 _ 8 h).tr (hF.s30 _ 9 0)))))))))
theorem rd80 {β : Type} {g : Nat → Int32} {q : Int32 → Option β} : rd' g 82 80 q = q (g 80) := rdN (m := 80) (by omega) (by omega)
theorem rd81 {β : Type} {g : Nat → Int32} {q : Int32 → Option β} : rd' g 82 81 q = q (g 81) := rdN (m := 81) (by omega) (by omega)
theorem sets_e {N : Gr} {p s : Nat} {g t r q : Int32} (hp : p < 8) (hs : s < 8) (ht : N.2 0 (8 * p + s) = t) (hq : f_X12_slackOf (set6 N (zI p) g (zI s) t) (zI p) = some q) (hb : f_X12_bits q = some r) : f_X12_sets N (zI p) g (zI s) = some (setN N (zI p) g (zI s) t r (N.2 0 80 - N.2 0 80 / 24 * 24)) := by
  have k0 : ∀ {β : Type} {q : Option β}, ck' 10 0 q = q := fun {β} {q} => ckN (m := 0) (by omega) (by omega)
  have k1 : ∀ {β : Type} {q : Option β}, ck' 10 1 q = q := fun {β} {q} => ckN (m := 1) (by omega) (by omega)
  have k2 : ∀ {β : Type} {q : Option β}, ck' 10 2 q = q := fun {β} {q} => ckN (m := 2) (by omega) (by omega)
  have k3 : ∀ {β : Type} {q : Option β}, ck' 10 3 q = q := fun {β} {q} => ckN (m := 3) (by omega) (by omega)
  have k4 : ∀ {β : Type} {q : Option β}, ck' 10 4 q = q := fun {β} {q} => ckN (m := 4) (by omega) (by omega)
  have k5 : ∀ {β : Type} {q : Option β}, ck' 10 5 q = q := fun {β} {q} => ckN (m := 5) (by omega) (by omega)
  have k6 : ∀ {β : Type} {q : Option β}, ck' 10 6 q = q := fun {β} {q} => ckN (m := 6) (by omega) (by omega)
  have k7 : ∀ {β : Type} {q : Option β}, ck' 10 7 q = q := fun {β} {q} => ckN (m := 7) (by omega) (by omega)
  have k8 : ∀ {β : Type} {q : Option β}, ck' 10 8 q = q := fun {β} {q} => ckN (m := 8) (by omega) (by omega)
  have k9 : ∀ {β : Type} {q : Option β}, ck' 10 9 q = q := fun {β} {q} => ckN (m := 9) (by omega) (by omega)
  unfold f_X12_sets
  rw [k0, lt_e, k1, lt_e, k2, lt_e, ix8m, rdN (by omega) (by omega)]
  have h1 : (sA (sA (sA N 30 (Int32.toNatClampNeg 0) (zI p)) 30 (Int32.toNatClampNeg 1) g) 30 (Int32.toNatClampNeg 2) (zI s)).2 0 (8 * p + s) = t := ht
  rw [h1, k3, lt_e, k4, lt_e, k5, lt_e]
  have hq' : f_X12_slackOf (sA (sA (sA (sA (sA (sA N 30 (Int32.toNatClampNeg 0) (zI p)) 30 (Int32.toNatClampNeg 1) g) 30 (Int32.toNatClampNeg 2) (zI s)) 30 (Int32.toNatClampNeg 3) t) 30 (Int32.toNatClampNeg 4) 0) 30 (Int32.toNatClampNeg 5) 0) (zI p) = some q := hq
  rw [hq', bd_s, hb, bd_s, k6, lt_e, k7, lt_e, rd80, lt_e, k8, lt_e, k9, lt_e]
  rfl
theorem lot_z {d : Int} (h1 : 0 ≤ d) (h2 : d < 65536) : ∃ d' : Int, 0 ≤ d' ∧ d' < 65536 ∧ ((25173 * zI d) + 13849) - ((25173 * zI d) + 13849) / 65536 * 65536 = zI d' := by
  have e1 : (25173 : Int32) = zI 25173 := rfl
  have e2 : (13849 : Int32) = zI 13849 := rfl
  have e3 : (65536 : Int32) = nI 65536 := rfl
  have e4 : (65536 : Int32) = zI 65536 := rfl
  obtain ⟨n, hn⟩ : ∃ n : Nat, 25173 * d + 13849 = n := ⟨(25173 * d + 13849).toNat, by omega⟩
  have hd : zI (n : Int) / 65536 = zI ((n / 65536 : Nat) : Int) := by rw [← zI_nI, e3, pk_div (by omega) (by omega) (by omega), zI_nI]
  refine ⟨((n % 65536 : Nat) : Int), by omega, by omega, ?_⟩
  rw [e1, e2, zI_mul, zI_add, hn, hd, e4, zI_mul, zI_sub]; congr 1; omega
theorem dyn_lot {w f h d : Int32} {te fx fy co : Nat → Int32} {w' f' : Int32} {now : Nat → Int32} (H : seaDyn w f h d te fx fy co w' f' now) {a : Int} (h1 : 0 ≤ a) (h2 : a < 65536) : seaDyn w f h (zI a) te fx fy co w' f' (upd now 81 (zI a)) := by
  obtain ⟨a1, a2, a3, a4, a5, a6, a7, a8⟩ := H
  refine ⟨a1, a2, a3, a4, ?_, ⟨a, h1, h2, rfl, by rw [upd_e, if_pos rfl]⟩, fun p hp ht s hs => ?_, fun g hg ht => ?_⟩
  · rw [upd_e, if_neg (by omega)]; exact a5
  · rw [upd_e, if_neg (by omega)]; exact a7 p hp ht s hs
  · rw [upd_e, if_neg (by omega), upd_e, if_neg (by omega)]; exact a8 g hg ht
theorem dyn_hour {w f d : Int32} {te fx fy co : Nat → Int32} {w' f' : Int32} {now : Nat → Int32} {a : Int} (h1 : 0 ≤ a) (h2 : a < 9999) (H : seaDyn w f (zI a) d te fx fy co w' f' now) : seaDyn w f (zI a + 1) d te fx fy co w' f' (upd now 80 (now 80 + 1)) := by
  obtain ⟨a1, a2, a3, a4, ⟨q, q1, q2, q3, q4⟩, a6, a7, a8⟩ := H
  have e1 : (1 : Int32) = zI 1 := rfl
  have eq : q = a := ((zI_eq (by omega) (by omega) (by omega) (by omega)).mp q3).symm
  subst eq
  refine ⟨a1, a2, a3, a4, ⟨q + 1, by omega, by omega, by rw [e1, zI_add], by rw [upd_e, if_pos rfl, q4, e1, zI_add]⟩, ?_, fun p hp ht s hs => ?_, fun g hg ht => ?_⟩
  · rw [upd_e, if_neg (by omega)]; exact a6
  · rw [upd_e, if_neg (by omega)]; exact a7 p hp ht s hs
  · rw [upd_e, if_neg (by omega), upd_e, if_neg (by omega)]; exact a8 g hg ht
theorem ten_c {P : Nat → Prop} (h0 : P 0) (h1 : P 1) (h2 : P 2) (h3 : P 3) (h4 : P 4) (h5 : P 5) (h6 : P 6) (h7 : P 7) (h8 : P 8) (h9 : P 9) : ∀ j, j < 10 → P j := fun j hj => by
  have : j = 0 ∨ j = 1 ∨ j = 2 ∨ j = 3 ∨ j = 4 ∨ j = 5 ∨ j = 6 ∨ j = 7 ∨ j = 8 ∨ j = 9 := by omega
  rcases this with rfl | rfl | rfl | rfl | rfl | rfl | rfl | rfl | rfl | rfl <;> assumption
theorem fac_b (L N : Gr) (p g s t r h d e c u : Int32) : ∀ j, j < 10 → (seeF (seeL L p s t r h) g d e c u).2 7 j = (sA (sA (sA (sA (setN N p g s t r h) 30 4 d) 30 5 e) 30 7 c) 30 9 u).2 30 j :=
  ten_c rfl rfl rfl rfl rfl rfl rfl rfl rfl rfl
theorem touch_b {S L N : Gr} {w f : Int32} {p g : Nat} (hr : hrR S L N w f) (hp : p < 8) (hg : g < 8) (tp : tw w p) (tg : tw f g) {x y a b v : Int} (hwf : wfOK S N p g x y a b v) (hfelt : 0 < v - dz a b x y) {s : Nat} (hs : s < 8) (es : spz (a - x) (b - y) = zI s) : ∃ (t : Bool) (S' L' N' : Gr), f_X7_touch S L (zI p) (zI g) (zI s) = some (b2 t, S', L') ∧ f_X12_touches N (zI p) (zI g) = some N' ∧ hrR S' L' N' w f ∧ hF N N' ∧ S'.1 9 = S.1 9 ∧ N'.1 39 = (if t = true then N.1 39 + 1 else N.1 39) ∧ N'.1 40 = (if t = true then N.1 40 ||| (1 <<< (zI s &&& 31)) else N.1 40) := by
  obtain ⟨H, F, ⟨n5, n6⟩, W⟩ := hr
  obtain ⟨-, -, -, -, -, ⟨dd, d1, d2, d3, d4⟩, -, -⟩ := id H
  obtain ⟨d', d5, d6, d7⟩ := lot_z d1 d2
  obtain ⟨S2, eS2⟩ : ∃ S2, S2 = sI S 10 (zI d') := ⟨_, rfl⟩
  obtain ⟨N2, eN2⟩ : ∃ N2, N2 = sA N 0 81 (zI d') := ⟨_, rfl⟩
  have H2 : dynR S2 N2 w f := by rw [eS2, eN2]; exact dyn_lot H d5 d6
  obtain ⟨b1, b2', b3, b4, ⟨hh, c1, c2, c3, c4⟩, ⟨d8, d9, d10, d11, d12⟩, b7, b8⟩ := id H2
  obtain ⟨tv, t1, t2, t3, t4⟩ := b7 p hp tp s hs
  obtain ⟨ax, ay, c, g1, g2, g3, g4, g5, g6, g7, g8, g9, g10, g11⟩ := b8 g hg tg
  have hwf2 : wfOK S2 N2 p g x y a b v := by
    rw [eS2, eN2]
    obtain ⟨w1, w2, w3, w4, w5, w6, w7, w8, w9, w10, w11⟩ := hwf
    refine ⟨w1, w2, w3, w4, w5, w6, w7, w8, ?_, w10, w11⟩
    rw [sA_s, if_neg (by omega)]; exact w9
  have hdz := dz_b hwf.2.1 hwf.1
  have hv := hwf.2.2.1
  obtain ⟨f1, f2, f3, f4⟩ := felt_b hp hg hwf2
  obtain ⟨r, q, k1, k2, k3⟩ := slackN_b (S := S2) (M := set6 N2 (zI p) (zI g) (zI s) (zI tv)) hp (by rw [b1]; exact (tb_z hp).mpr tp) (dyn_te H2 hp tp)
  have hsets := sets_e (g := zI g) hp hs t4 k2 k3
  have ew0 : S2.1 9 = S.1 9 := by rw [eS2, sI_o _ _ _ _ (by omega)]
  have e10 : S2.1 10 = zI d' := by rw [eS2, sI_s]
  have e81 : N2.2 0 81 = zI d' := by rw [eN2, sA_s, if_pos rfl]
  obtain ⟨LL, eLL⟩ : ∃ LL, LL = seeF (seeL L (zI p) (zI s) (zI tv) r (zI hh - zI hh / 24 * 24)) (zI g) (zI (dz a b x y)) (zI (v - dz a b x y)) (zI c) (zI d' - zI d' / 10 * 10) := ⟨_, rfl⟩
  obtain ⟨NN, eNN⟩ : ∃ NN, NN = sA (sA (sA (sA (setN N2 (zI p) (zI g) (zI s) (zI tv) r (zI hh - zI hh / 24 * 24)) 30 4 (zI (dz a b x y))) 30 5 (zI (v - dz a b x y))) 30 7 (zI c)) 30 9 (zI d' - zI d' / 10 * 10) := ⟨_, rfl⟩
  have hfac : ∀ j, j < 10 → LL.2 7 j = NN.2 30 j := by rw [eLL, eNN]; exact fac_b _ _ _ _ _ _ _ _ _ _ _ _
  have hLG : lG L LL := by rw [eLL]; exact (seeL_G _ _ _ _ _ _).tr (seeF_G _ _ _ _ _ _)
  have hNF2 : hF N2 NN := by rw [eNN]; exact (setN_F _ _ _ _ _ _ _).tr ((hF.s30 _ _ _).tr ((hF.s30 _ _ _).tr ((hF.s30 _ _ _).tr (hF.s30 _ _ _))))
  have hNF : hF N NN := by
    refine hF.tr (B := N2) ?_ hNF2
    rw [eN2]; exact hF.s0 _ _ _
  have hNN0 : NN.2 0 = N2.2 0 := by rw [eNN]; rfl
  have hNN1 : NN.1 = N.1 := by rw [eNN, eN2]; rfl
  have hW : lwR LL NN := W.mv hLG hNF
  -- class
  have hc : f_X7_touch S L (zI p) (zI g) (zI s) = (if zI tv = 0 then (some (0, S2, LL)) else ((f_X3_firstRule LL 120).bind fun u15 => if u15.1 = (-1) then ((f_X3_firstRule u15.2 116).bind fun u18 => (f_X3_worthOf u18.2 u18.1).bind fun u19 => some (1, sA S2 4 (8 * p + s) (mx' 0 (zI tv - u19.1)), u19.2)) else (some (0, S2, u15.2)))) := by
    unfold f_X7_touch
    rw [d3, d7, lt_e, ← eS2, lt_e, ix8, lt_e, rdN (by omega) (by omega), t3, k1, bd_s, c3, lt_e, see1, bd_s, f3, bd_s, f1, bd_s, rdN hg (by omega), g10, e10, lt_e, see2, bd_s, ← eLL]
    simp only [rdN (f := S2.2 4) (N := 64) (m := 8 * p + s) (by omega) (by omega), t3, ckN (N := 64) (m := 8 * p + s) (by omega) (by omega), clN (m := 8 * p + s) (by omega), lt_e]
  -- reference
  have hm : f_X12_touches N (zI p) (zI g) = ((f_X12_holdsAny NN 120).bind fun u24 => if u24.1 = 0 then (rd' (u24.2.2 0) 82 (zI ((8 * p + s : Nat) : Int)) fun v26 => if v26 = 0 then (some u24.2) else (rd' (u24.2.2 0) 82 (zI ((8 * p + s : Nat) : Int)) fun v28 => (f_X12_byLaw u24.2 116).bind fun u29 => (f_X12_max 0 (v28 - u29.1)).bind fun u30 => ck' 82 (zI ((8 * p + s : Nat) : Int)) (lt' (sA u29.2 0 (Int32.toNatClampNeg (zI ((8 * p + s : Nat) : Int))) u30) fun S0_31 => lt' (sI S0_31 40 ((S0_31.1 40) ||| (1 <<< (zI s &&& 31)))) fun S0_32 => lt' (sI S0_32 39 ((S0_32.1 39) + 1)) fun S0_33 => some S0_33))) else (some u24.2)) := by
    obtain ⟨w1, w2, w3, w4, w5, w6, w7, w8, w9, w10, w11⟩ := hwf
    have k4 : ∀ {β : Type} {q : Option β}, ck' 10 4 q = q := fun {β} {q} => ckN (m := 4) (by omega) (by omega)
    have k5 : ∀ {β : Type} {q : Option β}, ck' 10 5 q = q := fun {β} {q} => ckN (m := 5) (by omega) (by omega)
    have k7 : ∀ {β : Type} {q : Option β}, ck' 10 7 q = q := fun {β} {q} => ckN (m := 7) (by omega) (by omega)
    have k9 : ∀ {β : Type} {q : Option β}, ck' 10 9 q = q := fun {β} {q} => ckN (m := 9) (by omega) (by omega)
    have k81 : ∀ {β : Type} {q : Option β}, ck' 82 81 q = q := fun {β} {q} => ckN (m := 81) (by omega) (by omega)
    have cl81 : Int32.toNatClampNeg 81 = 81 := rfl
    have cl4 : Int32.toNatClampNeg 4 = 4 := rfl
    have cl5 : Int32.toNatClampNeg 5 = 5 := rfl
    have cl7 : Int32.toNatClampNeg 7 = 7 := rfl
    have cl9 : Int32.toNatClampNeg 9 = 9 := rfl
    have hlt : zI (dz x y a b) < zI v := by
      rw [dz_c x y a b, zI_lt (by omega) (by omega) (by omega) (by omega)]; omega
    have n149 : ∀ z : Int32, f_X12_touches_n149 (zI p) (zI g) (sA (sA (setN N2 (zI p) (zI g) (zI s) (zI tv) r (zI hh - zI hh / 24 * 24)) 30 4 (zI (dz a b x y))) 30 5 (zI (v - dz a b x y))) (zI s) z (zI c) 7 = ((f_X12_holdsAny NN 120).bind fun u24 => if u24.1 = 0 then (rd' (u24.2.2 0) 82 z fun v26 => if v26 = 0 then (some u24.2) else (rd' (u24.2.2 0) 82 z fun v28 => (f_X12_byLaw u24.2 116).bind fun u29 => (f_X12_max 0 (v28 - u29.1)).bind fun u30 => ck' 82 z (lt' (sA u29.2 0 (Int32.toNatClampNeg z) u30) fun S0_31 => lt' (sI S0_31 40 ((S0_31.1 40) ||| (1 <<< (zI s &&& 31)))) fun S0_32 => lt' (sI S0_32 39 ((S0_32.1 39) + 1)) fun S0_33 => some S0_33))) else (some u24.2)) := fun z => by
      have h81 : (sA (sA (sA (setN N2 (zI p) (zI g) (zI s) (zI tv) r (zI hh - zI hh / 24 * 24)) 30 4 (zI (dz a b x y))) 30 5 (zI (v - dz a b x y))) 30 7 (zI c)).2 0 81 = zI d' := e81
      unfold f_X12_touches_n149
      rw [k7, cl7, lt_e, rd81, h81, lt_e, k9, cl9, lt_e, ← eNN]
    unfold f_X12_touches
    rw [rdN hp (by omega), ix64, rdN (by omega) (by omega), w6, w9, dist_m w1 w2, bd_s, rdN hg (by omega), w11, if_pos hlt]
    rw [rdN hp (by omega), rdN (by omega) (by omega), w6, w9, sp_m w1 w2, bd_s, es, ix8m, lt_e, rd81, d4, d7, lt_e, k81, cl81, lt_e, ← eN2, hsets, bd_s, c4, dz_c x y a b, k4, cl4, lt_e]
    have hfo : (sA (setN N2 (zI p) (zI g) (zI s) (zI tv) r (zI hh - zI hh / 24 * 24)) 30 4 (zI (dz a b x y))).2 4 g = zI v := by
      have e : N2.2 4 g = zI v := by rw [eN2, sA_o _ _ _ _ _ (by omega)]; exact w11
      exact e
    rw [rdN hg (by omega), hfo, zI_sub, k5, cl5, lt_e, ix72, rdN (by omega) (by omega)]
    have hco : (sA (sA (setN N2 (zI p) (zI g) (zI s) (zI tv) r (zI hh - zI hh / 24 * 24)) 30 4 (zI (dz a b x y))) 30 5 (zI (v - dz a b x y))).2 0 (72 + g) = zI (if c = 8 then -1 else c) := g11
    rw [hco]
    by_cases hc8 : c = 8
    · rw [if_pos hc8]
      have e8 : (8 : Int32) = zI c := by rw [hc8]; rfl
      rw [if_pos (show zI (-1) = (-1 : Int32) from rfl), e8, n149]
    · rw [if_neg hc8, rdN (by omega) (by omega), hco, if_neg hc8]
      have em : (-1 : Int32) = zI (-1) := rfl
      rw [if_neg (by rw [em, zI_eq (by omega) (by omega) (by omega) (by omega)]; omega), n149]
  rw [hc, hm]
  obtain ⟨r1, L1, N3, tt, m1, m2, m3, m4, m5⟩ := any_b hW hfac
  rw [m2, bd_s]
  have hN3 : N3.2 0 = N2.2 0 := (m4.2 0 (by omega)).trans hNN0
  have hF3 : hF N N3 := hNF.tr (hF.of m4)
  have fixS : ∀ (A B : Gr), A.2 2 = S.2 2 → A.2 3 = S.2 3 → A.2 7 = S.2 7 → hF N B → seaFix (A.2 2) (A.2 3) (A.2 7) w f (B.2 3) (B.2 4) := fun A B h1 h2 h3 h4 => by
    rw [h1, h2, h3, h4.2 3 (by omega) (by omega) (by omega), h4.2 4 (by omega) (by omega) (by omega)]; exact F
  have no : ∀ (B : Gr), hF N B → B.1 5 = w ∧ B.1 6 = f := fun B h => ⟨(h.1 5 (by omega) (by omega)).trans n5, (h.1 6 (by omega) (by omega)).trans n6⟩
  have hr3 : ∀ L', lG L L' → hrR S2 L' N3 w f := fun L' hL' => by
    refine ⟨?_, fixS S2 N3 (by rw [eS2]; rfl) (by rw [eS2]; rfl) (by rw [eS2]; rfl) hF3, no N3 hF3, W.mv hL' hF3⟩
    unfold dynR; rw [hN3]; exact H2
  have nb39 : N3.1 39 = N.1 39 := by rw [m4.1, hNN1]
  have nb40 : N3.1 40 = N.1 40 := by rw [m4.1, hNN1]
  have e0 : (0 : Int32) = zI 0 := rfl
  rw [rdN (by omega) (by omega), hN3, t4]
  by_cases htv : zI tv = 0
  · rw [if_pos htv, if_pos htv]
    refine ⟨false, S2, LL, N3, rfl, ?_, hr3 LL hLG, hF3, ew0, nb39, nb40⟩
    cases tt with
    | false => rw [b2_f, i00]
    | true => rw [b2_t, i10]
  · rw [if_neg htv, if_neg htv, m1, bd_s]
    cases tt with
    | true =>
      have nr : ¬ r1 = -1 := fun h => by have := m5.mpr h; cases this
      rw [if_neg nr, b2_t, i10]
      exact ⟨false, S2, L1, N3, rfl, rfl, hr3 L1 (hLG.tr (lG.of m3)), hF3, ew0, nb39, nb40⟩
    | false =>
      have nr : r1 = -1 := m5.mp rfl
      rw [if_pos nr, b2_f, i00]
      obtain ⟨r2, L2, wv, L3, N4, p1, p2, p3, p4, p5, p6, p7⟩ := by_b (L := L1) (S := N3) (K := 116) (Or.inl rfl) (hW.mv (lG.of m3) (hF.of m4)) (fun j hj => by rw [m3.2 7 (by omega), m4.2 30 (by omega)]; exact hfac j hj)
      have p1 : f_X3_firstRule L1 116 = some (r2, L2) := p1
      have p3 : f_X12_byLaw N3 116 = some (zI wv, N4) := p3
      rw [p1, bd_s, p2, bd_s, rdN (by omega) (by omega), t4]
      dsimp only
      rw [p3, bd_s]
      dsimp only
      rw [zI_sub, e0, mx_z (by omega) (by omega) (by omega) (by omega), max_z (by omega) (by omega) (by omega) (by omega), bd_s, ckN (by omega) (by omega), clN (by omega), lt_e, lt_e, lt_e]
      have hF4 : hF N N4 := hF3.tr (hF.of p7)
      have hFe : hF N (sI (sI (sA N4 0 (8 * p + s) (zI (max 0 (tv - wv)))) 40 ((sA N4 0 (8 * p + s) (zI (max 0 (tv - wv)))).1 40 ||| (1 <<< (zI s &&& 31)))) 39 ((sI (sA N4 0 (8 * p + s) (zI (max 0 (tv - wv)))) 40 ((sA N4 0 (8 * p + s) (zI (max 0 (tv - wv)))).1 40 ||| (1 <<< (zI s &&& 31)))).1 39 + 1)) := hF4.tr ((hF.s0 _ _ _).tr ((hF.i40 _ _).tr (hF.i39 _ _)))
      refine ⟨true, sA S2 4 (8 * p + s) (zI (max 0 (tv - wv))), L3, _, rfl, rfl, ⟨?_, fixS _ _ (by rw [eS2]; rfl) (by rw [eS2]; rfl) (by rw [eS2]; rfl) hFe, no _ hFe, W.mv (hLG.tr ((lG.of m3).tr (lG.of p6))) hFe⟩, hFe, ew0, ?_, ?_⟩
      · have hd := dyn_upd H2 (i := 8 * p + s) (by omega) (t := max 0 (tv - wv)) (by omega) (by omega)
        have h40 : N4.2 0 = N2.2 0 := (p7.2 0 (by omega)).trans hN3
        show seaDyn (S2.1 0) (S2.1 1) (S2.1 9) (S2.1 10) (upd (S2.2 4) (8 * p + s) (zI (max 0 (tv - wv)))) (S2.2 5) (S2.2 6) (S2.2 8) w f (upd (N4.2 0) (8 * p + s) (zI (max 0 (tv - wv))))
        rw [h40]; exact hd
      · rw [sI_s, sI_o _ _ _ _ (by omega), if_pos rfl]
        show N4.1 39 + 1 = N.1 39 + 1
        rw [p7.1, nb39]
      · rw [sI_o _ _ _ _ (by omega), sI_s, if_pos rfl]
        show N4.1 40 ||| (1 <<< (zI s &&& 31)) = N.1 40 ||| (1 <<< (zI s &&& 31))
        rw [p7.1, nb40]
