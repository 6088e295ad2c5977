def Cini : Nat → Gr := fun i => if i = 13 then sI g0 10 1 else if i = 14 then sI g0 10 1 else if i = 15 then sI g0 10 1 else g0
def Mini : Gr := sA g0 0 81 1
set_option maxHeartbeats 4000000 in
set_option maxRecDepth 100000 in
theorem whole_open {p : Program} {e : Env} {s : State} {m : MethodId} {below : List Frame} {meth : Method} {c : Code} (l : Launch) {b L : Nat} {xs : Nat → Int32} (hL : L ≤ 3072) (C0 : lw_At p s m meth c b L xs) {I : (Nat → Gr) → Gr → Prop} (PK : PureOK I) (hI0 : I Cini Mini) : W p l e room_1 s m #[Value.ref b] below meth c s.heap [] 0 0 (lw_Z below #[Value.ref b] s) (entryFrame m ([Value.ref b] : List Value).toArray 4) := by
  obtain ⟨hx, hb, hr, hml, hown, hts, hX, hbl, hlocks, hgv⟩ := id C0
  have hg : ∀ w ∈ gtbl, w.before #[Value.ref b] s = true := fun w h => hts w (gtbl_tbl h)
  obtain ⟨c0, iS0, hKn0⟩ := u_known (C := RX0) (T := TX0) (N := 1) (n := 1) hg in_X0 (hg _ wins_X0)
  obtain ⟨c1, iS1, hKn1⟩ := u_known (C := RX2) (T := TX2) (N := 6) (n := 6) hg in_X2 (hg _ wins_X2)
  obtain ⟨c2, iS2, hKn2⟩ := u_known (C := RX3) (T := TX3) (N := 12) (n := 12) hg in_X3 (hg _ wins_X3)
  obtain ⟨c3, iS3, hKn3⟩ := u_known (C := RX4) (T := TX4) (N := 1) (n := 1) hg in_X4 (hg _ wins_X4)
  obtain ⟨c4, iS4, hKn4⟩ := u_known (C := RX5) (T := TX5) (N := 3) (n := 3) hg in_X5 (hg _ wins_X5)
  obtain ⟨c5, iS5, hKn5⟩ := u_known (C := RX6) (T := TX6) (N := 3) (n := 3) hg in_X6 (hg _ wins_X6)
  obtain ⟨c6, iS6, hKn6⟩ := u_known (C := RX7) (T := TX7) (N := 11) (n := 11) hg in_X7 (hg _ wins_X7)
  obtain ⟨c7, iS7, hKn7⟩ := u_known (C := RX8) (T := TX8) (N := 2) (n := 2) hg in_X8 (hg _ wins_X8)
  obtain ⟨c8, iS8, hKn8⟩ := u_known (C := RX9) (T := TX9) (N := 4) (n := 4) hg in_X9 (hg _ wins_X9)
  obtain ⟨c9, iS9, hKn9⟩ := u_known (C := RX10) (T := TX10) (N := 3) (n := 3) hg in_X10 (hg _ wins_X10)
  obtain ⟨c10, iS10, hKn10⟩ := u_known (C := RX11) (T := TX11) (N := 13) (n := 13) hg in_X11 (hg _ wins_X11)
  obtain ⟨c11, iS11, hKn11⟩ := u_known (C := RX12) (T := TX12) (N := 57) (n := 57) hg in_X12 (hg _ wins_X12)
  obtain ⟨cyI, haI, hnI⟩ := ac_of (hg _ war_int)
  obtain ⟨cyZ, haZ, hnZ⟩ := ac_of (hg _ war_boolean)
  obtain ⟨cyB, haB, hnB⟩ := ac_of (hg _ war_byte)
  obtain ⟨tA, hzA, htA⟩ := st_A hts hgv
  obtain ⟨tB, hzB, htB⟩ := st_B hts hgv
  obtain ⟨tL, hzL, htL⟩ := st_L hts hgv
  obtain ⟨E, eE⟩ : ∃ E : Ec, E = (((fun k => if k = 0 then c0 else if k = 1 then c1 else if k = 2 then c2 else if k = 3 then c3 else if k = 4 then c4 else if k = 5 then c5 else if k = 6 then c6 else if k = 7 then c7 else if k = 8 then c8 else if k = 9 then c9 else if k = 10 then c10 else c11), (fun k => if k = 0 then iS0 else if k = 1 then iS1 else if k = 2 then iS2 else if k = 3 then iS3 else if k = 4 then iS4 else if k = 5 then iS5 else if k = 6 then iS6 else if k = 7 then iS7 else if k = 8 then iS8 else if k = 9 then iS9 else if k = 10 then iS10 else iS11)), (cyI, cyZ, cyB), (tA, tB, tL)) := ⟨_, rfl⟩
  have hK : va_K E.1 vwCl (tys E) s := by
    subst eE
    refine ⟨fun k q hq => ?_, fun k q hq => ?_⟩
    · match k, hq with
      | 0, hq => cases hq; exact hKn0
      | 1, hq => cases hq; exact hKn1
      | 2, hq => cases hq; exact hKn2
      | 3, hq => cases hq; exact hKn3
      | 4, hq => cases hq; exact hKn4
      | 5, hq => cases hq; exact hKn5
      | 6, hq => cases hq; exact hKn6
      | 7, hq => cases hq; exact hKn7
      | 8, hq => cases hq; exact hKn8
      | 9, hq => cases hq; exact hKn9
      | 10, hq => cases hq; exact hKn10
      | 11, hq => cases hq; exact hKn11
      | k + 12, hq => simp [vwCl] at hq
    · match k, hq with
      | 0, hq => cases hq; exact ⟨haI, hnI⟩
      | 1, hq => cases hq; exact ⟨haZ, hnZ⟩
      | 2, hq => cases hq; exact ⟨haB, hnB⟩
      | k + 3, hq => simp [tys] at hq
  have X : ctX E (fun q : Nat => s.heap.size ≤ q) s := ⟨hK, nw_of hts, by subst eE; exact ⟨⟨hzA, htA⟩, ⟨hzB, htB⟩, ⟨hzL, htL⟩⟩, fun _ h => h⟩
  clear eE hK hKn0 hKn1 hKn2 hKn3 hKn4 hKn5 hKn6 hKn7 hKn8 hKn9 hKn10 hKn11
  have hS : va_S (fun q : Nat => s.heap.size ≤ q) s.heap s.heap [] := va_S.rf
  have hP : va_P E.1 vwCl [] s.heap := ct_nilP
  have hD : va_D (fun q : Nat => s.heap.size ≤ q) [] := ct_nilD
  have hl := lv_entry ([.ref b]) (n := 4) (Nat.le_of_ble_eq_true rfl)
  rw [lg_entry_eq]
  generalize (lg_sl ([.ref b]) ++ List.replicate (4 - (lg_sl ([.ref b])).length) Slot.unset).toArray = ls at hl ⊢
  have hl : lv_has ls 4 [(0, .ref b)] := hl
  refine va_new (ci := 10) (fs := [.null, .null, .null, .null, .null, .null, .null, .null, .null, .null, .null, .null, .int 0]) (C := RX11) (T := TX11) (N := 13) hx hb hg in_X11 tyX11 tyX11_ok hown (hg _ wcl_L_7) (hg _ wins_X11) (hg _ wini_X11) X.1 hP hD hS X.2.2.2 rfl (fun j hj => by rcases (show j = 0 ∨ j = 1 ∨ j = 2 ∨ j = 3 ∨ j = 4 ∨ j = 5 ∨ j = 6 ∨ j = 7 ∨ j = 8 ∨ j = 9 ∨ j = 10 ∨ j = 11 ∨ j = 12 by omega) with rfl | rfl | rfl | rfl | rfl | rfl | rfl | rfl | rfl | rfl | rfl | rfl | rfl <;> rfl) (Nat.le_of_ble_eq_true rfl) (Nat.le_of_ble_eq_true rfl) dL_law_0 (fun n1 H hP hD hS => ?_)
  refine W.widen (k := 1) (n := 13) (Nat.le_of_ble_eq_true rfl) (Nat.le_of_ble_eq_true rfl) ?_
  refine lv_dup hx hb dL_law_3 rfl ?_
  refine ct_c X hP hD hS (va_runI (As := []) (rest := [.ref n1]) ⟨hx, hb, hml, hown, hg⟩ (c_X11_init l E n1 H.size) (cwI 0 hg (gw wco_X11_init) rfl rfl rfl (hg _ wini_X11) (hg _ wm_L_9) (hg _ wi_X11_init) rfl (by decide +kernel) ⟨Nat.le_of_ble_eq_true rfl, Nat.le_of_ble_eq_true rfl⟩) ⟨ct_blind, ct_preC X hP hD hS _⟩ rfl rfl hl.1 rfl (lv_room (Nat.le_of_ble_eq_true rfl)) dL_law_4 ⟨Nat.le_of_ble_eq_true rfl, Nat.le_of_ble_eq_true rfl⟩) (fun u H locs hq hP1 hD1 hS1 => ?_)
  have hq : u 0 0 = n1 := hq
  subst hq
  have hP := hP1; have hD := hD1; have hS := hS1
  refine W.widen (k := 66) (n := 3423) (Nat.le_of_ble_eq_true rfl) (Nat.le_of_ble_eq_true rfl) ?_
  have hP : va_P E.1 vwCl (cw_X11 E (u 0) (u 1 0) (u 2 0) (u 4 0) (u 6 0) (u 8 0) (u 9 0) (u 10 0) (u 11 0) (u 12 0) (u 13 0) (u 14 0) (u 15 0) g0 ++ (cw_X8 E (u 1) g0 ++ (cw_X4 E (u 2) (u 3 0) ++ (cw_X9 E (u 3) g0 ++ (cw_X0 E (u 4) (u 5 0) ++ (cw_X9 E (u 5) g0 ++ (cw_X5 E (u 6) (u 7 0) g0 ++ (cw_X9 E (u 7) g0 ++ (cw_X6 E (u 8) g0 ++ (cw_X2 E (u 9) g0 ++ (cw_X10 E (u 10) g0 ++ (cw_X3 E (u 11) g0 ++ (cw_X3 E (u 12) g0 ++ (cw_X7 E (u 13) (sI g0 10 1) ++ (cw_X7 E (u 14) (sI g0 10 1) ++ (cw_X7 E (u 15) (sI g0 10 1))))))))))))))))) H := hP
  have hD : va_D (fun q : Nat => s.heap.size ≤ q) (cw_X11 E (u 0) (u 1 0) (u 2 0) (u 4 0) (u 6 0) (u 8 0) (u 9 0) (u 10 0) (u 11 0) (u 12 0) (u 13 0) (u 14 0) (u 15 0) g0 ++ (cw_X8 E (u 1) g0 ++ (cw_X4 E (u 2) (u 3 0) ++ (cw_X9 E (u 3) g0 ++ (cw_X0 E (u 4) (u 5 0) ++ (cw_X9 E (u 5) g0 ++ (cw_X5 E (u 6) (u 7 0) g0 ++ (cw_X9 E (u 7) g0 ++ (cw_X6 E (u 8) g0 ++ (cw_X2 E (u 9) g0 ++ (cw_X10 E (u 10) g0 ++ (cw_X3 E (u 11) g0 ++ (cw_X3 E (u 12) g0 ++ (cw_X7 E (u 13) (sI g0 10 1) ++ (cw_X7 E (u 14) (sI g0 10 1) ++ (cw_X7 E (u 15) (sI g0 10 1))))))))))))))))) := hD
  refine lv_astore_n (lv' := [(1, .ref (u 0 0)), (0, .ref b)]) hx hb dL_law_7 rfl hl (by decide) rfl (fun ls hl => ?_)
  refine va_new (ci := 11) (fs := [.null, .null, .null, .null, .null, .int 0, .int 0, .null, .int 0, .int 0, .int 0, .int 0, .int 0, .int 0, .int 0, .int 0, .int 0, .int 0, .null, .null, .null, .null, .null, .null, .null, .null, .null, .null, .null, .null, .null, .null, .null, .null, .null, .int 0, .int 0, .int 0, .int 0, .int 0, .int 0, .null, .null, .null, .int 0, .int 0, .null, .null, .null, .null, .null, .int 0, .null, .null, .int 0, .int 0, .int 0]) (C := RX12) (T := TX12) (N := 57) hx hb hg in_X12 tyX12 tyX12_ok hown (hg _ wcl_L_10) (hg _ wins_X12) (hg _ wini_X12) X.1 hP hD hS X.2.2.2 rfl (fun j hj => by rcases (show j = 0 ∨ j = 1 ∨ j = 2 ∨ j = 3 ∨ j = 4 ∨ j = 5 ∨ j = 6 ∨ j = 7 ∨ j = 8 ∨ j = 9 ∨ j = 10 ∨ j = 11 ∨ j = 12 ∨ j = 13 ∨ j = 14 ∨ j = 15 ∨ j = 16 ∨ j = 17 ∨ j = 18 ∨ j = 19 ∨ j = 20 ∨ j = 21 ∨ j = 22 ∨ j = 23 ∨ j = 24 ∨ j = 25 ∨ j = 26 ∨ j = 27 ∨ j = 28 ∨ j = 29 ∨ j = 30 ∨ j = 31 ∨ j = 32 ∨ j = 33 ∨ j = 34 ∨ j = 35 ∨ j = 36 ∨ j = 37 ∨ j = 38 ∨ j = 39 ∨ j = 40 ∨ j = 41 ∨ j = 42 ∨ j = 43 ∨ j = 44 ∨ j = 45 ∨ j = 46 ∨ j = 47 ∨ j = 48 ∨ j = 49 ∨ j = 50 ∨ j = 51 ∨ j = 52 ∨ j = 53 ∨ j = 54 ∨ j = 55 ∨ j = 56 by omega) with rfl | rfl | rfl | rfl | rfl | rfl | rfl | rfl | rfl | rfl | rfl | rfl | rfl | rfl | rfl | rfl | rfl | rfl | rfl | rfl | rfl | rfl | rfl | rfl | rfl | rfl | rfl | rfl | rfl | rfl | rfl | rfl | rfl | rfl | rfl | rfl | rfl | rfl | rfl | rfl | rfl | rfl | rfl | rfl | rfl | rfl | rfl | rfl | rfl | rfl | rfl | rfl | rfl | rfl | rfl | rfl | rfl <;> rfl) (Nat.le_of_ble_eq_true rfl) (Nat.le_of_ble_eq_true rfl) dL_law_8 (fun n2 H hP hD hS => ?_)
  refine W.widen (k := 67) (n := 3480) (Nat.le_of_ble_eq_true rfl) (Nat.le_of_ble_eq_true rfl) ?_
  refine lv_dup hx hb dL_law_11 rfl ?_
  refine ct_c X hP hD hS (va_runI (As := []) (rest := [.ref n2]) ⟨hx, hb, hml, hown, hg⟩ (c_X12_init l E n2 H.size) (cwI 0 hg (gw wco_X12_init) rfl rfl rfl (hg _ wini_X12) (hg _ wm_L_12) (hg _ wi_X12_init) rfl (by decide +kernel) ⟨Nat.le_of_ble_eq_true rfl, Nat.le_of_ble_eq_true rfl⟩) ⟨ct_blind, ct_preC X hP hD hS _⟩ rfl rfl hl.1 rfl (lv_room (Nat.le_of_ble_eq_true rfl)) dL_law_12 ⟨Nat.le_of_ble_eq_true rfl, Nat.le_of_ble_eq_true rfl⟩) (fun u2 H locs hq hP1 hD1 hS1 => ?_)
  have hq : u2 0 = n2 := hq
  subst hq
  have hP := hP1; have hD := hD1; have hS := hS1
  refine W.widen (k := 600000) (n := 7302250) (Nat.le_of_ble_eq_true rfl) (Nat.le_of_ble_eq_true rfl) ?_
  refine lv_astore_n (lv' := [(2, .ref (u2 0)), (1, .ref (u 0 0)), (0, .ref b)]) hx hb dL_law_15 rfl hl (by decide) rfl (fun ls hl => ?_)
  refine lv_iconst (v := 0) hx hb dL_law_16 (by decide) ?_
  refine lv_istore_n (lv' := [(3, .int 0), (2, .ref (u2 0)), (1, .ref (u 0 0)), (0, .ref b)]) hx hb dL_law_17 rfl hl (by decide) rfl (fun ls hl => ?_)
  obtain ⟨Q, eQ⟩ : ∃ Q : Nat → Nat → Nat, Q = (fun i => if i = 16 then u2 else u i) := ⟨_, rfl⟩
  have hP2 : va_P E.1 vwCl (fl (gsL E Q Cini Mini)) H := by
    subst eQ
    have h2 := hP
    have e : fl (gsL E (fun i => if i = 16 then u2 else u i) Cini Mini) = (cw_X11 E (u 0) (u 1 0) (u 2 0) (u 4 0) (u 6 0) (u 8 0) (u 9 0) (u 10 0) (u 11 0) (u 12 0) (u 13 0) (u 14 0) (u 15 0) g0 ++ (cw_X8 E (u 1) g0 ++ (cw_X4 E (u 2) (u 3 0) ++ (cw_X9 E (u 3) g0 ++ (cw_X0 E (u 4) (u 5 0) ++ (cw_X9 E (u 5) g0 ++ (cw_X5 E (u 6) (u 7 0) g0 ++ (cw_X9 E (u 7) g0 ++ (cw_X6 E (u 8) g0 ++ (cw_X2 E (u 9) g0 ++ (cw_X10 E (u 10) g0 ++ (cw_X3 E (u 11) g0 ++ (cw_X3 E (u 12) g0 ++ (cw_X7 E (u 13) (sI g0 10 1) ++ (cw_X7 E (u 14) (sI g0 10 1) ++ (cw_X7 E (u 15) (sI g0 10 1))))))))))))))))) ++ cw_X12 E u2 (sA g0 0 81 1) := by
      simp only [List.append_assoc]
      rfl
    rw [e]; exact h2
  have hD2 : va_D (fun q : Nat => s.heap.size ≤ q) (fl (gsL E Q Cini Mini)) := by
    subst eQ
    have h2 := hD
    have e : fl (gsL E (fun i => if i = 16 then u2 else u i) Cini Mini) = (cw_X11 E (u 0) (u 1 0) (u 2 0) (u 4 0) (u 6 0) (u 8 0) (u 9 0) (u 10 0) (u 11 0) (u 12 0) (u 13 0) (u 14 0) (u 15 0) g0 ++ (cw_X8 E (u 1) g0 ++ (cw_X4 E (u 2) (u 3 0) ++ (cw_X9 E (u 3) g0 ++ (cw_X0 E (u 4) (u 5 0) ++ (cw_X9 E (u 5) g0 ++ (cw_X5 E (u 6) (u 7 0) g0 ++ (cw_X9 E (u 7) g0 ++ (cw_X6 E (u 8) g0 ++ (cw_X2 E (u 9) g0 ++ (cw_X10 E (u 10) g0 ++ (cw_X3 E (u 11) g0 ++ (cw_X3 E (u 12) g0 ++ (cw_X7 E (u 13) (sI g0 10 1) ++ (cw_X7 E (u 14) (sI g0 10 1) ++ (cw_X7 E (u 15) (sI g0 10 1))))))))))))))))) ++ cw_X12 E u2 (sA g0 0 81 1) := by
      simp only [List.append_assoc]
      rfl
    rw [e]; exact h2
  have hl : lv_has ls 4 [(0, .ref b), (1, .ref (Q 0 0)), (2, .ref (Q 16 0)), (3, .int 0)] := by subst eQ; exact lv_sub hl [3, 2, 1, 0] rfl
  exact law_loop hL C0 X PK (L + 6) 0 0 (Nat.zero_le _) (by omega) nI_0.symm Q Cini Mini H locs ls hI0 (P_fl hP2) (D_fl hD2) hS hl
