theorem dX6_wayTo_0 : decode cX6_wayTo 0 = .ok (.iload_n 3, 1) := by decide +kernel
theorem dX6_wayTo_1 : decode cX6_wayTo 1 = .ok (.aload_n 1, 1) := by decide +kernel
theorem dX6_wayTo_2 : decode cX6_wayTo 2 = .ok (.getfield 39, 3) := by decide +kernel
theorem dX6_wayTo_5 : decode cX6_wayTo 5 = .ok (.iload_n 2, 1) := by decide +kernel
theorem dX6_wayTo_6 : decode cX6_wayTo 6 = .ok (.iaload, 1) := by decide +kernel
theorem dX6_wayTo_7 : decode cX6_wayTo 7 = .ok (.isub, 1) := by decide +kernel
theorem dX6_wayTo_8 : decode cX6_wayTo 8 = .ok (.iload 4, 2) := by decide +kernel
theorem dX6_wayTo_10 : decode cX6_wayTo 10 = .ok (.aload_n 1, 1) := by decide +kernel
theorem dX6_wayTo_11 : decode cX6_wayTo 11 = .ok (.getfield 42, 3) := by decide +kernel
theorem dX6_wayTo_14 : decode cX6_wayTo 14 = .ok (.iload_n 2, 1) := by decide +kernel
theorem dX6_wayTo_15 : decode cX6_wayTo 15 = .ok (.iaload, 1) := by decide +kernel
theorem dX6_wayTo_16 : decode cX6_wayTo 16 = .ok (.isub, 1) := by decide +kernel
theorem dX6_wayTo_17 : decode cX6_wayTo 17 = .ok (.invokestatic 68, 3) := by decide +kernel
theorem dX6_wayTo_20 : decode cX6_wayTo 20 = .ok (.ireturn, 1) := by decide +kernel
def f_X6_wayTo (S0 : Gr) (S1 : Gr) (x2 : Int32) (x3 : Int32) (x4 : Int32) : Option (Int32) := rd' (S1.2 2) 8 x2 fun v1 => rd' (S1.2 3) 8 x2 fun v2 => (f_X1_distance (x3 - v1) (x4 - v2)).bind fun u3 => some u3
set_option maxHeartbeats 4000000 in
set_option maxRecDepth 100000 in
theorem c_X6_wayTo (l : Launch) (E : Ec) (q0 q1 : Nat → Nat) (sz : Nat) (S0 : Gr) (S1 : Gr) (x2 : Int32) (x3 : Int32) (x4 : Int32) (Rv : Int32) (h : f_X6_wayTo S0 S1 x2 x3 x4 = some Rv) : Met l yX6_wayTo (wsM (.code yX6_wayTo cX6_wayTo 5 (some .int))) ({ frames := 2, cells := 0, slots := 0, locals := 51 } : Room) (va_Pc [.ref (q0 0), .ref (q1 0), .int x2, .int x3, .int x4] (ctP E (cw_X6 E q0 S0 ++ (cw_X7 E q1 S1)) sz)) (ctI E (cw_X6 E q0 S0 ++ (cw_X7 E q1 S1)) (cw_X6 E q0 S0 ++ (cw_X7 E q1 S1)) sz Rv) 0 0 (va_A (cw_X6 E q0 S0 ++ (cw_X7 E q1 S1)) sz) := by
  refine ct_metI (by decide) (Nat.le_of_ble_eq_true rfl) ?_
  intro p e s m ar below meth c A QM hx hb hml hown hg X hP hD hS RET ls hl
  have hown : s.vm.findClass RX6 = some m.cls := hown
  have hl : lv_has ls 5 [(0, .ref (q0 0)), (1, .ref (q1 0)), (2, .int x2), (3, .int x3), (4, .int x4)] := hl
  have RT : ∀ (v : Int32) (H : Heap) (locs : List Loc) (ls : Array Slot) (pc : Nat), some v = some Rv → narrow .int (.int v) = .int v → va_P E.1 vwCl (cw_X6 E q0 S0 ++ (cw_X7 E q1 S1)) H → va_D A (cw_X6 E q0 S0 ++ (cw_X7 E q1 S1)) → va_S A s.heap H locs → decode cX6_wayTo pc = .ok (.ireturn, 1) → W p l e ({ frames := 2, cells := 0, slots := 0, locals := 51 } : Room) s m ar below meth c H locs 0 0 QM (F0 m pc ls [.int v]) := by
    intro v H locs ls pc e hn hP hD hS d
    obtain rfl := sm_e e
    exact RET H locs pc ls hn hP hD hS d
  clear RET
  obtain ⟨H, eH⟩ : ∃ z, z = s.heap := ⟨_, rfl⟩
  rw [← eH]
  have hP : va_P E.1 vwCl (cw_X6 E q0 S0 ++ (cw_X7 E q1 S1)) H := by rw [eH]; exact hP
  have hS : va_S A s.heap H [] := by rw [eH]; exact hS
  clear eH
  obtain ⟨locs, el⟩ : ∃ z : List Loc, z = [] := ⟨_, rfl⟩
  rw [← el] at hS ⊢
  clear el
  refine lv_iload_n hx hb dX6_wayTo_0 rfl (lv_at hl 3 rfl) ?_
  refine lv_aload_n hx hb dX6_wayTo_1 rfl (lv_at hl 1 rfl) ?_
  refine va_getN (D := E.1) (ci := 6) (v := .ref (q1 1)) (C := RX7) (T := TX7) (N := 11) hx hb hg in_X7 hown X.1 hP 3 rfl rfl 2 (by decide) (va_Nw.use rfl (nf_X6_39 X.2.1)) (fun _ h9 => h9) rfl dX6_wayTo_2 ?_
  refine lv_iload_n hx hb dX6_wayTo_5 rfl (lv_at hl 2 rfl) ?_
  obtain ⟨hi, v1, ev1, h⟩ := rd_el h
  refine va_iald hx hb X.1 hP 4 0 rfl rfl hi dX6_wayTo_6 ?_
  refine lv_top' ev1 ?_
  refine lv_isub hx hb dX6_wayTo_7 ?_
  refine lv_iload hx hb dX6_wayTo_8 (lv_at hl 4 rfl) ?_
  refine lv_aload_n hx hb dX6_wayTo_10 rfl (lv_at hl 1 rfl) ?_
  refine va_getN (D := E.1) (ci := 6) (v := .ref (q1 2)) (C := RX7) (T := TX7) (N := 11) hx hb hg in_X7 hown X.1 hP 3 rfl rfl 3 (by decide) (va_Nw.use rfl (nf_X6_42 X.2.1)) (fun _ h9 => h9) rfl dX6_wayTo_11 ?_
  refine lv_iload_n hx hb dX6_wayTo_14 rfl (lv_at hl 2 rfl) ?_
  obtain ⟨hi, v2, ev2, h⟩ := rd_el h
  refine va_iald hx hb X.1 hP 5 0 rfl rfl hi dX6_wayTo_15 ?_
  refine lv_top' ev2 ?_
  refine lv_isub hx hb dX6_wayTo_16 ?_
  obtain ⟨u3, hc, h⟩ := bd_el h
  refine ct_iN X hP hD hS (va_runS (As := [.int (x3 - v1), .int (x4 - v2)]) (rest := []) ⟨hx, hb, hml, hown, hg⟩ (c_X1_distance l E  H.size (x3 - v1) (x4 - v2) u3 hc) (va_cwS 2 hg (gwS wm_X6_68 wst_X1_distance wini_X1 wco_X1_distance) rfl rfl rfl (by decide +kernel) ⟨Nat.le_of_ble_eq_true rfl, Nat.le_of_ble_eq_true rfl⟩) ⟨ct_blind, ct_preN X hS _⟩ rfl rfl hl.1 rfl (lv_room (Nat.le_of_ble_eq_true rfl)) dX6_wayTo_17 ⟨Nat.zero_le _, Nat.zero_le _⟩) (fun H locs hP hD hS => ?_)
  exact RT u3 _ _ _ _ h rfl hP hD hS dX6_wayTo_20
theorem dX6_reachersOf_0 : decode cX6_reachersOf 0 = .ok (.iconst 0, 1) := by decide +kernel
theorem dX6_reachersOf_1 : decode cX6_reachersOf 1 = .ok (.istore 4, 2) := by decide +kernel
theorem dX6_reachersOf_3 : decode cX6_reachersOf 3 = .ok (.iconst 0, 1) := by decide +kernel
theorem dX6_reachersOf_4 : decode cX6_reachersOf 4 = .ok (.istore 5, 2) := by decide +kernel
theorem dX6_reachersOf_6 : decode cX6_reachersOf 6 = .ok (.iload 5, 2) := by decide +kernel
theorem dX6_reachersOf_8 : decode cX6_reachersOf 8 = .ok (.bipush 8, 2) := by decide +kernel
theorem dX6_reachersOf_10 : decode cX6_reachersOf 10 = .ok (.if_icmp .ge 46, 3) := by decide +kernel
theorem dX6_reachersOf_13 : decode cX6_reachersOf 13 = .ok (.aload_n 1, 1) := by decide +kernel
theorem dX6_reachersOf_14 : decode cX6_reachersOf 14 = .ok (.iload 5, 2) := by decide +kernel
theorem dX6_reachersOf_16 : decode cX6_reachersOf 16 = .ok (.invokevirtual 29, 3) := by decide +kernel
theorem dX6_reachersOf_19 : decode cX6_reachersOf 19 = .ok (.ifCond .eq 31, 3) := by decide +kernel
theorem dX6_reachersOf_22 : decode cX6_reachersOf 22 = .ok (.aload_n 0, 1) := by decide +kernel
theorem dX6_reachersOf_23 : decode cX6_reachersOf 23 = .ok (.aload_n 1, 1) := by decide +kernel
theorem dX6_reachersOf_24 : decode cX6_reachersOf 24 = .ok (.iload 5, 2) := by decide +kernel
theorem dX6_reachersOf_26 : decode cX6_reachersOf 26 = .ok (.iload_n 3, 1) := by decide +kernel
theorem dX6_reachersOf_27 : decode cX6_reachersOf 27 = .ok (.bipush 24, 2) := by decide +kernel
theorem dX6_reachersOf_29 : decode cX6_reachersOf 29 = .ok (.irem, 1) := by decide +kernel
theorem dX6_reachersOf_30 : decode cX6_reachersOf 30 = .ok (.iload_n 3, 1) := by decide +kernel
theorem dX6_reachersOf_31 : decode cX6_reachersOf 31 = .ok (.bipush 24, 2) := by decide +kernel
theorem dX6_reachersOf_33 : decode cX6_reachersOf 33 = .ok (.idiv, 1) := by decide +kernel
theorem dX6_reachersOf_34 : decode cX6_reachersOf 34 = .ok (.invokevirtual 93, 3) := by decide +kernel
theorem dX6_reachersOf_37 : decode cX6_reachersOf 37 = .ok (.iload_n 2, 1) := by decide +kernel
theorem dX6_reachersOf_38 : decode cX6_reachersOf 38 = .ok (.if_icmp .gt 12, 3) := by decide +kernel
theorem dX6_reachersOf_41 : decode cX6_reachersOf 41 = .ok (.iload 4, 2) := by decide +kernel
theorem dX6_reachersOf_43 : decode cX6_reachersOf 43 = .ok (.iconst 1, 1) := by decide +kernel
theorem dX6_reachersOf_44 : decode cX6_reachersOf 44 = .ok (.iload 5, 2) := by decide +kernel
theorem dX6_reachersOf_46 : decode cX6_reachersOf 46 = .ok (.ishl, 1) := by decide +kernel
theorem dX6_reachersOf_47 : decode cX6_reachersOf 47 = .ok (.ior, 1) := by decide +kernel
theorem dX6_reachersOf_48 : decode cX6_reachersOf 48 = .ok (.istore 4, 2) := by decide +kernel
theorem dX6_reachersOf_50 : decode cX6_reachersOf 50 = .ok (.iinc 5 1, 3) := by decide +kernel
theorem dX6_reachersOf_53 : decode cX6_reachersOf 53 = .ok (.goto (-47), 3) := by decide +kernel
theorem dX6_reachersOf_56 : decode cX6_reachersOf 56 = .ok (.iload 4, 2) := by decide +kernel
theorem dX6_reachersOf_58 : decode cX6_reachersOf 58 = .ok (.ireturn, 1) := by decide +kernel
def f_X6_reachersOf_n6 (S0 : Gr) (S1 : Gr) (x2 : Int32) (x3 : Int32) : Nat → Int32 → Int32 → Option (Int32)
  | 0, _, _ => none
  | n + 1, x4, x5 => if 8 ≤ x5 then (some x4) else ((f_X7_hasWeb S1 x5).bind fun u2 => if u2 = 0 then (lt' (x5 + 1) fun v4 => f_X6_reachersOf_n6 S0 S1 x2 x3 n x4 v4) else (lt' (x3 - x3 / 24 * 24) fun v5 => lt' (x3 / 24) fun v6 => (f_X6_wayTo S0 S1 x5 v5 v6).bind fun u7 => if x2 < u7 then (lt' (x5 + 1) fun v9 => f_X6_reachersOf_n6 S0 S1 x2 x3 n x4 v9) else (lt' ((x4 ||| (1 <<< (x5 &&& 31)))) fun v10 => lt' (x5 + 1) fun v11 => f_X6_reachersOf_n6 S0 S1 x2 x3 n v10 v11)))
def f_X6_reachersOf (S0 : Gr) (S1 : Gr) (x2 : Int32) (x3 : Int32) : Option (Int32) := f_X6_reachersOf_n6 S0 S1 x2 x3 fu 0 0
set_option maxHeartbeats 4000000 in
set_option maxRecDepth 100000 in
theorem c_X6_reachersOf (l : Launch) (E : Ec) (q0 q1 : Nat → Nat) (sz : Nat) (S0 : Gr) (S1 : Gr) (x2 : Int32) (x3 : Int32) (Rv : Int32) (h : f_X6_reachersOf S0 S1 x2 x3 = some Rv) : Met l yX6_reachersOf (wsM (.code yX6_reachersOf cX6_reachersOf 6 (some .int))) ({ frames := 3, cells := 0, slots := 0, locals := 75 } : Room) (va_Pc [.ref (q0 0), .ref (q1 0), .int x2, .int x3] (ctP E (cw_X6 E q0 S0 ++ (cw_X7 E q1 S1)) sz)) (ctI E (cw_X6 E q0 S0 ++ (cw_X7 E q1 S1)) (cw_X6 E q0 S0 ++ (cw_X7 E q1 S1)) sz Rv) 0 0 (va_A (cw_X6 E q0 S0 ++ (cw_X7 E q1 S1)) sz) := by
  refine ct_metI (by decide) (Nat.le_of_ble_eq_true rfl) ?_
  intro p e s m ar below meth c A QM hx hb hml hown hg X hP hD hS RET ls hl
  have hown : s.vm.findClass RX6 = some m.cls := hown
  have hl : lv_has ls 6 [(0, .ref (q0 0)), (1, .ref (q1 0)), (2, .int x2), (3, .int x3)] := hl
  have RT : ∀ (v : Int32) (H : Heap) (locs : List Loc) (ls : Array Slot) (pc : Nat), some v = some Rv → narrow .int (.int v) = .int v → va_P E.1 vwCl (cw_X6 E q0 S0 ++ (cw_X7 E q1 S1)) H → va_D A (cw_X6 E q0 S0 ++ (cw_X7 E q1 S1)) → va_S A s.heap H locs → decode cX6_reachersOf pc = .ok (.ireturn, 1) → W p l e ({ frames := 3, cells := 0, slots := 0, locals := 75 } : Room) s m ar below meth c H locs 0 0 QM (F0 m pc ls [.int v]) := by
    intro v H locs ls pc e hn hP hD hS d
    obtain rfl := sm_e e
    exact RET H locs pc ls hn hP hD hS d
  clear RET
  have N6 : ∀ (n : Nat) (x4 : Int32) (x5 : Int32) (H : Heap) (locs : List Loc) (ls : Array Slot), f_X6_reachersOf_n6 S0 S1 x2 x3 n x4 x5 = some Rv → va_P E.1 vwCl (cw_X6 E q0 S0 ++ (cw_X7 E q1 S1)) H → va_D A (cw_X6 E q0 S0 ++ (cw_X7 E q1 S1)) → va_S A s.heap H locs → lv_has ls 6 [(0, .ref (q0 0)), (1, .ref (q1 0)), (2, .int x2), (3, .int x3), (4, .int x4), (5, .int x5)] → W p l e ({ frames := 3, cells := 0, slots := 0, locals := 75 } : Room) s m ar below meth c H locs 0 0 QM (F0 m 6 ls []) := by
    intro n
    induction n with
    | zero => intro x4 x5 H locs ls h; exact nn_el h
    | succ n ih =>
      intro x4 x5 H locs ls h hP hD hS hl
      refine lv_iload hx hb dX6_reachersOf_6 (lv_at hl 5 rfl) ?_
      refine lv_bipush (v := 8) hx hb dX6_reachersOf_8 (by decide) ?_
      refine lv_icmp_ge (tgt := 56) hx hb dX6_reachersOf_10 (by decide) (fun c1 => ?_) (fun c1 => ?_)
      · have h := it_t h c1
        refine lv_iload hx hb dX6_reachersOf_56 (lv_at hl 4 rfl) ?_
        exact RT x4 _ _ _ _ h rfl hP hD hS dX6_reachersOf_58
      · have h := it_f h c1
        refine lv_aload_n hx hb dX6_reachersOf_13 rfl (lv_at hl 1 rfl) ?_
        refine lv_iload hx hb dX6_reachersOf_14 (lv_at hl 5 rfl) ?_
        obtain ⟨u2, hc, h⟩ := bd_el h
        have hC : ([3, 4, 5, 6, 7, 8, 9, 10] : List Nat).map (fun i => (cw_X6 E q0 S0 ++ (cw_X7 E q1 S1))[i]?) = (cw_X7 E q1 S1).map some := rfl
        refine ct_iR X hP hD hS [3, 4, 5, 6, 7, 8, 9, 10] hC (va_runV (C := RX7) (As := [.int x5]) (rest := []) ⟨hx, hb, hml, hown, hg⟩ (c_X7_hasWeb l E q1 H.size S1 x5 u2 hc) (cwV 1 hg (gwV wm_X6_29 wi_X7_hasWeb wsl_X7_hasWeb wini_X7 wco_X7_hasWeb) rfl rfl rfl (by decide +kernel) ⟨Nat.le_of_ble_eq_true rfl, Nat.le_of_ble_eq_true rfl⟩) ⟨ct_blind, ct_rv X.1 hP 3 rfl rfl, ct_pre X hP hD hS [3, 4, 5, 6, 7, 8, 9, 10] (by decide) hC _⟩ rfl rfl hl.1 rfl (lv_room (Nat.le_of_ble_eq_true rfl)) dX6_reachersOf_16 ⟨Nat.zero_le _, Nat.zero_le _⟩) (fun H locs hP hD hS => ?_)
        clear hC
        refine lv_if_eq (tgt := 50) hx hb dX6_reachersOf_19 (by decide) (fun c3 => ?_) (fun c3 => ?_)
        · have h := it_t h c3
          obtain ⟨v4, ev4, h⟩ := lt_el h
          refine lv_iinc (v := v4) (lv' := [(5, .int v4), (0, .ref (q0 0)), (1, .ref (q1 0)), (2, .int x2), (3, .int x3), (4, .int x4)]) hx hb dX6_reachersOf_50 hl (k := 5) rfl (by rw [ev4]; rfl) (by decide) rfl (fun ls hl => ?_)
          refine lv_goto (tgt := 6) hx hb dX6_reachersOf_53 (by decide) ?_
          exact ih x4 v4 _ _ _ h hP hD hS (lv_sub hl [1, 2, 3, 4, 5, 0] rfl)
        · have h := it_f h c3
          refine lv_aload_n hx hb dX6_reachersOf_22 rfl (lv_at hl 0 rfl) ?_
          refine lv_aload_n hx hb dX6_reachersOf_23 rfl (lv_at hl 1 rfl) ?_
          refine lv_iload hx hb dX6_reachersOf_24 (lv_at hl 5 rfl) ?_
          refine lv_iload_n hx hb dX6_reachersOf_26 rfl (lv_at hl 3 rfl) ?_
          refine lv_bipush (v := 24) hx hb dX6_reachersOf_27 (by decide) ?_
          refine lv_irem hx hb dX6_reachersOf_29 (by decide) ?_
          obtain ⟨v5, ev5, h⟩ := lt_el h
          refine lv_top' ev5 ?_
          refine lv_iload_n hx hb dX6_reachersOf_30 rfl (lv_at hl 3 rfl) ?_
          refine lv_bipush (v := 24) hx hb dX6_reachersOf_31 (by decide) ?_
          refine lv_idiv hx hb dX6_reachersOf_33 (by decide) ?_
          obtain ⟨v6, ev6, h⟩ := lt_el h
          refine lv_top' ev6 ?_
          obtain ⟨u7, hc, h⟩ := bd_el h
          refine ct_iA (w1 := cw_X6 E q0 S0 ++ (cw_X7 E q1 S1)) X hP hD hS (va_runV (C := RX6) (As := [.ref (q1 0), .int x5, .int v5, .int v6]) (rest := []) ⟨hx, hb, hml, hown, hg⟩ (c_X6_wayTo l E q0 q1 H.size S0 S1 x5 v5 v6 u7 hc) (cwV 4 hg (gwV wm_X6_93 wi_X6_wayTo wsl_X6_wayTo wini_X6 wco_X6_wayTo) rfl rfl rfl (by decide +kernel) ⟨Nat.le_of_ble_eq_true rfl, Nat.le_of_ble_eq_true rfl⟩) ⟨ct_blind, ct_rv X.1 hP 0 rfl rfl, ct_preA X hP hD hS _⟩ rfl rfl hl.1 rfl (lv_room (Nat.le_of_ble_eq_true rfl)) dX6_reachersOf_34 ⟨Nat.zero_le _, Nat.zero_le _⟩) (fun H locs hP hD hS => ?_)
          refine lv_iload_n hx hb dX6_reachersOf_37 rfl (lv_at hl 2 rfl) ?_
          refine lv_icmp_gt (tgt := 50) hx hb dX6_reachersOf_38 (by decide) (fun c8 => ?_) (fun c8 => ?_)
          · have h := it_t h c8
            obtain ⟨v9, ev9, h⟩ := lt_el h
            refine lv_iinc (v := v9) (lv' := [(5, .int v9), (0, .ref (q0 0)), (1, .ref (q1 0)), (2, .int x2), (3, .int x3), (4, .int x4)]) hx hb dX6_reachersOf_50 hl (k := 5) rfl (by rw [ev9]; rfl) (by decide) rfl (fun ls hl => ?_)
            refine lv_goto (tgt := 6) hx hb dX6_reachersOf_53 (by decide) ?_
            exact ih x4 v9 _ _ _ h hP hD hS (lv_sub hl [1, 2, 3, 4, 5, 0] rfl)
          · have h := it_f h c8
            refine lv_iload hx hb dX6_reachersOf_41 (lv_at hl 4 rfl) ?_
            refine lv_iconst (v := 1) hx hb dX6_reachersOf_43 (by decide) ?_
            refine lv_iload hx hb dX6_reachersOf_44 (lv_at hl 5 rfl) ?_
            refine lv_ishl hx hb dX6_reachersOf_46 ?_
            refine lv_ior hx hb dX6_reachersOf_47 ?_
            obtain ⟨v10, ev10, h⟩ := lt_el h
            refine lv_top' ev10 ?_
            refine lv_istore (lv' := [(4, .int v10), (0, .ref (q0 0)), (1, .ref (q1 0)), (2, .int x2), (3, .int x3), (5, .int x5)]) hx hb dX6_reachersOf_48 hl (by decide) rfl (fun ls hl => ?_)
            obtain ⟨v11, ev11, h⟩ := lt_el h
            refine lv_iinc (v := v11) (lv' := [(5, .int v11), (4, .int v10), (0, .ref (q0 0)), (1, .ref (q1 0)), (2, .int x2), (3, .int x3)]) hx hb dX6_reachersOf_50 hl (k := 5) rfl (by rw [ev11]; rfl) (by decide) rfl (fun ls hl => ?_)
            refine lv_goto (tgt := 6) hx hb dX6_reachersOf_53 (by decide) ?_
            exact ih v10 v11 _ _ _ h hP hD hS (lv_sub hl [2, 3, 4, 5, 1, 0] rfl)
  obtain ⟨H, eH⟩ : ∃ z, z = s.heap := ⟨_, rfl⟩
  rw [← eH]
  have hP : va_P E.1 vwCl (cw_X6 E q0 S0 ++ (cw_X7 E q1 S1)) H := by rw [eH]; exact hP
  have hS : va_S A s.heap H [] := by rw [eH]; exact hS
  clear eH
  obtain ⟨locs, el⟩ : ∃ z : List Loc, z = [] := ⟨_, rfl⟩
  rw [← el] at hS ⊢
  clear el
  refine lv_iconst (v := 0) hx hb dX6_reachersOf_0 (by decide) ?_
  refine lv_istore (lv' := [(4, .int 0), (0, .ref (q0 0)), (1, .ref (q1 0)), (2, .int x2), (3, .int x3)]) hx hb dX6_reachersOf_1 hl (by decide) rfl (fun ls hl => ?_)
  refine lv_iconst (v := 0) hx hb dX6_reachersOf_3 (by decide) ?_
  refine lv_istore (lv' := [(5, .int 0), (4, .int 0), (0, .ref (q0 0)), (1, .ref (q1 0)), (2, .int x2), (3, .int x3)]) hx hb dX6_reachersOf_4 hl (by decide) rfl (fun ls hl => ?_)
  exact N6 fu 0 0 _ _ _ h hP hD hS (lv_sub hl [2, 3, 4, 5, 1, 0] rfl)
theorem dX6_listReachers_0 : decode cX6_listReachers 0 = .ok (.iconst 0, 1) := by decide +kernel
theorem dX6_listReachers_1 : decode cX6_listReachers 1 = .ok (.istore_n 3, 1) := by decide +kernel
theorem dX6_listReachers_2 : decode cX6_listReachers 2 = .ok (.iload_n 3, 1) := by decide +kernel
theorem dX6_listReachers_3 : decode cX6_listReachers 3 = .ok (.sipush 256, 3) := by decide +kernel
theorem dX6_listReachers_6 : decode cX6_listReachers 6 = .ok (.if_icmp .ge 16, 3) := by decide +kernel
theorem dX6_listReachers_9 : decode cX6_listReachers 9 = .ok (.aload_n 0, 1) := by decide +kernel
theorem dX6_listReachers_10 : decode cX6_listReachers 10 = .ok (.getfield 15, 3) := by decide +kernel
theorem dX6_listReachers_13 : decode cX6_listReachers 13 = .ok (.iload_n 3, 1) := by decide +kernel
theorem dX6_listReachers_14 : decode cX6_listReachers 14 = .ok (.iconst 0, 1) := by decide +kernel
theorem dX6_listReachers_15 : decode cX6_listReachers 15 = .ok (.bastore, 1) := by decide +kernel
theorem dX6_listReachers_16 : decode cX6_listReachers 16 = .ok (.iinc 3 1, 3) := by decide +kernel
theorem dX6_listReachers_19 : decode cX6_listReachers 19 = .ok (.goto (-17), 3) := by decide +kernel
theorem dX6_listReachers_22 : decode cX6_listReachers 22 = .ok (.aload_n 0, 1) := by decide +kernel
theorem dX6_listReachers_23 : decode cX6_listReachers 23 = .ok (.iconst 0, 1) := by decide +kernel
theorem dX6_listReachers_24 : decode cX6_listReachers 24 = .ok (.putfield 19, 3) := by decide +kernel
theorem dX6_listReachers_27 : decode cX6_listReachers 27 = .ok (.iconst 0, 1) := by decide +kernel
theorem dX6_listReachers_28 : decode cX6_listReachers 28 = .ok (.istore_n 3, 1) := by decide +kernel
theorem dX6_listReachers_29 : decode cX6_listReachers 29 = .ok (.iload_n 3, 1) := by decide +kernel
theorem dX6_listReachers_30 : decode cX6_listReachers 30 = .ok (.sipush 384, 3) := by decide +kernel
theorem dX6_listReachers_33 : decode cX6_listReachers 33 = .ok (.if_icmp .ge 79, 3) := by decide +kernel
theorem dX6_listReachers_36 : decode cX6_listReachers 36 = .ok (.aload_n 0, 1) := by decide +kernel
theorem dX6_listReachers_37 : decode cX6_listReachers 37 = .ok (.aload_n 1, 1) := by decide +kernel
theorem dX6_listReachers_38 : decode cX6_listReachers 38 = .ok (.iload_n 2, 1) := by decide +kernel
theorem dX6_listReachers_39 : decode cX6_listReachers 39 = .ok (.iload_n 3, 1) := by decide +kernel
theorem dX6_listReachers_40 : decode cX6_listReachers 40 = .ok (.invokevirtual 86, 3) := by decide +kernel
theorem dX6_listReachers_43 : decode cX6_listReachers 43 = .ok (.istore 4, 2) := by decide +kernel
theorem dX6_listReachers_45 : decode cX6_listReachers 45 = .ok (.iload 4, 2) := by decide +kernel
theorem dX6_listReachers_47 : decode cX6_listReachers 47 = .ok (.iconst 0, 1) := by decide +kernel
theorem dX6_listReachers_48 : decode cX6_listReachers 48 = .ok (.sipush 255, 3) := by decide +kernel
theorem dX6_listReachers_51 : decode cX6_listReachers 51 = .ok (.invokestatic 90, 3) := by decide +kernel
theorem dX6_listReachers_54 : decode cX6_listReachers 54 = .ok (.ifCond .eq 52, 3) := by decide +kernel
theorem dX6_listReachers_57 : decode cX6_listReachers 57 = .ok (.aload_n 0, 1) := by decide +kernel
theorem dX6_listReachers_58 : decode cX6_listReachers 58 = .ok (.getfield 15, 3) := by decide +kernel
theorem dX6_listReachers_61 : decode cX6_listReachers 61 = .ok (.iload 4, 2) := by decide +kernel
theorem dX6_listReachers_63 : decode cX6_listReachers 63 = .ok (.baload, 1) := by decide +kernel
theorem dX6_listReachers_64 : decode cX6_listReachers 64 = .ok (.ifCond .ne 42, 3) := by decide +kernel
theorem dX6_listReachers_67 : decode cX6_listReachers 67 = .ok (.aload_n 0, 1) := by decide +kernel
theorem dX6_listReachers_68 : decode cX6_listReachers 68 = .ok (.getfield 19, 3) := by decide +kernel
theorem dX6_listReachers_71 : decode cX6_listReachers 71 = .ok (.sipush 256, 3) := by decide +kernel
theorem dX6_listReachers_74 : decode cX6_listReachers 74 = .ok (.if_icmp .ge 32, 3) := by decide +kernel
theorem dX6_listReachers_77 : decode cX6_listReachers 77 = .ok (.aload_n 0, 1) := by decide +kernel
theorem dX6_listReachers_78 : decode cX6_listReachers 78 = .ok (.getfield 15, 3) := by decide +kernel
theorem dX6_listReachers_81 : decode cX6_listReachers 81 = .ok (.iload 4, 2) := by decide +kernel
theorem dX6_listReachers_83 : decode cX6_listReachers 83 = .ok (.iconst 1, 1) := by decide +kernel
theorem dX6_listReachers_84 : decode cX6_listReachers 84 = .ok (.bastore, 1) := by decide +kernel
theorem dX6_listReachers_85 : decode cX6_listReachers 85 = .ok (.aload_n 0, 1) := by decide +kernel
theorem dX6_listReachers_86 : decode cX6_listReachers 86 = .ok (.getfield 11, 3) := by decide +kernel
theorem dX6_listReachers_89 : decode cX6_listReachers 89 = .ok (.aload_n 0, 1) := by decide +kernel
theorem dX6_listReachers_90 : decode cX6_listReachers 90 = .ok (.getfield 19, 3) := by decide +kernel
theorem dX6_listReachers_93 : decode cX6_listReachers 93 = .ok (.iload 4, 2) := by decide +kernel
theorem dX6_listReachers_95 : decode cX6_listReachers 95 = .ok (.iastore, 1) := by decide +kernel
theorem dX6_listReachers_96 : decode cX6_listReachers 96 = .ok (.aload_n 0, 1) := by decide +kernel
theorem dX6_listReachers_97 : decode cX6_listReachers 97 = .ok (.dup, 1) := by decide +kernel
theorem dX6_listReachers_98 : decode cX6_listReachers 98 = .ok (.getfield 19, 3) := by decide +kernel
theorem dX6_listReachers_101 : decode cX6_listReachers 101 = .ok (.iconst 1, 1) := by decide +kernel
theorem dX6_listReachers_102 : decode cX6_listReachers 102 = .ok (.iadd, 1) := by decide +kernel
theorem dX6_listReachers_103 : decode cX6_listReachers 103 = .ok (.putfield 19, 3) := by decide +kernel
theorem dX6_listReachers_106 : decode cX6_listReachers 106 = .ok (.iinc 3 1, 3) := by decide +kernel
theorem dX6_listReachers_109 : decode cX6_listReachers 109 = .ok (.goto (-80), 3) := by decide +kernel
theorem dX6_listReachers_112 : decode cX6_listReachers 112 = .ok (.return_, 1) := by decide +kernel
def f_X6_listReachers_n29 (S1 : Gr) (x2 : Int32) : Nat → Gr → Int32 → Option (Gr)
  | 0, _, _ => none
  | n + 1, S0, x3 => if 384 ≤ x3 then (some S0) else ((f_X6_reachersOf S0 S1 x2 x3).bind fun u6 => (f_X11_within u6 0 255).bind fun u7 => if u7 = 0 then (lt' (x3 + 1) fun v9 => f_X6_listReachers_n29 S1 x2 n S0 v9) else (rd' (S0.2 1) 256 u6 fun v10 => if v10 = 0 then (if 256 ≤ (S0.1 2) then (lt' (x3 + 1) fun v14 => f_X6_listReachers_n29 S1 x2 n S0 v14) else (ck' 256 u6 (lt' (sA S0 1 (Int32.toNatClampNeg u6) (vp_nar .boolean 1)) fun S0_15 => ck' 256 (S0_15.1 2) (lt' (sA S0_15 0 (Int32.toNatClampNeg (S0_15.1 2)) u6) fun S0_16 => lt' (sI S0_16 2 ((S0_16.1 2) + 1)) fun S0_17 => lt' (x3 + 1) fun v18 => f_X6_listReachers_n29 S1 x2 n S0_17 v18)))) else (lt' (x3 + 1) fun v12 => f_X6_listReachers_n29 S1 x2 n S0 v12)))
def f_X6_listReachers_n2 (S1 : Gr) (x2 : Int32) : Nat → Gr → Int32 → Option (Gr)
  | 0, _, _ => none
  | n + 1, S0, x3 => if 256 ≤ x3 then (lt' (sI S0 2 0) fun S0_2 => f_X6_listReachers_n29 S1 x2 fu S0_2 0) else (ck' 256 x3 (lt' (sA S0 1 (Int32.toNatClampNeg x3) (vp_nar .boolean 0)) fun S0_3 => lt' (x3 + 1) fun v4 => f_X6_listReachers_n2 S1 x2 n S0_3 v4))
def f_X6_listReachers (S0 : Gr) (S1 : Gr) (x2 : Int32) : Option (Gr) := f_X6_listReachers_n2 S1 x2 fu S0 0
set_option maxHeartbeats 4000000 in
set_option maxRecDepth 100000 in
theorem c_X6_listReachers (l : Launch) (E : Ec) (q0 q1 : Nat → Nat) (sz : Nat) (S0 : Gr) (S1 : Gr) (x2 : Int32) (Rv : Gr) (h : f_X6_listReachers S0 S1 x2 = some Rv) : Met l yX6_listReachers (wsM (.code yX6_listReachers cX6_listReachers 5 none)) ({ frames := 4, cells := 0, slots := 0, locals := 100 } : Room) (va_Pc [.ref (q0 0), .ref (q1 0), .int x2] (ctP E (cw_X6 E q0 S0 ++ (cw_X7 E q1 S1)) sz)) (ctV E (cw_X6 E q0 S0 ++ (cw_X7 E q1 S1)) (cw_X6 E q0 Rv ++ (cw_X7 E q1 S1)) sz) 0 0 (va_A (cw_X6 E q0 S0 ++ (cw_X7 E q1 S1)) sz) := by
  refine ct_metV (by decide) (Nat.le_of_ble_eq_true rfl) ?_
  intro p e s m ar below meth c A QM hx hb hml hown hg X hP hD hS RET ls hl
  have hown : s.vm.findClass RX6 = some m.cls := hown
  have hl : lv_has ls 5 [(0, .ref (q0 0)), (1, .ref (q1 0)), (2, .int x2)] := hl
  have RT : ∀ (S0 : Gr) (H : Heap) (locs : List Loc) (ls : Array Slot) (pc : Nat), some S0 = some Rv → va_P E.1 vwCl (cw_X6 E q0 S0 ++ (cw_X7 E q1 S1)) H → va_D A (cw_X6 E q0 S0 ++ (cw_X7 E q1 S1)) → va_S A s.heap H locs → decode cX6_listReachers pc = .ok (.return_, 1) → W p l e ({ frames := 4, cells := 0, slots := 0, locals := 100 } : Room) s m ar below meth c H locs 0 0 QM (F0 m pc ls []) := by
    intro S0 H locs ls pc e hP hD hS d
    obtain rfl := sm_e e
    exact RET H locs pc ls hP hD hS d
  clear RET
  have N29 : ∀ (n : Nat) (S0 : Gr) (x3 : Int32) (H : Heap) (locs : List Loc) (ls : Array Slot), f_X6_listReachers_n29 S1 x2 n S0 x3 = some Rv → va_P E.1 vwCl (cw_X6 E q0 S0 ++ (cw_X7 E q1 S1)) H → va_D A (cw_X6 E q0 S0 ++ (cw_X7 E q1 S1)) → va_S A s.heap H locs → lv_has ls 5 [(0, .ref (q0 0)), (1, .ref (q1 0)), (2, .int x2), (3, .int x3)] → W p l e ({ frames := 4, cells := 0, slots := 0, locals := 100 } : Room) s m ar below meth c H locs 0 0 QM (F0 m 29 ls []) := by
    intro n
    induction n with
    | zero => intro S0 x3 H locs ls h; exact nn_el h
    | succ n ih =>
      intro S0 x3 H locs ls h hP hD hS hl
      refine lv_iload_n hx hb dX6_listReachers_29 rfl (lv_at hl 3 rfl) ?_
      refine lv_sipush (v := 384) hx hb dX6_listReachers_30 (by decide) ?_
      refine lv_icmp_ge (tgt := 112) hx hb dX6_listReachers_33 (by decide) (fun c5 => ?_) (fun c5 => ?_)
      · have h := it_t h c5
        exact RT S0 _ _ _ _ h hP hD hS dX6_listReachers_112
      · have h := it_f h c5
        refine lv_aload_n hx hb dX6_listReachers_36 rfl (lv_at hl 0 rfl) ?_
        refine lv_aload_n hx hb dX6_listReachers_37 rfl (lv_at hl 1 rfl) ?_
        refine lv_iload_n hx hb dX6_listReachers_38 rfl (lv_at hl 2 rfl) ?_
        refine lv_iload_n hx hb dX6_listReachers_39 rfl (lv_at hl 3 rfl) ?_
        obtain ⟨u6, hc, h⟩ := bd_el h
        refine ct_iA (w1 := cw_X6 E q0 S0 ++ (cw_X7 E q1 S1)) X hP hD hS (va_runV (C := RX6) (As := [.ref (q1 0), .int x2, .int x3]) (rest := []) ⟨hx, hb, hml, hown, hg⟩ (c_X6_reachersOf l E q0 q1 H.size S0 S1 x2 x3 u6 hc) (cwV 3 hg (gwV wm_X6_86 wi_X6_reachersOf wsl_X6_reachersOf wini_X6 wco_X6_reachersOf) rfl rfl rfl (by decide +kernel) ⟨Nat.le_of_ble_eq_true rfl, Nat.le_of_ble_eq_true rfl⟩) ⟨ct_blind, ct_rv X.1 hP 0 rfl rfl, ct_preA X hP hD hS _⟩ rfl rfl hl.1 rfl (lv_room (Nat.le_of_ble_eq_true rfl)) dX6_listReachers_40 ⟨Nat.zero_le _, Nat.zero_le _⟩) (fun H locs hP hD hS => ?_)
        refine lv_istore (lv' := [(4, .int u6), (0, .ref (q0 0)), (1, .ref (q1 0)), (2, .int x2), (3, .int x3)]) hx hb dX6_listReachers_43 hl (by decide) rfl (fun ls hl => ?_)
        refine lv_iload hx hb dX6_listReachers_45 (lv_at hl 0 rfl) ?_
        refine lv_iconst (v := 0) hx hb dX6_listReachers_47 (by decide) ?_
        refine lv_sipush (v := 255) hx hb dX6_listReachers_48 (by decide) ?_
        obtain ⟨u7, hc, h⟩ := bd_el h
        refine ct_iN X hP hD hS (va_runSN (As := [.int u6, .int 0, .int 255]) (rest := []) ⟨hx, hb, hml, hown, hg⟩ (c_X11_within l E  H.size u6 0 255 u7 hc) ⟨va_cnB 3 hg (gw wco_X11_within) rfl rfl rfl (nm_X6_90 X.2.1) (hg _ wini_X11) (by decide +kernel) ⟨Nat.le_of_ble_eq_true rfl, Nat.le_of_ble_eq_true rfl⟩, hg _ wst_X11_within, trivial⟩ ⟨ct_blind, ct_preN X hS _⟩ rfl rfl hl.1 rfl (lv_room (Nat.le_of_ble_eq_true rfl)) dX6_listReachers_51 ⟨Nat.zero_le _, Nat.zero_le _⟩) (fun H locs hP hD hS => ?_)
        refine lv_if_eq (tgt := 106) hx hb dX6_listReachers_54 (by decide) (fun c8 => ?_) (fun c8 => ?_)
        · have h := it_t h c8
          obtain ⟨v9, ev9, h⟩ := lt_el h
          refine lv_iinc (v := v9) (lv' := [(3, .int v9), (4, .int u6), (0, .ref (q0 0)), (1, .ref (q1 0)), (2, .int x2)]) hx hb dX6_listReachers_106 hl (k := 4) rfl (by rw [ev9]; rfl) (by decide) rfl (fun ls hl => ?_)
          refine lv_goto (tgt := 29) hx hb dX6_listReachers_109 (by decide) ?_
          exact ih S0 v9 _ _ _ h hP hD hS (lv_sub hl [2, 3, 4, 0] rfl)
        · have h := it_f h c8
          refine lv_aload_n hx hb dX6_listReachers_57 rfl (lv_at hl 1 rfl) ?_
          refine va_get (D := E.1) (ci := 5) (v := .ref (q0 2)) (C := RX6) (T := TX6) (N := 3) hx hb hg in_X6 hown X.1 hP 0 rfl rfl 1 (by decide) (hg _ wf_X6_15) (fun _ h9 => h9) rfl dX6_listReachers_58 ?_
          refine lv_iload hx hb dX6_listReachers_61 (lv_at hl 0 rfl) ?_
          obtain ⟨hi, v10, ev10, h⟩ := rd_el h
          refine va_zald hx hb X.1 hP 2 1 rfl rfl hi dX6_listReachers_63 ?_
          refine lv_top' ev10 ?_
          refine lv_if_ne (tgt := 106) hx hb dX6_listReachers_64 (by decide) (fun c11 => ?_) (fun c11 => ?_)
          · have h := it_f h c11
            obtain ⟨v12, ev12, h⟩ := lt_el h
            refine lv_iinc (v := v12) (lv' := [(3, .int v12), (4, .int u6), (0, .ref (q0 0)), (1, .ref (q1 0)), (2, .int x2)]) hx hb dX6_listReachers_106 hl (k := 4) rfl (by rw [ev12]; rfl) (by decide) rfl (fun ls hl => ?_)
            refine lv_goto (tgt := 29) hx hb dX6_listReachers_109 (by decide) ?_
            exact ih S0 v12 _ _ _ h hP hD hS (lv_sub hl [2, 3, 4, 0] rfl)
          · have h := it_t h c11
            refine lv_aload_n hx hb dX6_listReachers_67 rfl (lv_at hl 1 rfl) ?_
            refine va_get (D := E.1) (ci := 5) (v := .int (S0.1 2)) (C := RX6) (T := TX6) (N := 3) hx hb hg in_X6 hown X.1 hP 0 rfl rfl 2 (by decide) (hg _ wf_X6_19) (fun _ h9 => h9) rfl dX6_listReachers_68 ?_
            refine lv_sipush (v := 256) hx hb dX6_listReachers_71 (by decide) ?_
            refine lv_icmp_ge (tgt := 106) hx hb dX6_listReachers_74 (by decide) (fun c13 => ?_) (fun c13 => ?_)
            · have h := it_t h c13
              obtain ⟨v14, ev14, h⟩ := lt_el h
              refine lv_iinc (v := v14) (lv' := [(3, .int v14), (4, .int u6), (0, .ref (q0 0)), (1, .ref (q1 0)), (2, .int x2)]) hx hb dX6_listReachers_106 hl (k := 4) rfl (by rw [ev14]; rfl) (by decide) rfl (fun ls hl => ?_)
              refine lv_goto (tgt := 29) hx hb dX6_listReachers_109 (by decide) ?_
              exact ih S0 v14 _ _ _ h hP hD hS (lv_sub hl [2, 3, 4, 0] rfl)
            · have h := it_f h c13
              refine lv_aload_n hx hb dX6_listReachers_77 rfl (lv_at hl 1 rfl) ?_
              refine va_get (D := E.1) (ci := 5) (v := .ref (q0 2)) (C := RX6) (T := TX6) (N := 3) hx hb hg in_X6 hown X.1 hP 0 rfl rfl 1 (by decide) (hg _ wf_X6_15) (fun _ h9 => h9) rfl dX6_listReachers_78 ?_
              refine lv_iload hx hb dX6_listReachers_81 (lv_at hl 0 rfl) ?_
              refine lv_iconst (v := 1) hx hb dX6_listReachers_83 (by decide) ?_
              obtain ⟨hi, h⟩ := ck_el h
              obtain ⟨S0_15, eS, h⟩ := lt_el h
              refine va_zast hx hb X.1 hP hD hS 2 1 rfl rfl hi dX6_listReachers_84 (fun H locs hP hD hS => ?_)
              have hP : va_P E.1 vwCl (cw_X6 E q0 S0_15 ++ (cw_X7 E q1 S1)) H := by rw [eS]; exact hP
              have hD : va_D A (cw_X6 E q0 S0_15 ++ (cw_X7 E q1 S1)) := by rw [eS]; exact hD
              clear eS
              refine lv_aload_n hx hb dX6_listReachers_85 rfl (lv_at hl 1 rfl) ?_
              refine va_get (D := E.1) (ci := 5) (v := .ref (q0 1)) (C := RX6) (T := TX6) (N := 3) hx hb hg in_X6 hown X.1 hP 0 rfl rfl 0 (by decide) (hg _ wf_X6_11) (fun _ h9 => h9) rfl dX6_listReachers_86 ?_
              refine lv_aload_n hx hb dX6_listReachers_89 rfl (lv_at hl 1 rfl) ?_
              refine va_get (D := E.1) (ci := 5) (v := .int (S0_15.1 2)) (C := RX6) (T := TX6) (N := 3) hx hb hg in_X6 hown X.1 hP 0 rfl rfl 2 (by decide) (hg _ wf_X6_19) (fun _ h9 => h9) rfl dX6_listReachers_90 ?_
              refine lv_iload hx hb dX6_listReachers_93 (lv_at hl 0 rfl) ?_
              obtain ⟨hi, h⟩ := ck_el h
              obtain ⟨S0_16, eS, h⟩ := lt_el h
              refine va_iast hx hb X.1 hP hD hS 1 0 rfl rfl hi dX6_listReachers_95 (fun H locs hP hD hS => ?_)
              have hP : va_P E.1 vwCl (cw_X6 E q0 S0_16 ++ (cw_X7 E q1 S1)) H := by rw [eS]; exact hP
              have hD : va_D A (cw_X6 E q0 S0_16 ++ (cw_X7 E q1 S1)) := by rw [eS]; exact hD
              clear eS
              refine lv_aload_n hx hb dX6_listReachers_96 rfl (lv_at hl 1 rfl) ?_
              refine lv_dup hx hb dX6_listReachers_97 rfl ?_
              refine va_get (D := E.1) (ci := 5) (v := .int (S0_16.1 2)) (C := RX6) (T := TX6) (N := 3) hx hb hg in_X6 hown X.1 hP 0 rfl rfl 2 (by decide) (hg _ wf_X6_19) (fun _ h9 => h9) rfl dX6_listReachers_98 ?_
              refine lv_iconst (v := 1) hx hb dX6_listReachers_101 (by decide) ?_
              refine lv_iadd hx hb dX6_listReachers_102 ?_
              obtain ⟨S0_17, eS, h⟩ := lt_el h
              refine va_put (D := E.1) (ci := 5) (v := .int ((S0_16.1 2) + 1)) (ty := .int) (C := RX6) (T := TX6) (N := 3) hx hb hg in_X6 tyX6 tyX6_ok nmX6 hown X.1 hP hD hS 0 rfl rfl 2 (by decide) (hg _ wf_X6_19) (fun _ h9 => h9) rfl (by decide +kernel) rfl rfl (Nat.le_of_ble_eq_true rfl) dX6_listReachers_103 (fun H locs hP hD hS => ?_)
              have hP : va_P E.1 vwCl (cw_X6 E q0 S0_17 ++ (cw_X7 E q1 S1)) H := by rw [eS]; exact hP
              have hD : va_D A (cw_X6 E q0 S0_17 ++ (cw_X7 E q1 S1)) := by rw [eS]; exact hD
              clear eS
              obtain ⟨v18, ev18, h⟩ := lt_el h
              refine lv_iinc (v := v18) (lv' := [(3, .int v18), (4, .int u6), (0, .ref (q0 0)), (1, .ref (q1 0)), (2, .int x2)]) hx hb dX6_listReachers_106 hl (k := 4) rfl (by rw [ev18]; rfl) (by decide) rfl (fun ls hl => ?_)
              refine lv_goto (tgt := 29) hx hb dX6_listReachers_109 (by decide) ?_
              exact ih S0_17 v18 _ _ _ h hP hD hS (lv_sub hl [2, 3, 4, 0] rfl)
  have N2 : ∀ (n : Nat) (S0 : Gr) (x3 : Int32) (H : Heap) (locs : List Loc) (ls : Array Slot), f_X6_listReachers_n2 S1 x2 n S0 x3 = some Rv → va_P E.1 vwCl (cw_X6 E q0 S0 ++ (cw_X7 E q1 S1)) H → va_D A (cw_X6 E q0 S0 ++ (cw_X7 E q1 S1)) → va_S A s.heap H locs → lv_has ls 5 [(0, .ref (q0 0)), (1, .ref (q1 0)), (2, .int x2), (3, .int x3)] → W p l e ({ frames := 4, cells := 0, slots := 0, locals := 100 } : Room) s m ar below meth c H locs 0 0 QM (F0 m 2 ls []) := by
    intro n
    induction n with
    | zero => intro S0 x3 H locs ls h; exact nn_el h
    | succ n ih =>
      intro S0 x3 H locs ls h hP hD hS hl
      refine lv_iload_n hx hb dX6_listReachers_2 rfl (lv_at hl 3 rfl) ?_
      refine lv_sipush (v := 256) hx hb dX6_listReachers_3 (by decide) ?_
      refine lv_icmp_ge (tgt := 22) hx hb dX6_listReachers_6 (by decide) (fun c1 => ?_) (fun c1 => ?_)
      · have h := it_t h c1
        refine lv_aload_n hx hb dX6_listReachers_22 rfl (lv_at hl 0 rfl) ?_
        refine lv_iconst (v := 0) hx hb dX6_listReachers_23 (by decide) ?_
        obtain ⟨S0_2, eS, h⟩ := lt_el h
        refine va_put (D := E.1) (ci := 5) (v := .int 0) (ty := .int) (C := RX6) (T := TX6) (N := 3) hx hb hg in_X6 tyX6 tyX6_ok nmX6 hown X.1 hP hD hS 0 rfl rfl 2 (by decide) (hg _ wf_X6_19) (fun _ h9 => h9) rfl (by decide +kernel) rfl rfl (Nat.le_of_ble_eq_true rfl) dX6_listReachers_24 (fun H locs hP hD hS => ?_)
        have hP : va_P E.1 vwCl (cw_X6 E q0 S0_2 ++ (cw_X7 E q1 S1)) H := by rw [eS]; exact hP
        have hD : va_D A (cw_X6 E q0 S0_2 ++ (cw_X7 E q1 S1)) := by rw [eS]; exact hD
        clear eS
        refine lv_iconst (v := 0) hx hb dX6_listReachers_27 (by decide) ?_
        refine lv_istore_n (lv' := [(3, .int 0), (0, .ref (q0 0)), (1, .ref (q1 0)), (2, .int x2)]) hx hb dX6_listReachers_28 rfl hl (by decide) rfl (fun ls hl => ?_)
        exact N29 fu S0_2 0 _ _ _ h hP hD hS (lv_sub hl [1, 2, 3, 0] rfl)
      · have h := it_f h c1
        refine lv_aload_n hx hb dX6_listReachers_9 rfl (lv_at hl 0 rfl) ?_
        refine va_get (D := E.1) (ci := 5) (v := .ref (q0 2)) (C := RX6) (T := TX6) (N := 3) hx hb hg in_X6 hown X.1 hP 0 rfl rfl 1 (by decide) (hg _ wf_X6_15) (fun _ h9 => h9) rfl dX6_listReachers_10 ?_
        refine lv_iload_n hx hb dX6_listReachers_13 rfl (lv_at hl 3 rfl) ?_
        refine lv_iconst (v := 0) hx hb dX6_listReachers_14 (by decide) ?_
        obtain ⟨hi, h⟩ := ck_el h
        obtain ⟨S0_3, eS, h⟩ := lt_el h
        refine va_zast hx hb X.1 hP hD hS 2 1 rfl rfl hi dX6_listReachers_15 (fun H locs hP hD hS => ?_)
        have hP : va_P E.1 vwCl (cw_X6 E q0 S0_3 ++ (cw_X7 E q1 S1)) H := by rw [eS]; exact hP
        have hD : va_D A (cw_X6 E q0 S0_3 ++ (cw_X7 E q1 S1)) := by rw [eS]; exact hD
        clear eS
        obtain ⟨v4, ev4, h⟩ := lt_el h
        refine lv_iinc (v := v4) (lv' := [(3, .int v4), (0, .ref (q0 0)), (1, .ref (q1 0)), (2, .int x2)]) hx hb dX6_listReachers_16 hl (k := 3) rfl (by rw [ev4]; rfl) (by decide) rfl (fun ls hl => ?_)
        refine lv_goto (tgt := 2) hx hb dX6_listReachers_19 (by decide) ?_
        exact ih S0_3 v4 _ _ _ h hP hD hS (lv_sub hl [1, 2, 3, 0] rfl)
  obtain ⟨H, eH⟩ : ∃ z, z = s.heap := ⟨_, rfl⟩
  rw [← eH]
  have hP : va_P E.1 vwCl (cw_X6 E q0 S0 ++ (cw_X7 E q1 S1)) H := by rw [eH]; exact hP
  have hS : va_S A s.heap H [] := by rw [eH]; exact hS
  clear eH
  obtain ⟨locs, el⟩ : ∃ z : List Loc, z = [] := ⟨_, rfl⟩
  rw [← el] at hS ⊢
  clear el
  refine lv_iconst (v := 0) hx hb dX6_listReachers_0 (by decide) ?_
  refine lv_istore_n (lv' := [(3, .int 0), (0, .ref (q0 0)), (1, .ref (q1 0)), (2, .int x2)]) hx hb dX6_listReachers_1 rfl hl (by decide) rfl (fun ls hl => ?_)
  exact N2 fu S0 0 _ _ _ h hP hD hS (lv_sub hl [1, 2, 3, 0] rfl)
theorem dX6_meetsAll_0 : decode cX6_meetsAll 0 = .ok (.iconst 0, 1) := by decide +kernel
theorem dX6_meetsAll_1 : decode cX6_meetsAll 1 = .ok (.istore_n 2, 1) := by decide +kernel
theorem dX6_meetsAll_2 : decode cX6_meetsAll 2 = .ok (.iload_n 2, 1) := by decide +kernel
theorem dX6_meetsAll_3 : decode cX6_meetsAll 3 = .ok (.aload_n 0, 1) := by decide +kernel
theorem dX6_meetsAll_4 : decode cX6_meetsAll 4 = .ok (.getfield 19, 3) := by decide +kernel
theorem dX6_meetsAll_7 : decode cX6_meetsAll 7 = .ok (.if_icmp .ge 22, 3) := by decide +kernel
theorem dX6_meetsAll_10 : decode cX6_meetsAll 10 = .ok (.aload_n 0, 1) := by decide +kernel
theorem dX6_meetsAll_11 : decode cX6_meetsAll 11 = .ok (.getfield 11, 3) := by decide +kernel
theorem dX6_meetsAll_14 : decode cX6_meetsAll 14 = .ok (.iload_n 2, 1) := by decide +kernel
theorem dX6_meetsAll_15 : decode cX6_meetsAll 15 = .ok (.iaload, 1) := by decide +kernel
theorem dX6_meetsAll_16 : decode cX6_meetsAll 16 = .ok (.iload_n 1, 1) := by decide +kernel
theorem dX6_meetsAll_17 : decode cX6_meetsAll 17 = .ok (.iand, 1) := by decide +kernel
theorem dX6_meetsAll_18 : decode cX6_meetsAll 18 = .ok (.ifCond .ne 5, 3) := by decide +kernel
theorem dX6_meetsAll_21 : decode cX6_meetsAll 21 = .ok (.iconst 0, 1) := by decide +kernel
theorem dX6_meetsAll_22 : decode cX6_meetsAll 22 = .ok (.ireturn, 1) := by decide +kernel
theorem dX6_meetsAll_23 : decode cX6_meetsAll 23 = .ok (.iinc 2 1, 3) := by decide +kernel
theorem dX6_meetsAll_26 : decode cX6_meetsAll 26 = .ok (.goto (-24), 3) := by decide +kernel
theorem dX6_meetsAll_29 : decode cX6_meetsAll 29 = .ok (.iconst 1, 1) := by decide +kernel
theorem dX6_meetsAll_30 : decode cX6_meetsAll 30 = .ok (.ireturn, 1) := by decide +kernel
def f_X6_meetsAll_n2 (S0 : Gr) (x1 : Int32) : Nat → Int32 → Option (Int32)
  | 0, _ => none
  | n + 1, x2 => if (S0.1 2) ≤ x2 then (some 1) else (rd' (S0.2 0) 256 x2 fun v2 => if (v2 &&& x1) = 0 then (some 0) else (lt' (x2 + 1) fun v4 => f_X6_meetsAll_n2 S0 x1 n v4))
def f_X6_meetsAll (S0 : Gr) (x1 : Int32) : Option (Int32) := f_X6_meetsAll_n2 S0 x1 fu 0
set_option maxHeartbeats 4000000 in
set_option maxRecDepth 100000 in
theorem c_X6_meetsAll (l : Launch) (E : Ec) (q0 : Nat → Nat) (sz : Nat) (S0 : Gr) (x1 : Int32) (Rv : Int32) (h : f_X6_meetsAll S0 x1 = some Rv) : Met l yX6_meetsAll (wsM (.code yX6_meetsAll cX6_meetsAll 3 (some .boolean))) ({ frames := 0, cells := 0, slots := 0, locals := 0 } : Room) (va_Pc [.ref (q0 0), .int x1] (ctP E (cw_X6 E q0 S0) sz)) (ctI E (cw_X6 E q0 S0) (cw_X6 E q0 S0) sz Rv) 0 0 (va_A (cw_X6 E q0 S0) sz) := by
  refine ct_metI (by decide) (Nat.le_of_ble_eq_true rfl) ?_
  intro p e s m ar below meth c A QM hx hb hml hown hg X hP hD hS RET ls hl
  have hown : s.vm.findClass RX6 = some m.cls := hown
  have hl : lv_has ls 3 [(0, .ref (q0 0)), (1, .int x1)] := hl
  have RT : ∀ (v : Int32) (H : Heap) (locs : List Loc) (ls : Array Slot) (pc : Nat), some v = some Rv → narrow .boolean (.int v) = .int v → va_P E.1 vwCl (cw_X6 E q0 S0) H → va_D A (cw_X6 E q0 S0) → va_S A s.heap H locs → decode cX6_meetsAll pc = .ok (.ireturn, 1) → W p l e ({ frames := 0, cells := 0, slots := 0, locals := 0 } : Room) s m ar below meth c H locs 0 0 QM (F0 m pc ls [.int v]) := by
    intro v H locs ls pc e hn hP hD hS d
    obtain rfl := sm_e e
    exact RET H locs pc ls hn hP hD hS d
  clear RET
  have N2 : ∀ (n : Nat) (x2 : Int32) (H : Heap) (locs : List Loc) (ls : Array Slot), f_X6_meetsAll_n2 S0 x1 n x2 = some Rv → va_P E.1 vwCl (cw_X6 E q0 S0) H → va_D A (cw_X6 E q0 S0) → va_S A s.heap H locs → lv_has ls 3 [(0, .ref (q0 0)), (1, .int x1), (2, .int x2)] → W p l e ({ frames := 0, cells := 0, slots := 0, locals := 0 } : Room) s m ar below meth c H locs 0 0 QM (F0 m 2 ls []) := by
    intro n
    induction n with
    | zero => intro x2 H locs ls h; exact nn_el h
    | succ n ih =>
      intro x2 H locs ls h hP hD hS hl
      refine lv_iload_n hx hb dX6_meetsAll_2 rfl (lv_at hl 2 rfl) ?_
      refine lv_aload_n hx hb dX6_meetsAll_3 rfl (lv_at hl 0 rfl) ?_
      refine va_get (D := E.1) (ci := 5) (v := .int (S0.1 2)) (C := RX6) (T := TX6) (N := 3) hx hb hg in_X6 hown X.1 hP 0 rfl rfl 2 (by decide) (hg _ wf_X6_19) (fun _ h9 => h9) rfl dX6_meetsAll_4 ?_
      refine lv_icmp_ge (tgt := 29) hx hb dX6_meetsAll_7 (by decide) (fun c1 => ?_) (fun c1 => ?_)
      · have h := it_t h c1
        refine lv_iconst (v := 1) hx hb dX6_meetsAll_29 (by decide) ?_
        exact RT 1 _ _ _ _ h (by decide +kernel) hP hD hS dX6_meetsAll_30
      · have h := it_f h c1
        refine lv_aload_n hx hb dX6_meetsAll_10 rfl (lv_at hl 0 rfl) ?_
        refine va_get (D := E.1) (ci := 5) (v := .ref (q0 1)) (C := RX6) (T := TX6) (N := 3) hx hb hg in_X6 hown X.1 hP 0 rfl rfl 0 (by decide) (hg _ wf_X6_11) (fun _ h9 => h9) rfl dX6_meetsAll_11 ?_
        refine lv_iload_n hx hb dX6_meetsAll_14 rfl (lv_at hl 2 rfl) ?_
        obtain ⟨hi, v2, ev2, h⟩ := rd_el h
        refine va_iald hx hb X.1 hP 1 0 rfl rfl hi dX6_meetsAll_15 ?_
        refine lv_top' ev2 ?_
        refine lv_iload_n hx hb dX6_meetsAll_16 rfl (lv_at hl 1 rfl) ?_
        refine lv_iand hx hb dX6_meetsAll_17 ?_
        refine lv_if_ne (tgt := 23) hx hb dX6_meetsAll_18 (by decide) (fun c3 => ?_) (fun c3 => ?_)
        · have h := it_f h c3
          obtain ⟨v4, ev4, h⟩ := lt_el h
          refine lv_iinc (v := v4) (lv' := [(2, .int v4), (0, .ref (q0 0)), (1, .int x1)]) hx hb dX6_meetsAll_23 hl (k := 2) rfl (by rw [ev4]; rfl) (by decide) rfl (fun ls hl => ?_)
          refine lv_goto (tgt := 2) hx hb dX6_meetsAll_26 (by decide) ?_
          exact ih v4 _ _ _ h hP hD hS (lv_sub hl [1, 2, 0] rfl)
        · have h := it_t h c3
          refine lv_iconst (v := 0) hx hb dX6_meetsAll_21 (by decide) ?_
          exact RT 0 _ _ _ _ h (by decide +kernel) hP hD hS dX6_meetsAll_22
  obtain ⟨H, eH⟩ : ∃ z, z = s.heap := ⟨_, rfl⟩
  rw [← eH]
  have hP : va_P E.1 vwCl (cw_X6 E q0 S0) H := by rw [eH]; exact hP
  have hS : va_S A s.heap H [] := by rw [eH]; exact hS
  clear eH
  obtain ⟨locs, el⟩ : ∃ z : List Loc, z = [] := ⟨_, rfl⟩
  rw [← el] at hS ⊢
  clear el
  refine lv_iconst (v := 0) hx hb dX6_meetsAll_0 (by decide) ?_
  refine lv_istore_n (lv' := [(2, .int 0), (0, .ref (q0 0)), (1, .int x1)]) hx hb dX6_meetsAll_1 rfl hl (by decide) rfl (fun ls hl => ?_)
  exact N2 fu 0 _ _ _ h hP hD hS (lv_sub hl [1, 2, 0] rfl)
theorem dX6_fewestWebs_0 : decode cX6_fewestWebs 0 = .ok (.aload_n 0, 1) := by decide +kernel
theorem dX6_fewestWebs_1 : decode cX6_fewestWebs 1 = .ok (.aload_n 1, 1) := by decide +kernel
theorem dX6_fewestWebs_2 : decode cX6_fewestWebs 2 = .ok (.iload_n 2, 1) := by decide +kernel
theorem dX6_fewestWebs_3 : decode cX6_fewestWebs 3 = .ok (.invokevirtual 71, 3) := by decide +kernel
theorem dX6_fewestWebs_6 : decode cX6_fewestWebs 6 = .ok (.bipush (-2), 2) := by decide +kernel
theorem dX6_fewestWebs_8 : decode cX6_fewestWebs 8 = .ok (.istore_n 3, 1) := by decide +kernel
theorem dX6_fewestWebs_9 : decode cX6_fewestWebs 9 = .ok (.bipush 9, 2) := by decide +kernel
theorem dX6_fewestWebs_11 : decode cX6_fewestWebs 11 = .ok (.istore 4, 2) := by decide +kernel
theorem dX6_fewestWebs_13 : decode cX6_fewestWebs 13 = .ok (.iconst 1, 1) := by decide +kernel
theorem dX6_fewestWebs_14 : decode cX6_fewestWebs 14 = .ok (.istore 5, 2) := by decide +kernel
theorem dX6_fewestWebs_16 : decode cX6_fewestWebs 16 = .ok (.iload 5, 2) := by decide +kernel
theorem dX6_fewestWebs_18 : decode cX6_fewestWebs 18 = .ok (.sipush 256, 3) := by decide +kernel
theorem dX6_fewestWebs_21 : decode cX6_fewestWebs 21 = .ok (.if_icmp .ge 50, 3) := by decide +kernel
theorem dX6_fewestWebs_24 : decode cX6_fewestWebs 24 = .ok (.iload 5, 2) := by decide +kernel
theorem dX6_fewestWebs_26 : decode cX6_fewestWebs 26 = .ok (.aload_n 1, 1) := by decide +kernel
theorem dX6_fewestWebs_27 : decode cX6_fewestWebs 27 = .ok (.getfield 75, 3) := by decide +kernel
theorem dX6_fewestWebs_30 : decode cX6_fewestWebs 30 = .ok (.iconst (-1), 1) := by decide +kernel
theorem dX6_fewestWebs_31 : decode cX6_fewestWebs 31 = .ok (.ixor, 1) := by decide +kernel
theorem dX6_fewestWebs_32 : decode cX6_fewestWebs 32 = .ok (.iand, 1) := by decide +kernel
theorem dX6_fewestWebs_33 : decode cX6_fewestWebs 33 = .ok (.ifCond .ne 32, 3) := by decide +kernel
theorem dX6_fewestWebs_36 : decode cX6_fewestWebs 36 = .ok (.iload 5, 2) := by decide +kernel
theorem dX6_fewestWebs_38 : decode cX6_fewestWebs 38 = .ok (.invokestatic 78, 3) := by decide +kernel
theorem dX6_fewestWebs_41 : decode cX6_fewestWebs 41 = .ok (.iload 4, 2) := by decide +kernel
theorem dX6_fewestWebs_43 : decode cX6_fewestWebs 43 = .ok (.if_icmp .ge 22, 3) := by decide +kernel
theorem dX6_fewestWebs_46 : decode cX6_fewestWebs 46 = .ok (.aload_n 0, 1) := by decide +kernel
theorem dX6_fewestWebs_47 : decode cX6_fewestWebs 47 = .ok (.iload 5, 2) := by decide +kernel
theorem dX6_fewestWebs_49 : decode cX6_fewestWebs 49 = .ok (.invokevirtual 83, 3) := by decide +kernel
theorem dX6_fewestWebs_52 : decode cX6_fewestWebs 52 = .ok (.ifCond .eq 13, 3) := by decide +kernel
theorem dX6_fewestWebs_55 : decode cX6_fewestWebs 55 = .ok (.iload 5, 2) := by decide +kernel
theorem dX6_fewestWebs_57 : decode cX6_fewestWebs 57 = .ok (.istore_n 3, 1) := by decide +kernel
theorem dX6_fewestWebs_58 : decode cX6_fewestWebs 58 = .ok (.iload 5, 2) := by decide +kernel
theorem dX6_fewestWebs_60 : decode cX6_fewestWebs 60 = .ok (.invokestatic 78, 3) := by decide +kernel
theorem dX6_fewestWebs_63 : decode cX6_fewestWebs 63 = .ok (.istore 4, 2) := by decide +kernel
theorem dX6_fewestWebs_65 : decode cX6_fewestWebs 65 = .ok (.iinc 5 1, 3) := by decide +kernel
theorem dX6_fewestWebs_68 : decode cX6_fewestWebs 68 = .ok (.goto (-52), 3) := by decide +kernel
theorem dX6_fewestWebs_71 : decode cX6_fewestWebs 71 = .ok (.iload_n 3, 1) := by decide +kernel
theorem dX6_fewestWebs_72 : decode cX6_fewestWebs 72 = .ok (.ireturn, 1) := by decide +kernel
def f_X6_fewestWebs_n16 (S1 : Gr) (x2 : Int32) : Nat → Gr → Int32 → Int32 → Int32 → Option (Int32 × Gr)
  | 0, _, _, _, _ => none
  | n + 1, S0, x3, x4, x5 => if 256 ≤ x5 then (some (x3, S0)) else (if (x5 &&& ((S1.1 0) ^^^ (-1))) = 0 then ((f_J6_bitCount_0f7a4 x5).bind fun u5 => if x4 ≤ u5 then (lt' (x5 + 1) fun v7 => f_X6_fewestWebs_n16 S1 x2 n S0 x3 x4 v7) else ((f_X6_meetsAll S0 x5).bind fun u8 => if u8 = 0 then (lt' (x5 + 1) fun v10 => f_X6_fewestWebs_n16 S1 x2 n S0 x3 x4 v10) else ((f_J6_bitCount_0f7a4 x5).bind fun u11 => lt' (x5 + 1) fun v12 => f_X6_fewestWebs_n16 S1 x2 n S0 x5 u11 v12))) else (lt' (x5 + 1) fun v4 => f_X6_fewestWebs_n16 S1 x2 n S0 x3 x4 v4))
def f_X6_fewestWebs (S0 : Gr) (S1 : Gr) (x2 : Int32) : Option (Int32 × Gr) := (f_X6_listReachers S0 S1 x2).bind fun u1 => f_X6_fewestWebs_n16 S1 x2 fu u1 (-2) 9 1
set_option maxHeartbeats 4000000 in
set_option maxRecDepth 100000 in
theorem c_X6_fewestWebs (l : Launch) (E : Ec) (q0 q1 : Nat → Nat) (sz : Nat) (S0 : Gr) (S1 : Gr) (x2 : Int32) (Rv : Int32 × Gr) (h : f_X6_fewestWebs S0 S1 x2 = some Rv) : Met l yX6_fewestWebs (wsM (.code yX6_fewestWebs cX6_fewestWebs 6 (some .int))) ({ frames := 5, cells := 0, slots := 0, locals := 124 } : Room) (va_Pc [.ref (q0 0), .ref (q1 0), .int x2] (ctP E (cw_X6 E q0 S0 ++ (cw_X7 E q1 S1)) sz)) (ctI E (cw_X6 E q0 S0 ++ (cw_X7 E q1 S1)) (cw_X6 E q0 Rv.2 ++ (cw_X7 E q1 S1)) sz Rv.1) 0 0 (va_A (cw_X6 E q0 S0 ++ (cw_X7 E q1 S1)) sz) := by
  refine ct_metI (by decide) (Nat.le_of_ble_eq_true rfl) ?_
  intro p e s m ar below meth c A QM hx hb hml hown hg X hP hD hS RET ls hl
  have hown : s.vm.findClass RX6 = some m.cls := hown
  have hl : lv_has ls 6 [(0, .ref (q0 0)), (1, .ref (q1 0)), (2, .int x2)] := hl
  have RT : ∀ (v : Int32) (S0 : Gr) (H : Heap) (locs : List Loc) (ls : Array Slot) (pc : Nat), some (v, S0) = some Rv → narrow .int (.int v) = .int v → va_P E.1 vwCl (cw_X6 E q0 S0 ++ (cw_X7 E q1 S1)) H → va_D A (cw_X6 E q0 S0 ++ (cw_X7 E q1 S1)) → va_S A s.heap H locs → decode cX6_fewestWebs pc = .ok (.ireturn, 1) → W p l e ({ frames := 5, cells := 0, slots := 0, locals := 124 } : Room) s m ar below meth c H locs 0 0 QM (F0 m pc ls [.int v]) := by
    intro v S0 H locs ls pc e hn hP hD hS d
    obtain rfl := sm_e e
    exact RET H locs pc ls hn hP hD hS d
  clear RET
  have N16 : ∀ (n : Nat) (S0 : Gr) (x3 : Int32) (x4 : Int32) (x5 : Int32) (H : Heap) (locs : List Loc) (ls : Array Slot), f_X6_fewestWebs_n16 S1 x2 n S0 x3 x4 x5 = some Rv → va_P E.1 vwCl (cw_X6 E q0 S0 ++ (cw_X7 E q1 S1)) H → va_D A (cw_X6 E q0 S0 ++ (cw_X7 E q1 S1)) → va_S A s.heap H locs → lv_has ls 6 [(0, .ref (q0 0)), (1, .ref (q1 0)), (3, .int x3), (4, .int x4), (5, .int x5)] → W p l e ({ frames := 5, cells := 0, slots := 0, locals := 124 } : Room) s m ar below meth c H locs 0 0 QM (F0 m 16 ls []) := by
    intro n
    induction n with
    | zero => intro S0 x3 x4 x5 H locs ls h; exact nn_el h
    | succ n ih =>
      intro S0 x3 x4 x5 H locs ls h hP hD hS hl
      refine lv_iload hx hb dX6_fewestWebs_16 (lv_at hl 4 rfl) ?_
      refine lv_sipush (v := 256) hx hb dX6_fewestWebs_18 (by decide) ?_
      refine lv_icmp_ge (tgt := 71) hx hb dX6_fewestWebs_21 (by decide) (fun c2 => ?_) (fun c2 => ?_)
      · have h := it_t h c2
        refine lv_iload_n hx hb dX6_fewestWebs_71 rfl (lv_at hl 2 rfl) ?_
        exact RT x3 S0 _ _ _ _ h rfl hP hD hS dX6_fewestWebs_72
      · have h := it_f h c2
        refine lv_iload hx hb dX6_fewestWebs_24 (lv_at hl 4 rfl) ?_
        refine lv_aload_n hx hb dX6_fewestWebs_26 rfl (lv_at hl 1 rfl) ?_
        refine va_getN (D := E.1) (ci := 6) (v := .int (S1.1 0)) (C := RX7) (T := TX7) (N := 11) hx hb hg in_X7 hown X.1 hP 3 rfl rfl 0 (by decide) (va_Nw.use rfl (nf_X6_75 X.2.1)) (fun _ h9 => h9) rfl dX6_fewestWebs_27 ?_
        refine lv_iconst (v := (-1)) hx hb dX6_fewestWebs_30 (by decide) ?_
        refine lv_ixor hx hb dX6_fewestWebs_31 ?_
        refine lv_iand hx hb dX6_fewestWebs_32 ?_
        refine lv_if_ne (tgt := 65) hx hb dX6_fewestWebs_33 (by decide) (fun c3 => ?_) (fun c3 => ?_)
        · have h := it_f h c3
          obtain ⟨v4, ev4, h⟩ := lt_el h
          refine lv_iinc (v := v4) (lv' := [(5, .int v4), (0, .ref (q0 0)), (1, .ref (q1 0)), (3, .int x3), (4, .int x4)]) hx hb dX6_fewestWebs_65 hl (k := 4) rfl (by rw [ev4]; rfl) (by decide) rfl (fun ls hl => ?_)
          refine lv_goto (tgt := 16) hx hb dX6_fewestWebs_68 (by decide) ?_
          exact ih S0 x3 x4 v4 _ _ _ h hP hD hS (lv_sub hl [1, 2, 3, 4, 0] rfl)
        · have h := it_t h c3
          refine lv_iload hx hb dX6_fewestWebs_36 (lv_at hl 4 rfl) ?_
          obtain ⟨u5, hc, h⟩ := bd_el h
          refine ct_iN X hP hD hS (va_runS (As := [.int x5]) (rest := []) ⟨hx, hb, hml, hown, hg⟩ (c_J6_bitCount_0f7a4 l E  H.size x5 u5 hc) (va_cwS 1 hg (gwS wm_X6_78 wst_J6_bitCount_0f7a4 wini_J6 wco_J6_bitCount_0f7a4) rfl rfl rfl (by decide +kernel) ⟨Nat.le_of_ble_eq_true rfl, Nat.le_of_ble_eq_true rfl⟩) ⟨ct_blind, ct_preN X hS _⟩ rfl rfl hl.1 rfl (lv_room (Nat.le_of_ble_eq_true rfl)) dX6_fewestWebs_38 ⟨Nat.zero_le _, Nat.zero_le _⟩) (fun H locs hP hD hS => ?_)
          refine lv_iload hx hb dX6_fewestWebs_41 (lv_at hl 3 rfl) ?_
          refine lv_icmp_ge (tgt := 65) hx hb dX6_fewestWebs_43 (by decide) (fun c6 => ?_) (fun c6 => ?_)
          · have h := it_t h c6
            obtain ⟨v7, ev7, h⟩ := lt_el h
            refine lv_iinc (v := v7) (lv' := [(5, .int v7), (0, .ref (q0 0)), (1, .ref (q1 0)), (3, .int x3), (4, .int x4)]) hx hb dX6_fewestWebs_65 hl (k := 4) rfl (by rw [ev7]; rfl) (by decide) rfl (fun ls hl => ?_)
            refine lv_goto (tgt := 16) hx hb dX6_fewestWebs_68 (by decide) ?_
            exact ih S0 x3 x4 v7 _ _ _ h hP hD hS (lv_sub hl [1, 2, 3, 4, 0] rfl)
          · have h := it_f h c6
            refine lv_aload_n hx hb dX6_fewestWebs_46 rfl (lv_at hl 0 rfl) ?_
            refine lv_iload hx hb dX6_fewestWebs_47 (lv_at hl 4 rfl) ?_
            obtain ⟨u8, hc, h⟩ := bd_el h
            have hC : ([0, 1, 2] : List Nat).map (fun i => (cw_X6 E q0 S0 ++ (cw_X7 E q1 S1))[i]?) = (cw_X6 E q0 S0).map some := rfl
            refine ct_iR X hP hD hS [0, 1, 2] hC (va_runV (C := RX6) (As := [.int x5]) (rest := []) ⟨hx, hb, hml, hown, hg⟩ (c_X6_meetsAll l E q0 H.size S0 x5 u8 hc) (cwV 1 hg (gwV wm_X6_83 wi_X6_meetsAll wsl_X6_meetsAll wini_X6 wco_X6_meetsAll) rfl rfl rfl (by decide +kernel) ⟨Nat.le_of_ble_eq_true rfl, Nat.le_of_ble_eq_true rfl⟩) ⟨ct_blind, ct_rv X.1 hP 0 rfl rfl, ct_pre X hP hD hS [0, 1, 2] (by decide) hC _⟩ rfl rfl hl.1 rfl (lv_room (Nat.le_of_ble_eq_true rfl)) dX6_fewestWebs_49 ⟨Nat.zero_le _, Nat.zero_le _⟩) (fun H locs hP hD hS => ?_)
            clear hC
            refine lv_if_eq (tgt := 65) hx hb dX6_fewestWebs_52 (by decide) (fun c9 => ?_) (fun c9 => ?_)
            · have h := it_t h c9
              obtain ⟨v10, ev10, h⟩ := lt_el h
              refine lv_iinc (v := v10) (lv' := [(5, .int v10), (0, .ref (q0 0)), (1, .ref (q1 0)), (3, .int x3), (4, .int x4)]) hx hb dX6_fewestWebs_65 hl (k := 4) rfl (by rw [ev10]; rfl) (by decide) rfl (fun ls hl => ?_)
              refine lv_goto (tgt := 16) hx hb dX6_fewestWebs_68 (by decide) ?_
              exact ih S0 x3 x4 v10 _ _ _ h hP hD hS (lv_sub hl [1, 2, 3, 4, 0] rfl)
            · have h := it_f h c9
              refine lv_iload hx hb dX6_fewestWebs_55 (lv_at hl 4 rfl) ?_
              refine lv_istore_n (lv' := [(3, .int x5), (0, .ref (q0 0)), (1, .ref (q1 0)), (4, .int x4), (5, .int x5)]) hx hb dX6_fewestWebs_57 rfl hl (by decide) rfl (fun ls hl => ?_)
              refine lv_iload hx hb dX6_fewestWebs_58 (lv_at hl 4 rfl) ?_
              obtain ⟨u11, hc, h⟩ := bd_el h
              refine ct_iN X hP hD hS (va_runS (As := [.int x5]) (rest := []) ⟨hx, hb, hml, hown, hg⟩ (c_J6_bitCount_0f7a4 l E  H.size x5 u11 hc) (va_cwS 1 hg (gwS wm_X6_78 wst_J6_bitCount_0f7a4 wini_J6 wco_J6_bitCount_0f7a4) rfl rfl rfl (by decide +kernel) ⟨Nat.le_of_ble_eq_true rfl, Nat.le_of_ble_eq_true rfl⟩) ⟨ct_blind, ct_preN X hS _⟩ rfl rfl hl.1 rfl (lv_room (Nat.le_of_ble_eq_true rfl)) dX6_fewestWebs_60 ⟨Nat.zero_le _, Nat.zero_le _⟩) (fun H locs hP hD hS => ?_)
              refine lv_istore (lv' := [(4, .int u11), (3, .int x5), (0, .ref (q0 0)), (1, .ref (q1 0)), (5, .int x5)]) hx hb dX6_fewestWebs_63 hl (by decide) rfl (fun ls hl => ?_)
              obtain ⟨v12, ev12, h⟩ := lt_el h
              refine lv_iinc (v := v12) (lv' := [(5, .int v12), (4, .int u11), (3, .int x5), (0, .ref (q0 0)), (1, .ref (q1 0))]) hx hb dX6_fewestWebs_65 hl (k := 4) rfl (by rw [ev12]; rfl) (by decide) rfl (fun ls hl => ?_)
              refine lv_goto (tgt := 16) hx hb dX6_fewestWebs_68 (by decide) ?_
              exact ih S0 x5 u11 v12 _ _ _ h hP hD hS (lv_sub hl [3, 4, 2, 1, 0] rfl)
  obtain ⟨H, eH⟩ : ∃ z, z = s.heap := ⟨_, rfl⟩
  rw [← eH]
  have hP : va_P E.1 vwCl (cw_X6 E q0 S0 ++ (cw_X7 E q1 S1)) H := by rw [eH]; exact hP
  have hS : va_S A s.heap H [] := by rw [eH]; exact hS
  clear eH
  obtain ⟨locs, el⟩ : ∃ z : List Loc, z = [] := ⟨_, rfl⟩
  rw [← el] at hS ⊢
  clear el
  refine lv_aload_n hx hb dX6_fewestWebs_0 rfl (lv_at hl 0 rfl) ?_
  refine lv_aload_n hx hb dX6_fewestWebs_1 rfl (lv_at hl 1 rfl) ?_
  refine lv_iload_n hx hb dX6_fewestWebs_2 rfl (lv_at hl 2 rfl) ?_
  obtain ⟨u1, hc, h⟩ := bd_el h
  refine ct_vA (w1 := cw_X6 E q0 u1 ++ (cw_X7 E q1 S1)) X hP hD hS (va_runV (C := RX6) (As := [.ref (q1 0), .int x2]) (rest := []) ⟨hx, hb, hml, hown, hg⟩ (c_X6_listReachers l E q0 q1 H.size S0 S1 x2 u1 hc) (cwV 2 hg (gwV wm_X6_71 wi_X6_listReachers wsl_X6_listReachers wini_X6 wco_X6_listReachers) rfl rfl rfl (by decide +kernel) ⟨Nat.le_of_ble_eq_true rfl, Nat.le_of_ble_eq_true rfl⟩) ⟨ct_blind, ct_rv X.1 hP 0 rfl rfl, ct_preA X hP hD hS _⟩ rfl rfl hl.1 rfl (lv_room (Nat.le_of_ble_eq_true rfl)) dX6_fewestWebs_3 ⟨Nat.zero_le _, Nat.zero_le _⟩) (fun H locs hP hD hS => ?_)
  refine lv_bipush (v := (-2)) hx hb dX6_fewestWebs_6 (by decide) ?_
  refine lv_istore_n (lv' := [(3, .int (-2)), (0, .ref (q0 0)), (1, .ref (q1 0)), (2, .int x2)]) hx hb dX6_fewestWebs_8 rfl hl (by decide) rfl (fun ls hl => ?_)
  refine lv_bipush (v := 9) hx hb dX6_fewestWebs_9 (by decide) ?_
  refine lv_istore (lv' := [(4, .int 9), (3, .int (-2)), (0, .ref (q0 0)), (1, .ref (q1 0)), (2, .int x2)]) hx hb dX6_fewestWebs_11 hl (by decide) rfl (fun ls hl => ?_)
  refine lv_iconst (v := 1) hx hb dX6_fewestWebs_13 (by decide) ?_
  refine lv_istore (lv' := [(5, .int 1), (4, .int 9), (3, .int (-2)), (0, .ref (q0 0)), (1, .ref (q1 0)), (2, .int x2)]) hx hb dX6_fewestWebs_14 hl (by decide) rfl (fun ls hl => ?_)
  exact N16 fu u1 (-2) 9 1 _ _ _ h hP hD hS (lv_sub hl [3, 4, 2, 1, 0] rfl)
theorem dX6_isOnWay_0 : decode cX6_isOnWay 0 = .ok (.iload_n 0, 1) := by decide +kernel
theorem dX6_isOnWay_1 : decode cX6_isOnWay 1 = .ok (.iload_n 1, 1) := by decide +kernel
theorem dX6_isOnWay_2 : decode cX6_isOnWay 2 = .ok (.invokestatic 68, 3) := by decide +kernel
theorem dX6_isOnWay_5 : decode cX6_isOnWay 5 = .ok (.istore_n 3, 1) := by decide +kernel
theorem dX6_isOnWay_6 : decode cX6_isOnWay 6 = .ok (.iload_n 3, 1) := by decide +kernel
theorem dX6_isOnWay_7 : decode cX6_isOnWay 7 = .ok (.ifCond .le 27, 3) := by decide +kernel
theorem dX6_isOnWay_10 : decode cX6_isOnWay 10 = .ok (.iload_n 0, 1) := by decide +kernel
theorem dX6_isOnWay_11 : decode cX6_isOnWay 11 = .ok (.iload_n 3, 1) := by decide +kernel
theorem dX6_isOnWay_12 : decode cX6_isOnWay 12 = .ok (.iload_n 2, 1) := by decide +kernel
theorem dX6_isOnWay_13 : decode cX6_isOnWay 13 = .ok (.invokestatic 51, 3) := by decide +kernel
theorem dX6_isOnWay_16 : decode cX6_isOnWay 16 = .ok (.imul, 1) := by decide +kernel
theorem dX6_isOnWay_17 : decode cX6_isOnWay 17 = .ok (.if_icmp .ne 17, 3) := by decide +kernel
theorem dX6_isOnWay_20 : decode cX6_isOnWay 20 = .ok (.iload_n 1, 1) := by decide +kernel
theorem dX6_isOnWay_21 : decode cX6_isOnWay 21 = .ok (.iload_n 3, 1) := by decide +kernel
theorem dX6_isOnWay_22 : decode cX6_isOnWay 22 = .ok (.iload_n 2, 1) := by decide +kernel
theorem dX6_isOnWay_23 : decode cX6_isOnWay 23 = .ok (.invokestatic 54, 3) := by decide +kernel
theorem dX6_isOnWay_26 : decode cX6_isOnWay 26 = .ok (.imul, 1) := by decide +kernel
theorem dX6_isOnWay_27 : decode cX6_isOnWay 27 = .ok (.if_icmp .ne 7, 3) := by decide +kernel
theorem dX6_isOnWay_30 : decode cX6_isOnWay 30 = .ok (.iconst 1, 1) := by decide +kernel
theorem dX6_isOnWay_31 : decode cX6_isOnWay 31 = .ok (.goto 4, 3) := by decide +kernel
theorem dX6_isOnWay_34 : decode cX6_isOnWay 34 = .ok (.iconst 0, 1) := by decide +kernel
theorem dX6_isOnWay_35 : decode cX6_isOnWay 35 = .ok (.ireturn, 1) := by decide +kernel
def f_X6_isOnWay (x0 : Int32) (x1 : Int32) (x2 : Int32) : Option (Int32) := (f_X1_distance x0 x1).bind fun u1 => if u1 ≤ 0 then (some 0) else ((f_X1_stepAcross x2).bind fun u3 => if x0 = (u1 * u3) then ((f_X1_stepAlong x2).bind fun u5 => if x1 = (u1 * u5) then (some 1) else (some 0)) else (some 0))
set_option maxHeartbeats 4000000 in
set_option maxRecDepth 100000 in
theorem c_X6_isOnWay (l : Launch) (E : Ec) (sz : Nat) (x0 : Int32) (x1 : Int32) (x2 : Int32) (Rv : Int32) (h : f_X6_isOnWay x0 x1 x2 = some Rv) : Met l yX6_isOnWay (wsM (.code yX6_isOnWay cX6_isOnWay 4 (some .boolean))) ({ frames := 2, cells := 0, slots := 0, locals := 51 } : Room) (va_Pc [.int x0, .int x1, .int x2] (ctP E ([]) sz)) (ctI E ([]) ([]) sz Rv) 0 0 (va_A ([]) sz) := by
  refine ct_metI (by decide) (Nat.le_of_ble_eq_true rfl) ?_
  intro p e s m ar below meth c A QM hx hb hml hown hg X hP hD hS RET ls hl
  have hown : s.vm.findClass RX6 = some m.cls := hown
  have hl : lv_has ls 4 [(0, .int x0), (1, .int x1), (2, .int x2)] := hl
  have RT : ∀ (v : Int32) (H : Heap) (locs : List Loc) (ls : Array Slot) (pc : Nat), some v = some Rv → narrow .boolean (.int v) = .int v → va_P E.1 vwCl ([]) H → va_D A ([]) → va_S A s.heap H locs → decode cX6_isOnWay pc = .ok (.ireturn, 1) → W p l e ({ frames := 2, cells := 0, slots := 0, locals := 51 } : Room) s m ar below meth c H locs 0 0 QM (F0 m pc ls [.int v]) := by
    intro v H locs ls pc e hn hP hD hS d
    obtain rfl := sm_e e
    exact RET H locs pc ls hn hP hD hS d
  clear RET
  obtain ⟨H, eH⟩ : ∃ z, z = s.heap := ⟨_, rfl⟩
  rw [← eH]
  have hP : va_P E.1 vwCl ([]) H := by rw [eH]; exact hP
  have hS : va_S A s.heap H [] := by rw [eH]; exact hS
  clear eH
  obtain ⟨locs, el⟩ : ∃ z : List Loc, z = [] := ⟨_, rfl⟩
  rw [← el] at hS ⊢
  clear el
  refine lv_iload_n hx hb dX6_isOnWay_0 rfl (lv_at hl 0 rfl) ?_
  refine lv_iload_n hx hb dX6_isOnWay_1 rfl (lv_at hl 1 rfl) ?_
  obtain ⟨u1, hc, h⟩ := bd_el h
  refine ct_iN X hP hD hS (va_runS (As := [.int x0, .int x1]) (rest := []) ⟨hx, hb, hml, hown, hg⟩ (c_X1_distance l E  H.size x0 x1 u1 hc) (va_cwS 2 hg (gwS wm_X6_68 wst_X1_distance wini_X1 wco_X1_distance) rfl rfl rfl (by decide +kernel) ⟨Nat.le_of_ble_eq_true rfl, Nat.le_of_ble_eq_true rfl⟩) ⟨ct_blind, ct_preN X hS _⟩ rfl rfl hl.1 rfl (lv_room (Nat.le_of_ble_eq_true rfl)) dX6_isOnWay_2 ⟨Nat.zero_le _, Nat.zero_le _⟩) (fun H locs hP hD hS => ?_)
  refine lv_istore_n (lv' := [(3, .int u1), (0, .int x0), (1, .int x1), (2, .int x2)]) hx hb dX6_isOnWay_5 rfl hl (by decide) rfl (fun ls hl => ?_)
  refine lv_iload_n hx hb dX6_isOnWay_6 rfl (lv_at hl 0 rfl) ?_
  refine lv_if_le (tgt := 34) hx hb dX6_isOnWay_7 (by decide) (fun c2 => ?_) (fun c2 => ?_)
  · have h := it_t h c2
    refine lv_iconst (v := 0) hx hb dX6_isOnWay_34 (by decide) ?_
    exact RT 0 _ _ _ _ h (by decide +kernel) hP hD hS dX6_isOnWay_35
  · have h := it_f h c2
    refine lv_iload_n hx hb dX6_isOnWay_10 rfl (lv_at hl 1 rfl) ?_
    refine lv_iload_n hx hb dX6_isOnWay_11 rfl (lv_at hl 0 rfl) ?_
    refine lv_iload_n hx hb dX6_isOnWay_12 rfl (lv_at hl 3 rfl) ?_
    obtain ⟨u3, hc, h⟩ := bd_el h
    refine ct_iN X hP hD hS (va_runS (As := [.int x2]) (rest := [.int u1, .int x0]) ⟨hx, hb, hml, hown, hg⟩ (c_X1_stepAcross l E  H.size x2 u3 hc) (va_cwS 1 hg (gwS wm_X6_51 wst_X1_stepAcross wini_X1 wco_X1_stepAcross) rfl rfl rfl (by decide +kernel) ⟨Nat.le_of_ble_eq_true rfl, Nat.le_of_ble_eq_true rfl⟩) ⟨ct_blind, ct_preN X hS _⟩ rfl rfl hl.1 rfl (lv_room (Nat.le_of_ble_eq_true rfl)) dX6_isOnWay_13 ⟨Nat.zero_le _, Nat.zero_le _⟩) (fun H locs hP hD hS => ?_)
    refine lv_imul hx hb dX6_isOnWay_16 ?_
    refine lv_icmp_ne (tgt := 34) hx hb dX6_isOnWay_17 (by decide) (fun c4 => ?_) (fun c4 => ?_)
    · have h := it_f h c4
      refine lv_iconst (v := 0) hx hb dX6_isOnWay_34 (by decide) ?_
      exact RT 0 _ _ _ _ h (by decide +kernel) hP hD hS dX6_isOnWay_35
    · have h := it_t h c4
      refine lv_iload_n hx hb dX6_isOnWay_20 rfl (lv_at hl 2 rfl) ?_
      refine lv_iload_n hx hb dX6_isOnWay_21 rfl (lv_at hl 0 rfl) ?_
      refine lv_iload_n hx hb dX6_isOnWay_22 rfl (lv_at hl 3 rfl) ?_
      obtain ⟨u5, hc, h⟩ := bd_el h
      refine ct_iN X hP hD hS (va_runS (As := [.int x2]) (rest := [.int u1, .int x1]) ⟨hx, hb, hml, hown, hg⟩ (c_X1_stepAlong l E  H.size x2 u5 hc) (va_cwS 1 hg (gwS wm_X6_54 wst_X1_stepAlong wini_X1 wco_X1_stepAlong) rfl rfl rfl (by decide +kernel) ⟨Nat.le_of_ble_eq_true rfl, Nat.le_of_ble_eq_true rfl⟩) ⟨ct_blind, ct_preN X hS _⟩ rfl rfl hl.1 rfl (lv_room (Nat.le_of_ble_eq_true rfl)) dX6_isOnWay_23 ⟨Nat.zero_le _, Nat.zero_le _⟩) (fun H locs hP hD hS => ?_)
      refine lv_imul hx hb dX6_isOnWay_26 ?_
      refine lv_icmp_ne (tgt := 34) hx hb dX6_isOnWay_27 (by decide) (fun c6 => ?_) (fun c6 => ?_)
      · have h := it_f h c6
        refine lv_iconst (v := 0) hx hb dX6_isOnWay_34 (by decide) ?_
        exact RT 0 _ _ _ _ h (by decide +kernel) hP hD hS dX6_isOnWay_35
      · have h := it_t h c6
        refine lv_iconst (v := 1) hx hb dX6_isOnWay_30 (by decide) ?_
        refine lv_goto (tgt := 35) hx hb dX6_isOnWay_31 (by decide) ?_
        exact RT 1 _ _ _ _ h (by decide +kernel) hP hD hS dX6_isOnWay_35
theorem dX6_crossing_0 : decode cX6_crossing 0 = .ok (.iconst 1, 1) := by decide +kernel
theorem dX6_crossing_1 : decode cX6_crossing 1 = .ok (.istore 6, 2) := by decide +kernel
theorem dX6_crossing_3 : decode cX6_crossing 3 = .ok (.iload 6, 2) := by decide +kernel
theorem dX6_crossing_5 : decode cX6_crossing 5 = .ok (.bipush 24, 2) := by decide +kernel
theorem dX6_crossing_7 : decode cX6_crossing 7 = .ok (.if_icmp .ge 90, 3) := by decide +kernel
theorem dX6_crossing_10 : decode cX6_crossing 10 = .ok (.aload_n 1, 1) := by decide +kernel
theorem dX6_crossing_11 : decode cX6_crossing 11 = .ok (.getfield 39, 3) := by decide +kernel
theorem dX6_crossing_14 : decode cX6_crossing 14 = .ok (.iload_n 2, 1) := by decide +kernel
theorem dX6_crossing_15 : decode cX6_crossing 15 = .ok (.iaload, 1) := by decide +kernel
theorem dX6_crossing_16 : decode cX6_crossing 16 = .ok (.iload 6, 2) := by decide +kernel
theorem dX6_crossing_18 : decode cX6_crossing 18 = .ok (.iload_n 3, 1) := by decide +kernel
theorem dX6_crossing_19 : decode cX6_crossing 19 = .ok (.invokestatic 51, 3) := by decide +kernel
theorem dX6_crossing_22 : decode cX6_crossing 22 = .ok (.imul, 1) := by decide +kernel
theorem dX6_crossing_23 : decode cX6_crossing 23 = .ok (.iadd, 1) := by decide +kernel
theorem dX6_crossing_24 : decode cX6_crossing 24 = .ok (.istore 7, 2) := by decide +kernel
theorem dX6_crossing_26 : decode cX6_crossing 26 = .ok (.aload_n 1, 1) := by decide +kernel
theorem dX6_crossing_27 : decode cX6_crossing 27 = .ok (.getfield 42, 3) := by decide +kernel
theorem dX6_crossing_30 : decode cX6_crossing 30 = .ok (.iload_n 2, 1) := by decide +kernel
theorem dX6_crossing_31 : decode cX6_crossing 31 = .ok (.iaload, 1) := by decide +kernel
theorem dX6_crossing_32 : decode cX6_crossing 32 = .ok (.iload 6, 2) := by decide +kernel
theorem dX6_crossing_34 : decode cX6_crossing 34 = .ok (.iload_n 3, 1) := by decide +kernel
theorem dX6_crossing_35 : decode cX6_crossing 35 = .ok (.invokestatic 54, 3) := by decide +kernel
theorem dX6_crossing_38 : decode cX6_crossing 38 = .ok (.imul, 1) := by decide +kernel
theorem dX6_crossing_39 : decode cX6_crossing 39 = .ok (.iadd, 1) := by decide +kernel
theorem dX6_crossing_40 : decode cX6_crossing 40 = .ok (.istore 8, 2) := by decide +kernel
theorem dX6_crossing_42 : decode cX6_crossing 42 = .ok (.iload 7, 2) := by decide +kernel
theorem dX6_crossing_44 : decode cX6_crossing 44 = .ok (.iload 8, 2) := by decide +kernel
theorem dX6_crossing_46 : decode cX6_crossing 46 = .ok (.invokestatic 57, 3) := by decide +kernel
theorem dX6_crossing_49 : decode cX6_crossing 49 = .ok (.ifCond .ne 6, 3) := by decide +kernel
theorem dX6_crossing_52 : decode cX6_crossing 52 = .ok (.bipush (-2), 2) := by decide +kernel
theorem dX6_crossing_54 : decode cX6_crossing 54 = .ok (.ireturn, 1) := by decide +kernel
theorem dX6_crossing_55 : decode cX6_crossing 55 = .ok (.iload 7, 2) := by decide +kernel
theorem dX6_crossing_57 : decode cX6_crossing 57 = .ok (.aload_n 1, 1) := by decide +kernel
theorem dX6_crossing_58 : decode cX6_crossing 58 = .ok (.getfield 39, 3) := by decide +kernel
theorem dX6_crossing_61 : decode cX6_crossing 61 = .ok (.iload 4, 2) := by decide +kernel
theorem dX6_crossing_63 : decode cX6_crossing 63 = .ok (.iaload, 1) := by decide +kernel
theorem dX6_crossing_64 : decode cX6_crossing 64 = .ok (.isub, 1) := by decide +kernel
theorem dX6_crossing_65 : decode cX6_crossing 65 = .ok (.iload 8, 2) := by decide +kernel
theorem dX6_crossing_67 : decode cX6_crossing 67 = .ok (.aload_n 1, 1) := by decide +kernel
theorem dX6_crossing_68 : decode cX6_crossing 68 = .ok (.getfield 42, 3) := by decide +kernel
theorem dX6_crossing_71 : decode cX6_crossing 71 = .ok (.iload 4, 2) := by decide +kernel
theorem dX6_crossing_73 : decode cX6_crossing 73 = .ok (.iaload, 1) := by decide +kernel
theorem dX6_crossing_74 : decode cX6_crossing 74 = .ok (.isub, 1) := by decide +kernel
theorem dX6_crossing_75 : decode cX6_crossing 75 = .ok (.iload 5, 2) := by decide +kernel
theorem dX6_crossing_77 : decode cX6_crossing 77 = .ok (.invokestatic 61, 3) := by decide +kernel
theorem dX6_crossing_80 : decode cX6_crossing 80 = .ok (.ifCond .eq 11, 3) := by decide +kernel
theorem dX6_crossing_83 : decode cX6_crossing 83 = .ok (.iload 7, 2) := by decide +kernel
theorem dX6_crossing_85 : decode cX6_crossing 85 = .ok (.iload 8, 2) := by decide +kernel
theorem dX6_crossing_87 : decode cX6_crossing 87 = .ok (.invokestatic 65, 3) := by decide +kernel
theorem dX6_crossing_90 : decode cX6_crossing 90 = .ok (.ireturn, 1) := by decide +kernel
theorem dX6_crossing_91 : decode cX6_crossing 91 = .ok (.iinc 6 1, 3) := by decide +kernel
theorem dX6_crossing_94 : decode cX6_crossing 94 = .ok (.goto (-91), 3) := by decide +kernel
theorem dX6_crossing_97 : decode cX6_crossing 97 = .ok (.bipush (-2), 2) := by decide +kernel
theorem dX6_crossing_99 : decode cX6_crossing 99 = .ok (.ireturn, 1) := by decide +kernel
def f_X6_crossing_n3 (S0 : Gr) (S1 : Gr) (x2 : Int32) (x3 : Int32) (x4 : Int32) (x5 : Int32) : Nat → Int32 → Option (Int32)
  | 0, _ => none
  | n + 1, x6 => if 24 ≤ x6 then (some (-2)) else (rd' (S1.2 2) 8 x2 fun v2 => (f_X1_stepAcross x3).bind fun u3 => lt' ((v2 + (x6 * u3))) fun v4 => rd' (S1.2 3) 8 x2 fun v5 => (f_X1_stepAlong x3).bind fun u6 => lt' ((v5 + (x6 * u6))) fun v7 => (f_X1_onChart v4 v7).bind fun u8 => if u8 = 0 then (some (-2)) else (rd' (S1.2 2) 8 x4 fun v10 => rd' (S1.2 3) 8 x4 fun v11 => (f_X6_isOnWay (v4 - v10) (v7 - v11) x5).bind fun u12 => if u12 = 0 then (lt' (x6 + 1) fun v14 => f_X6_crossing_n3 S0 S1 x2 x3 x4 x5 n v14) else ((f_X1_place v4 v7).bind fun u15 => some u15)))
def f_X6_crossing (S0 : Gr) (S1 : Gr) (x2 : Int32) (x3 : Int32) (x4 : Int32) (x5 : Int32) : Option (Int32) := f_X6_crossing_n3 S0 S1 x2 x3 x4 x5 fu 1
set_option maxHeartbeats 4000000 in
set_option maxRecDepth 100000 in
theorem c_X6_crossing (l : Launch) (E : Ec) (q0 q1 : Nat → Nat) (sz : Nat) (S0 : Gr) (S1 : Gr) (x2 : Int32) (x3 : Int32) (x4 : Int32) (x5 : Int32) (Rv : Int32) (h : f_X6_crossing S0 S1 x2 x3 x4 x5 = some Rv) : Met l yX6_crossing (wsM (.code yX6_crossing cX6_crossing 9 (some .int))) ({ frames := 3, cells := 0, slots := 0, locals := 74 } : Room) (va_Pc [.ref (q0 0), .ref (q1 0), .int x2, .int x3, .int x4, .int x5] (ctP E (cw_X6 E q0 S0 ++ (cw_X7 E q1 S1)) sz)) (ctI E (cw_X6 E q0 S0 ++ (cw_X7 E q1 S1)) (cw_X6 E q0 S0 ++ (cw_X7 E q1 S1)) sz Rv) 0 0 (va_A (cw_X6 E q0 S0 ++ (cw_X7 E q1 S1)) sz) := by
  refine ct_metI (by decide) (Nat.le_of_ble_eq_true rfl) ?_
  intro p e s m ar below meth c A QM hx hb hml hown hg X hP hD hS RET ls hl
  have hown : s.vm.findClass RX6 = some m.cls := hown
  have hl : lv_has ls 9 [(0, .ref (q0 0)), (1, .ref (q1 0)), (2, .int x2), (3, .int x3), (4, .int x4), (5, .int x5)] := hl
  have RT : ∀ (v : Int32) (H : Heap) (locs : List Loc) (ls : Array Slot) (pc : Nat), some v = some Rv → narrow .int (.int v) = .int v → va_P E.1 vwCl (cw_X6 E q0 S0 ++ (cw_X7 E q1 S1)) H → va_D A (cw_X6 E q0 S0 ++ (cw_X7 E q1 S1)) → va_S A s.heap H locs → decode cX6_crossing pc = .ok (.ireturn, 1) → W p l e ({ frames := 3, cells := 0, slots := 0, locals := 74 } : Room) s m ar below meth c H locs 0 0 QM (F0 m pc ls [.int v]) := by
    intro v H locs ls pc e hn hP hD hS d
    obtain rfl := sm_e e
    exact RET H locs pc ls hn hP hD hS d
  clear RET
  have N3 : ∀ (n : Nat) (x6 : Int32) (H : Heap) (locs : List Loc) (ls : Array Slot), f_X6_crossing_n3 S0 S1 x2 x3 x4 x5 n x6 = some Rv → va_P E.1 vwCl (cw_X6 E q0 S0 ++ (cw_X7 E q1 S1)) H → va_D A (cw_X6 E q0 S0 ++ (cw_X7 E q1 S1)) → va_S A s.heap H locs → lv_has ls 9 [(1, .ref (q1 0)), (2, .int x2), (3, .int x3), (4, .int x4), (5, .int x5), (6, .int x6)] → W p l e ({ frames := 3, cells := 0, slots := 0, locals := 74 } : Room) s m ar below meth c H locs 0 0 QM (F0 m 3 ls []) := by
    intro n
    induction n with
    | zero => intro x6 H locs ls h; exact nn_el h
    | succ n ih =>
      intro x6 H locs ls h hP hD hS hl
      refine lv_iload hx hb dX6_crossing_3 (lv_at hl 5 rfl) ?_
      refine lv_bipush (v := 24) hx hb dX6_crossing_5 (by decide) ?_
      refine lv_icmp_ge (tgt := 97) hx hb dX6_crossing_7 (by decide) (fun c1 => ?_) (fun c1 => ?_)
      · have h := it_t h c1
        refine lv_bipush (v := (-2)) hx hb dX6_crossing_97 (by decide) ?_
        exact RT (-2) _ _ _ _ h rfl hP hD hS dX6_crossing_99
      · have h := it_f h c1
        refine lv_aload_n hx hb dX6_crossing_10 rfl (lv_at hl 0 rfl) ?_
        refine va_getN (D := E.1) (ci := 6) (v := .ref (q1 1)) (C := RX7) (T := TX7) (N := 11) hx hb hg in_X7 hown X.1 hP 3 rfl rfl 2 (by decide) (va_Nw.use rfl (nf_X6_39 X.2.1)) (fun _ h9 => h9) rfl dX6_crossing_11 ?_
        refine lv_iload_n hx hb dX6_crossing_14 rfl (lv_at hl 1 rfl) ?_
        obtain ⟨hi, v2, ev2, h⟩ := rd_el h
        refine va_iald hx hb X.1 hP 4 0 rfl rfl hi dX6_crossing_15 ?_
        refine lv_top' ev2 ?_
        refine lv_iload hx hb dX6_crossing_16 (lv_at hl 5 rfl) ?_
        refine lv_iload_n hx hb dX6_crossing_18 rfl (lv_at hl 2 rfl) ?_
        obtain ⟨u3, hc, h⟩ := bd_el h
        refine ct_iN X hP hD hS (va_runS (As := [.int x3]) (rest := [.int x6, .int v2]) ⟨hx, hb, hml, hown, hg⟩ (c_X1_stepAcross l E  H.size x3 u3 hc) (va_cwS 1 hg (gwS wm_X6_51 wst_X1_stepAcross wini_X1 wco_X1_stepAcross) rfl rfl rfl (by decide +kernel) ⟨Nat.le_of_ble_eq_true rfl, Nat.le_of_ble_eq_true rfl⟩) ⟨ct_blind, ct_preN X hS _⟩ rfl rfl hl.1 rfl (lv_room (Nat.le_of_ble_eq_true rfl)) dX6_crossing_19 ⟨Nat.zero_le _, Nat.zero_le _⟩) (fun H locs hP hD hS => ?_)
        refine lv_imul hx hb dX6_crossing_22 ?_
        refine lv_iadd hx hb dX6_crossing_23 ?_
        obtain ⟨v4, ev4, h⟩ := lt_el h
        refine lv_top' ev4 ?_
        refine lv_istore (lv' := [(7, .int v4), (1, .ref (q1 0)), (2, .int x2), (3, .int x3), (4, .int x4), (5, .int x5), (6, .int x6)]) hx hb dX6_crossing_24 hl (by decide) rfl (fun ls hl => ?_)
        refine lv_aload_n hx hb dX6_crossing_26 rfl (lv_at hl 1 rfl) ?_
        refine va_getN (D := E.1) (ci := 6) (v := .ref (q1 2)) (C := RX7) (T := TX7) (N := 11) hx hb hg in_X7 hown X.1 hP 3 rfl rfl 3 (by decide) (va_Nw.use rfl (nf_X6_42 X.2.1)) (fun _ h9 => h9) rfl dX6_crossing_27 ?_
        refine lv_iload_n hx hb dX6_crossing_30 rfl (lv_at hl 2 rfl) ?_
        obtain ⟨hi, v5, ev5, h⟩ := rd_el h
        refine va_iald hx hb X.1 hP 5 0 rfl rfl hi dX6_crossing_31 ?_
        refine lv_top' ev5 ?_
        refine lv_iload hx hb dX6_crossing_32 (lv_at hl 6 rfl) ?_
        refine lv_iload_n hx hb dX6_crossing_34 rfl (lv_at hl 3 rfl) ?_
        obtain ⟨u6, hc, h⟩ := bd_el h
        refine ct_iN X hP hD hS (va_runS (As := [.int x3]) (rest := [.int x6, .int v5]) ⟨hx, hb, hml, hown, hg⟩ (c_X1_stepAlong l E  H.size x3 u6 hc) (va_cwS 1 hg (gwS wm_X6_54 wst_X1_stepAlong wini_X1 wco_X1_stepAlong) rfl rfl rfl (by decide +kernel) ⟨Nat.le_of_ble_eq_true rfl, Nat.le_of_ble_eq_true rfl⟩) ⟨ct_blind, ct_preN X hS _⟩ rfl rfl hl.1 rfl (lv_room (Nat.le_of_ble_eq_true rfl)) dX6_crossing_35 ⟨Nat.zero_le _, Nat.zero_le _⟩) (fun H locs hP hD hS => ?_)
        refine lv_imul hx hb dX6_crossing_38 ?_
        refine lv_iadd hx hb dX6_crossing_39 ?_
        obtain ⟨v7, ev7, h⟩ := lt_el h
        refine lv_top' ev7 ?_
        refine lv_istore (lv' := [(8, .int v7), (7, .int v4), (1, .ref (q1 0)), (2, .int x2), (3, .int x3), (4, .int x4), (5, .int x5), (6, .int x6)]) hx hb dX6_crossing_40 hl (by decide) rfl (fun ls hl => ?_)
        refine lv_iload hx hb dX6_crossing_42 (lv_at hl 1 rfl) ?_
        refine lv_iload hx hb dX6_crossing_44 (lv_at hl 0 rfl) ?_
        obtain ⟨u8, hc, h⟩ := bd_el h
        refine ct_iN X hP hD hS (va_runS (As := [.int v4, .int v7]) (rest := []) ⟨hx, hb, hml, hown, hg⟩ (c_X1_onChart l E  H.size v4 v7 u8 hc) (va_cwS 2 hg (gwS wm_X6_57 wst_X1_onChart wini_X1 wco_X1_onChart) rfl rfl rfl (by decide +kernel) ⟨Nat.le_of_ble_eq_true rfl, Nat.le_of_ble_eq_true rfl⟩) ⟨ct_blind, ct_preN X hS _⟩ rfl rfl hl.1 rfl (lv_room (Nat.le_of_ble_eq_true rfl)) dX6_crossing_46 ⟨Nat.zero_le _, Nat.zero_le _⟩) (fun H locs hP hD hS => ?_)
        refine lv_if_ne (tgt := 55) hx hb dX6_crossing_49 (by decide) (fun c9 => ?_) (fun c9 => ?_)
        · have h := it_f h c9
          refine lv_iload hx hb dX6_crossing_55 (lv_at hl 1 rfl) ?_
          refine lv_aload_n hx hb dX6_crossing_57 rfl (lv_at hl 2 rfl) ?_
          refine va_getN (D := E.1) (ci := 6) (v := .ref (q1 1)) (C := RX7) (T := TX7) (N := 11) hx hb hg in_X7 hown X.1 hP 3 rfl rfl 2 (by decide) (va_Nw.use rfl (nf_X6_39 X.2.1)) (fun _ h9 => h9) rfl dX6_crossing_58 ?_
          refine lv_iload hx hb dX6_crossing_61 (lv_at hl 5 rfl) ?_
          obtain ⟨hi, v10, ev10, h⟩ := rd_el h
          refine va_iald hx hb X.1 hP 4 0 rfl rfl hi dX6_crossing_63 ?_
          refine lv_top' ev10 ?_
          refine lv_isub hx hb dX6_crossing_64 ?_
          refine lv_iload hx hb dX6_crossing_65 (lv_at hl 0 rfl) ?_
          refine lv_aload_n hx hb dX6_crossing_67 rfl (lv_at hl 2 rfl) ?_
          refine va_getN (D := E.1) (ci := 6) (v := .ref (q1 2)) (C := RX7) (T := TX7) (N := 11) hx hb hg in_X7 hown X.1 hP 3 rfl rfl 3 (by decide) (va_Nw.use rfl (nf_X6_42 X.2.1)) (fun _ h9 => h9) rfl dX6_crossing_68 ?_
          refine lv_iload hx hb dX6_crossing_71 (lv_at hl 5 rfl) ?_
          obtain ⟨hi, v11, ev11, h⟩ := rd_el h
          refine va_iald hx hb X.1 hP 5 0 rfl rfl hi dX6_crossing_73 ?_
          refine lv_top' ev11 ?_
          refine lv_isub hx hb dX6_crossing_74 ?_
          refine lv_iload hx hb dX6_crossing_75 (lv_at hl 6 rfl) ?_
          obtain ⟨u12, hc, h⟩ := bd_el h
          refine ct_iN X hP hD hS (va_runS (As := [.int (v4 - v10), .int (v7 - v11), .int x5]) (rest := []) ⟨hx, hb, hml, hown, hg⟩ (c_X6_isOnWay l E  H.size (v4 - v10) (v7 - v11) x5 u12 hc) (va_cwS 3 hg (gwS wm_X6_61 wst_X6_isOnWay wini_X6 wco_X6_isOnWay) rfl rfl rfl (by decide +kernel) ⟨Nat.le_of_ble_eq_true rfl, Nat.le_of_ble_eq_true rfl⟩) ⟨ct_blind, ct_preN X hS _⟩ rfl rfl hl.1 rfl (lv_room (Nat.le_of_ble_eq_true rfl)) dX6_crossing_77 ⟨Nat.zero_le _, Nat.zero_le _⟩) (fun H locs hP hD hS => ?_)
          refine lv_if_eq (tgt := 91) hx hb dX6_crossing_80 (by decide) (fun c13 => ?_) (fun c13 => ?_)
          · have h := it_t h c13
            obtain ⟨v14, ev14, h⟩ := lt_el h
            refine lv_iinc (v := v14) (lv' := [(6, .int v14), (8, .int v7), (7, .int v4), (1, .ref (q1 0)), (2, .int x2), (3, .int x3), (4, .int x4), (5, .int x5)]) hx hb dX6_crossing_91 hl (k := 7) rfl (by rw [ev14]; rfl) (by decide) rfl (fun ls hl => ?_)
            refine lv_goto (tgt := 3) hx hb dX6_crossing_94 (by decide) ?_
            exact ih v14 _ _ _ h hP hD hS (lv_sub hl [3, 4, 5, 6, 7, 0] rfl)
          · have h := it_f h c13
            refine lv_iload hx hb dX6_crossing_83 (lv_at hl 1 rfl) ?_
            refine lv_iload hx hb dX6_crossing_85 (lv_at hl 0 rfl) ?_
            obtain ⟨u15, hc, h⟩ := bd_el h
            refine ct_iN X hP hD hS (va_runS (As := [.int v4, .int v7]) (rest := []) ⟨hx, hb, hml, hown, hg⟩ (c_X1_place l E  H.size v4 v7 u15 hc) (va_cwS 2 hg (gwS wm_X6_65 wst_X1_place wini_X1 wco_X1_place) rfl rfl rfl (by decide +kernel) ⟨Nat.le_of_ble_eq_true rfl, Nat.le_of_ble_eq_true rfl⟩) ⟨ct_blind, ct_preN X hS _⟩ rfl rfl hl.1 rfl (lv_room (Nat.le_of_ble_eq_true rfl)) dX6_crossing_87 ⟨Nat.zero_le _, Nat.zero_le _⟩) (fun H locs hP hD hS => ?_)
            exact RT u15 _ _ _ _ h rfl hP hD hS dX6_crossing_90
        · have h := it_t h c9
          refine lv_bipush (v := (-2)) hx hb dX6_crossing_52 (by decide) ?_
          exact RT (-2) _ _ _ _ h rfl hP hD hS dX6_crossing_54
  obtain ⟨H, eH⟩ : ∃ z, z = s.heap := ⟨_, rfl⟩
  rw [← eH]
  have hP : va_P E.1 vwCl (cw_X6 E q0 S0 ++ (cw_X7 E q1 S1)) H := by rw [eH]; exact hP
  have hS : va_S A s.heap H [] := by rw [eH]; exact hS
  clear eH
  obtain ⟨locs, el⟩ : ∃ z : List Loc, z = [] := ⟨_, rfl⟩
  rw [← el] at hS ⊢
  clear el
  refine lv_iconst (v := 1) hx hb dX6_crossing_0 (by decide) ?_
  refine lv_istore (lv' := [(6, .int 1), (0, .ref (q0 0)), (1, .ref (q1 0)), (2, .int x2), (3, .int x3), (4, .int x4), (5, .int x5)]) hx hb dX6_crossing_1 hl (by decide) rfl (fun ls hl => ?_)
  exact N3 fu 1 _ _ _ h hP hD hS (lv_sub hl [2, 3, 4, 5, 6, 0] rfl)
theorem dX6_isToward_0 : decode cX6_isToward 0 = .ok (.iconst 0, 1) := by decide +kernel
theorem dX6_isToward_1 : decode cX6_isToward 1 = .ok (.istore 5, 2) := by decide +kernel
theorem dX6_isToward_3 : decode cX6_isToward 3 = .ok (.iload 5, 2) := by decide +kernel
theorem dX6_isToward_5 : decode cX6_isToward 5 = .ok (.iload_n 3, 1) := by decide +kernel
theorem dX6_isToward_6 : decode cX6_isToward 6 = .ok (.if_icmp .ge 82, 3) := by decide +kernel
theorem dX6_isToward_9 : decode cX6_isToward 9 = .ok (.aload_n 2, 1) := by decide +kernel
theorem dX6_isToward_10 : decode cX6_isToward 10 = .ok (.iconst 2, 1) := by decide +kernel
theorem dX6_isToward_11 : decode cX6_isToward 11 = .ok (.iload 5, 2) := by decide +kernel
theorem dX6_isToward_13 : decode cX6_isToward 13 = .ok (.imul, 1) := by decide +kernel
theorem dX6_isToward_14 : decode cX6_isToward 14 = .ok (.invokevirtual 23, 3) := by decide +kernel
theorem dX6_isToward_17 : decode cX6_isToward 17 = .ok (.istore 6, 2) := by decide +kernel
theorem dX6_isToward_19 : decode cX6_isToward 19 = .ok (.aload_n 1, 1) := by decide +kernel
theorem dX6_isToward_20 : decode cX6_isToward 20 = .ok (.iload 6, 2) := by decide +kernel
theorem dX6_isToward_22 : decode cX6_isToward 22 = .ok (.invokevirtual 29, 3) := by decide +kernel
theorem dX6_isToward_25 : decode cX6_isToward 25 = .ok (.ifCond .ne 5, 3) := by decide +kernel
theorem dX6_isToward_28 : decode cX6_isToward 28 = .ok (.iconst 0, 1) := by decide +kernel
theorem dX6_isToward_29 : decode cX6_isToward 29 = .ok (.ireturn, 1) := by decide +kernel
theorem dX6_isToward_30 : decode cX6_isToward 30 = .ok (.iload 4, 2) := by decide +kernel
theorem dX6_isToward_32 : decode cX6_isToward 32 = .ok (.bipush 24, 2) := by decide +kernel
theorem dX6_isToward_34 : decode cX6_isToward 34 = .ok (.irem, 1) := by decide +kernel
theorem dX6_isToward_35 : decode cX6_isToward 35 = .ok (.aload_n 1, 1) := by decide +kernel
theorem dX6_isToward_36 : decode cX6_isToward 36 = .ok (.getfield 39, 3) := by decide +kernel
theorem dX6_isToward_39 : decode cX6_isToward 39 = .ok (.iload 6, 2) := by decide +kernel
theorem dX6_isToward_41 : decode cX6_isToward 41 = .ok (.iaload, 1) := by decide +kernel
theorem dX6_isToward_42 : decode cX6_isToward 42 = .ok (.isub, 1) := by decide +kernel
theorem dX6_isToward_43 : decode cX6_isToward 43 = .ok (.istore 7, 2) := by decide +kernel
theorem dX6_isToward_45 : decode cX6_isToward 45 = .ok (.iload 4, 2) := by decide +kernel
theorem dX6_isToward_47 : decode cX6_isToward 47 = .ok (.bipush 24, 2) := by decide +kernel
theorem dX6_isToward_49 : decode cX6_isToward 49 = .ok (.idiv, 1) := by decide +kernel
theorem dX6_isToward_50 : decode cX6_isToward 50 = .ok (.aload_n 1, 1) := by decide +kernel
theorem dX6_isToward_51 : decode cX6_isToward 51 = .ok (.getfield 42, 3) := by decide +kernel
theorem dX6_isToward_54 : decode cX6_isToward 54 = .ok (.iload 6, 2) := by decide +kernel
theorem dX6_isToward_56 : decode cX6_isToward 56 = .ok (.iaload, 1) := by decide +kernel
theorem dX6_isToward_57 : decode cX6_isToward 57 = .ok (.isub, 1) := by decide +kernel
theorem dX6_isToward_58 : decode cX6_isToward 58 = .ok (.istore 8, 2) := by decide +kernel
theorem dX6_isToward_60 : decode cX6_isToward 60 = .ok (.iload 7, 2) := by decide +kernel
theorem dX6_isToward_62 : decode cX6_isToward 62 = .ok (.iload 8, 2) := by decide +kernel
theorem dX6_isToward_64 : decode cX6_isToward 64 = .ok (.invokestatic 45, 3) := by decide +kernel
theorem dX6_isToward_67 : decode cX6_isToward 67 = .ok (.aload_n 2, 1) := by decide +kernel
theorem dX6_isToward_68 : decode cX6_isToward 68 = .ok (.iconst 2, 1) := by decide +kernel
theorem dX6_isToward_69 : decode cX6_isToward 69 = .ok (.iload 5, 2) := by decide +kernel
theorem dX6_isToward_71 : decode cX6_isToward 71 = .ok (.imul, 1) := by decide +kernel
theorem dX6_isToward_72 : decode cX6_isToward 72 = .ok (.iconst 1, 1) := by decide +kernel
theorem dX6_isToward_73 : decode cX6_isToward 73 = .ok (.iadd, 1) := by decide +kernel
theorem dX6_isToward_74 : decode cX6_isToward 74 = .ok (.invokevirtual 23, 3) := by decide +kernel
theorem dX6_isToward_77 : decode cX6_isToward 77 = .ok (.if_icmp .eq 5, 3) := by decide +kernel
theorem dX6_isToward_80 : decode cX6_isToward 80 = .ok (.iconst 0, 1) := by decide +kernel
theorem dX6_isToward_81 : decode cX6_isToward 81 = .ok (.ireturn, 1) := by decide +kernel
theorem dX6_isToward_82 : decode cX6_isToward 82 = .ok (.iinc 5 1, 3) := by decide +kernel
theorem dX6_isToward_85 : decode cX6_isToward 85 = .ok (.goto (-82), 3) := by decide +kernel
theorem dX6_isToward_88 : decode cX6_isToward 88 = .ok (.iconst 1, 1) := by decide +kernel
theorem dX6_isToward_89 : decode cX6_isToward 89 = .ok (.ireturn, 1) := by decide +kernel
def f_X6_isToward_n3 (S0 : Gr) (S1 : Gr) (S2 : Gr) (x3 : Int32) (x4 : Int32) : Nat → Int32 → Option (Int32)
  | 0, _ => none
  | n + 1, x5 => if x3 ≤ x5 then (some 1) else ((f_X8_at S2 (2 * x5)).bind fun u2 => (f_X7_hasWeb S1 u2).bind fun u3 => if u3 = 0 then (some 0) else (lt' (x4 - x4 / 24 * 24) fun v5 => rd' (S1.2 2) 8 u2 fun v6 => lt' ((v5 - v6)) fun v7 => lt' (x4 / 24) fun v8 => rd' (S1.2 3) 8 u2 fun v9 => lt' ((v8 - v9)) fun v10 => (f_X1_spokeTowards v7 v10).bind fun u11 => (f_X8_at S2 ((2 * x5) + 1)).bind fun u12 => if u11 = u12 then (lt' (x5 + 1) fun v14 => f_X6_isToward_n3 S0 S1 S2 x3 x4 n v14) else (some 0)))
def f_X6_isToward (S0 : Gr) (S1 : Gr) (S2 : Gr) (x3 : Int32) (x4 : Int32) : Option (Int32) := f_X6_isToward_n3 S0 S1 S2 x3 x4 fu 0
set_option maxHeartbeats 4000000 in
set_option maxRecDepth 100000 in
theorem c_X6_isToward (l : Launch) (E : Ec) (q0 q1 q2 : Nat → Nat) (sz : Nat) (S0 : Gr) (S1 : Gr) (S2 : Gr) (x3 : Int32) (x4 : Int32) (Rv : Int32) (h : f_X6_isToward S0 S1 S2 x3 x4 = some Rv) : Met l yX6_isToward (wsM (.code yX6_isToward cX6_isToward 9 (some .boolean))) ({ frames := 2, cells := 0, slots := 0, locals := 53 } : Room) (va_Pc [.ref (q0 0), .ref (q1 0), .ref (q2 0), .int x3, .int x4] (ctP E (cw_X6 E q0 S0 ++ (cw_X7 E q1 S1 ++ (cw_X8 E q2 S2))) sz)) (ctI E (cw_X6 E q0 S0 ++ (cw_X7 E q1 S1 ++ (cw_X8 E q2 S2))) (cw_X6 E q0 S0 ++ (cw_X7 E q1 S1 ++ (cw_X8 E q2 S2))) sz Rv) 0 0 (va_A (cw_X6 E q0 S0 ++ (cw_X7 E q1 S1 ++ (cw_X8 E q2 S2))) sz) := by
  refine ct_metI (by decide) (Nat.le_of_ble_eq_true rfl) ?_
  intro p e s m ar below meth c A QM hx hb hml hown hg X hP hD hS RET ls hl
  have hown : s.vm.findClass RX6 = some m.cls := hown
  have hl : lv_has ls 9 [(0, .ref (q0 0)), (1, .ref (q1 0)), (2, .ref (q2 0)), (3, .int x3), (4, .int x4)] := hl
  have RT : ∀ (v : Int32) (H : Heap) (locs : List Loc) (ls : Array Slot) (pc : Nat), some v = some Rv → narrow .boolean (.int v) = .int v → va_P E.1 vwCl (cw_X6 E q0 S0 ++ (cw_X7 E q1 S1 ++ (cw_X8 E q2 S2))) H → va_D A (cw_X6 E q0 S0 ++ (cw_X7 E q1 S1 ++ (cw_X8 E q2 S2))) → va_S A s.heap H locs → decode cX6_isToward pc = .ok (.ireturn, 1) → W p l e ({ frames := 2, cells := 0, slots := 0, locals := 53 } : Room) s m ar below meth c H locs 0 0 QM (F0 m pc ls [.int v]) := by
    intro v H locs ls pc e hn hP hD hS d
    obtain rfl := sm_e e
    exact RET H locs pc ls hn hP hD hS d
  clear RET
  have N3 : ∀ (n : Nat) (x5 : Int32) (H : Heap) (locs : List Loc) (ls : Array Slot), f_X6_isToward_n3 S0 S1 S2 x3 x4 n x5 = some Rv → va_P E.1 vwCl (cw_X6 E q0 S0 ++ (cw_X7 E q1 S1 ++ (cw_X8 E q2 S2))) H → va_D A (cw_X6 E q0 S0 ++ (cw_X7 E q1 S1 ++ (cw_X8 E q2 S2))) → va_S A s.heap H locs → lv_has ls 9 [(1, .ref (q1 0)), (2, .ref (q2 0)), (3, .int x3), (4, .int x4), (5, .int x5)] → W p l e ({ frames := 2, cells := 0, slots := 0, locals := 53 } : Room) s m ar below meth c H locs 0 0 QM (F0 m 3 ls []) := by
    intro n
    induction n with
    | zero => intro x5 H locs ls h; exact nn_el h
    | succ n ih =>
      intro x5 H locs ls h hP hD hS hl
      refine lv_iload hx hb dX6_isToward_3 (lv_at hl 4 rfl) ?_
      refine lv_iload_n hx hb dX6_isToward_5 rfl (lv_at hl 2 rfl) ?_
      refine lv_icmp_ge (tgt := 88) hx hb dX6_isToward_6 (by decide) (fun c1 => ?_) (fun c1 => ?_)
      · have h := it_t h c1
        refine lv_iconst (v := 1) hx hb dX6_isToward_88 (by decide) ?_
        exact RT 1 _ _ _ _ h (by decide +kernel) hP hD hS dX6_isToward_89
      · have h := it_f h c1
        refine lv_aload_n hx hb dX6_isToward_9 rfl (lv_at hl 1 rfl) ?_
        refine lv_iconst (v := 2) hx hb dX6_isToward_10 (by decide) ?_
        refine lv_iload hx hb dX6_isToward_11 (lv_at hl 4 rfl) ?_
        refine lv_imul hx hb dX6_isToward_13 ?_
        obtain ⟨u2, hc, h⟩ := bd_el h
        have hC : ([11, 12] : List Nat).map (fun i => (cw_X6 E q0 S0 ++ (cw_X7 E q1 S1 ++ (cw_X8 E q2 S2)))[i]?) = (cw_X8 E q2 S2).map some := rfl
        refine ct_iR X hP hD hS [11, 12] hC (va_runV (C := RX8) (As := [.int (2 * x5)]) (rest := []) ⟨hx, hb, hml, hown, hg⟩ (c_X8_at l E q2 H.size S2 (2 * x5) u2 hc) (cwV 1 hg (gwV wm_X6_23 wi_X8_at wsl_X8_at wini_X8 wco_X8_at) rfl rfl rfl (by decide +kernel) ⟨Nat.le_of_ble_eq_true rfl, Nat.le_of_ble_eq_true rfl⟩) ⟨ct_blind, ct_rv X.1 hP 11 rfl rfl, ct_pre X hP hD hS [11, 12] (by decide) hC _⟩ rfl rfl hl.1 rfl (lv_room (Nat.le_of_ble_eq_true rfl)) dX6_isToward_14 ⟨Nat.zero_le _, Nat.zero_le _⟩) (fun H locs hP hD hS => ?_)
        clear hC
        refine lv_istore (lv' := [(6, .int u2), (1, .ref (q1 0)), (2, .ref (q2 0)), (3, .int x3), (4, .int x4), (5, .int x5)]) hx hb dX6_isToward_17 hl (by decide) rfl (fun ls hl => ?_)
        refine lv_aload_n hx hb dX6_isToward_19 rfl (lv_at hl 1 rfl) ?_
        refine lv_iload hx hb dX6_isToward_20 (lv_at hl 0 rfl) ?_
        obtain ⟨u3, hc, h⟩ := bd_el h
        have hC : ([3, 4, 5, 6, 7, 8, 9, 10] : List Nat).map (fun i => (cw_X6 E q0 S0 ++ (cw_X7 E q1 S1 ++ (cw_X8 E q2 S2)))[i]?) = (cw_X7 E q1 S1).map some := rfl
        refine ct_iR X hP hD hS [3, 4, 5, 6, 7, 8, 9, 10] hC (va_runV (C := RX7) (As := [.int u2]) (rest := []) ⟨hx, hb, hml, hown, hg⟩ (c_X7_hasWeb l E q1 H.size S1 u2 u3 hc) (cwV 1 hg (gwV wm_X6_29 wi_X7_hasWeb wsl_X7_hasWeb wini_X7 wco_X7_hasWeb) rfl rfl rfl (by decide +kernel) ⟨Nat.le_of_ble_eq_true rfl, Nat.le_of_ble_eq_true rfl⟩) ⟨ct_blind, ct_rv X.1 hP 3 rfl rfl, ct_pre X hP hD hS [3, 4, 5, 6, 7, 8, 9, 10] (by decide) hC _⟩ rfl rfl hl.1 rfl (lv_room (Nat.le_of_ble_eq_true rfl)) dX6_isToward_22 ⟨Nat.zero_le _, Nat.zero_le _⟩) (fun H locs hP hD hS => ?_)
        clear hC
        refine lv_if_ne (tgt := 30) hx hb dX6_isToward_25 (by decide) (fun c4 => ?_) (fun c4 => ?_)
        · have h := it_f h c4
          refine lv_iload hx hb dX6_isToward_30 (lv_at hl 4 rfl) ?_
          refine lv_bipush (v := 24) hx hb dX6_isToward_32 (by decide) ?_
          refine lv_irem hx hb dX6_isToward_34 (by decide) ?_
          obtain ⟨v5, ev5, h⟩ := lt_el h
          refine lv_top' ev5 ?_
          refine lv_aload_n hx hb dX6_isToward_35 rfl (lv_at hl 1 rfl) ?_
          refine va_getN (D := E.1) (ci := 6) (v := .ref (q1 1)) (C := RX7) (T := TX7) (N := 11) hx hb hg in_X7 hown X.1 hP 3 rfl rfl 2 (by decide) (va_Nw.use rfl (nf_X6_39 X.2.1)) (fun _ h9 => h9) rfl dX6_isToward_36 ?_
          refine lv_iload hx hb dX6_isToward_39 (lv_at hl 0 rfl) ?_
          obtain ⟨hi, v6, ev6, h⟩ := rd_el h
          refine va_iald hx hb X.1 hP 4 0 rfl rfl hi dX6_isToward_41 ?_
          refine lv_top' ev6 ?_
          refine lv_isub hx hb dX6_isToward_42 ?_
          obtain ⟨v7, ev7, h⟩ := lt_el h
          refine lv_top' ev7 ?_
          refine lv_istore (lv' := [(7, .int v7), (6, .int u2), (1, .ref (q1 0)), (2, .ref (q2 0)), (3, .int x3), (4, .int x4), (5, .int x5)]) hx hb dX6_isToward_43 hl (by decide) rfl (fun ls hl => ?_)
          refine lv_iload hx hb dX6_isToward_45 (lv_at hl 5 rfl) ?_
          refine lv_bipush (v := 24) hx hb dX6_isToward_47 (by decide) ?_
          refine lv_idiv hx hb dX6_isToward_49 (by decide) ?_
          obtain ⟨v8, ev8, h⟩ := lt_el h
          refine lv_top' ev8 ?_
          refine lv_aload_n hx hb dX6_isToward_50 rfl (lv_at hl 2 rfl) ?_
          refine va_getN (D := E.1) (ci := 6) (v := .ref (q1 2)) (C := RX7) (T := TX7) (N := 11) hx hb hg in_X7 hown X.1 hP 3 rfl rfl 3 (by decide) (va_Nw.use rfl (nf_X6_42 X.2.1)) (fun _ h9 => h9) rfl dX6_isToward_51 ?_
          refine lv_iload hx hb dX6_isToward_54 (lv_at hl 1 rfl) ?_
          obtain ⟨hi, v9, ev9, h⟩ := rd_el h
          refine va_iald hx hb X.1 hP 5 0 rfl rfl hi dX6_isToward_56 ?_
          refine lv_top' ev9 ?_
          refine lv_isub hx hb dX6_isToward_57 ?_
          obtain ⟨v10, ev10, h⟩ := lt_el h
          refine lv_top' ev10 ?_
          refine lv_istore (lv' := [(8, .int v10), (7, .int v7), (6, .int u2), (1, .ref (q1 0)), (2, .ref (q2 0)), (3, .int x3), (4, .int x4), (5, .int x5)]) hx hb dX6_isToward_58 hl (by decide) rfl (fun ls hl => ?_)
          refine lv_iload hx hb dX6_isToward_60 (lv_at hl 1 rfl) ?_
          refine lv_iload hx hb dX6_isToward_62 (lv_at hl 0 rfl) ?_
          obtain ⟨u11, hc, h⟩ := bd_el h
          refine ct_iN X hP hD hS (va_runS (As := [.int v7, .int v10]) (rest := []) ⟨hx, hb, hml, hown, hg⟩ (c_X1_spokeTowards l E  H.size v7 v10 u11 hc) (va_cwS 2 hg (gwS wm_X6_45 wst_X1_spokeTowards wini_X1 wco_X1_spokeTowards) rfl rfl rfl (by decide +kernel) ⟨Nat.le_of_ble_eq_true rfl, Nat.le_of_ble_eq_true rfl⟩) ⟨ct_blind, ct_preN X hS _⟩ rfl rfl hl.1 rfl (lv_room (Nat.le_of_ble_eq_true rfl)) dX6_isToward_64 ⟨Nat.zero_le _, Nat.zero_le _⟩) (fun H locs hP hD hS => ?_)
          refine lv_aload_n hx hb dX6_isToward_67 rfl (lv_at hl 4 rfl) ?_
          refine lv_iconst (v := 2) hx hb dX6_isToward_68 (by decide) ?_
          refine lv_iload hx hb dX6_isToward_69 (lv_at hl 7 rfl) ?_
          refine lv_imul hx hb dX6_isToward_71 ?_
          refine lv_iconst (v := 1) hx hb dX6_isToward_72 (by decide) ?_
          refine lv_iadd hx hb dX6_isToward_73 ?_
          obtain ⟨u12, hc, h⟩ := bd_el h
          have hC : ([11, 12] : List Nat).map (fun i => (cw_X6 E q0 S0 ++ (cw_X7 E q1 S1 ++ (cw_X8 E q2 S2)))[i]?) = (cw_X8 E q2 S2).map some := rfl
          refine ct_iR X hP hD hS [11, 12] hC (va_runV (C := RX8) (As := [.int ((2 * x5) + 1)]) (rest := [.int u11]) ⟨hx, hb, hml, hown, hg⟩ (c_X8_at l E q2 H.size S2 ((2 * x5) + 1) u12 hc) (cwV 1 hg (gwV wm_X6_23 wi_X8_at wsl_X8_at wini_X8 wco_X8_at) rfl rfl rfl (by decide +kernel) ⟨Nat.le_of_ble_eq_true rfl, Nat.le_of_ble_eq_true rfl⟩) ⟨ct_blind, ct_rv X.1 hP 11 rfl rfl, ct_pre X hP hD hS [11, 12] (by decide) hC _⟩ rfl rfl hl.1 rfl (lv_room (Nat.le_of_ble_eq_true rfl)) dX6_isToward_74 ⟨Nat.zero_le _, Nat.zero_le _⟩) (fun H locs hP hD hS => ?_)
          clear hC
          refine lv_icmp_eq (tgt := 82) hx hb dX6_isToward_77 (by decide) (fun c13 => ?_) (fun c13 => ?_)
          · have h := it_t h c13
            obtain ⟨v14, ev14, h⟩ := lt_el h
            refine lv_iinc (v := v14) (lv' := [(5, .int v14), (8, .int v10), (7, .int v7), (6, .int u2), (1, .ref (q1 0)), (2, .ref (q2 0)), (3, .int x3), (4, .int x4)]) hx hb dX6_isToward_82 hl (k := 7) rfl (by rw [ev14]; rfl) (by decide) rfl (fun ls hl => ?_)
            refine lv_goto (tgt := 3) hx hb dX6_isToward_85 (by decide) ?_
            exact ih v14 _ _ _ h hP hD hS (lv_sub hl [4, 5, 6, 7, 0] rfl)
          · have h := it_f h c13
            refine lv_iconst (v := 0) hx hb dX6_isToward_80 (by decide) ?_
            exact RT 0 _ _ _ _ h (by decide +kernel) hP hD hS dX6_isToward_81
        · have h := it_t h c4
          refine lv_iconst (v := 0) hx hb dX6_isToward_28 (by decide) ?_
          exact RT 0 _ _ _ _ h (by decide +kernel) hP hD hS dX6_isToward_29
  obtain ⟨H, eH⟩ : ∃ z, z = s.heap := ⟨_, rfl⟩
  rw [← eH]
  have hP : va_P E.1 vwCl (cw_X6 E q0 S0 ++ (cw_X7 E q1 S1 ++ (cw_X8 E q2 S2))) H := by rw [eH]; exact hP
  have hS : va_S A s.heap H [] := by rw [eH]; exact hS
  clear eH
  obtain ⟨locs, el⟩ : ∃ z : List Loc, z = [] := ⟨_, rfl⟩
  rw [← el] at hS ⊢
  clear el
  refine lv_iconst (v := 0) hx hb dX6_isToward_0 (by decide) ?_
  refine lv_istore (lv' := [(5, .int 0), (0, .ref (q0 0)), (1, .ref (q1 0)), (2, .ref (q2 0)), (3, .int x3), (4, .int x4)]) hx hb dX6_isToward_1 hl (by decide) rfl (fun ls hl => ?_)
  exact N3 fu 0 _ _ _ h hP hD hS (lv_sub hl [2, 3, 4, 5, 0] rfl)
theorem dX6_fixBy_0 : decode cX6_fixBy 0 = .ok (.iconst 0, 1) := by decide +kernel
theorem dX6_fixBy_1 : decode cX6_fixBy 1 = .ok (.istore 5, 2) := by decide +kernel
theorem dX6_fixBy_3 : decode cX6_fixBy 3 = .ok (.iload 5, 2) := by decide +kernel
theorem dX6_fixBy_5 : decode cX6_fixBy 5 = .ok (.iload_n 3, 1) := by decide +kernel
theorem dX6_fixBy_6 : decode cX6_fixBy 6 = .ok (.if_icmp .ge 42, 3) := by decide +kernel
theorem dX6_fixBy_9 : decode cX6_fixBy 9 = .ok (.aload_n 1, 1) := by decide +kernel
theorem dX6_fixBy_10 : decode cX6_fixBy 10 = .ok (.aload_n 2, 1) := by decide +kernel
theorem dX6_fixBy_11 : decode cX6_fixBy 11 = .ok (.iconst 2, 1) := by decide +kernel
theorem dX6_fixBy_12 : decode cX6_fixBy 12 = .ok (.iload 5, 2) := by decide +kernel
theorem dX6_fixBy_14 : decode cX6_fixBy 14 = .ok (.imul, 1) := by decide +kernel
theorem dX6_fixBy_15 : decode cX6_fixBy 15 = .ok (.invokevirtual 23, 3) := by decide +kernel
theorem dX6_fixBy_18 : decode cX6_fixBy 18 = .ok (.invokevirtual 29, 3) := by decide +kernel
theorem dX6_fixBy_21 : decode cX6_fixBy 21 = .ok (.ifCond .eq 18, 3) := by decide +kernel
theorem dX6_fixBy_24 : decode cX6_fixBy 24 = .ok (.aload_n 2, 1) := by decide +kernel
theorem dX6_fixBy_25 : decode cX6_fixBy 25 = .ok (.iconst 2, 1) := by decide +kernel
theorem dX6_fixBy_26 : decode cX6_fixBy 26 = .ok (.iload 5, 2) := by decide +kernel
theorem dX6_fixBy_28 : decode cX6_fixBy 28 = .ok (.imul, 1) := by decide +kernel
theorem dX6_fixBy_29 : decode cX6_fixBy 29 = .ok (.iconst 1, 1) := by decide +kernel
theorem dX6_fixBy_30 : decode cX6_fixBy 30 = .ok (.iadd, 1) := by decide +kernel
theorem dX6_fixBy_31 : decode cX6_fixBy 31 = .ok (.invokevirtual 23, 3) := by decide +kernel
theorem dX6_fixBy_34 : decode cX6_fixBy 34 = .ok (.bipush 8, 2) := by decide +kernel
theorem dX6_fixBy_36 : decode cX6_fixBy 36 = .ok (.if_icmp .lt 6, 3) := by decide +kernel
theorem dX6_fixBy_39 : decode cX6_fixBy 39 = .ok (.bipush (-3), 2) := by decide +kernel
theorem dX6_fixBy_41 : decode cX6_fixBy 41 = .ok (.ireturn, 1) := by decide +kernel
theorem dX6_fixBy_42 : decode cX6_fixBy 42 = .ok (.iinc 5 1, 3) := by decide +kernel
theorem dX6_fixBy_45 : decode cX6_fixBy 45 = .ok (.goto (-42), 3) := by decide +kernel
theorem dX6_fixBy_48 : decode cX6_fixBy 48 = .ok (.iconst 0, 1) := by decide +kernel
theorem dX6_fixBy_49 : decode cX6_fixBy 49 = .ok (.istore 5, 2) := by decide +kernel
theorem dX6_fixBy_51 : decode cX6_fixBy 51 = .ok (.iconst 0, 1) := by decide +kernel
theorem dX6_fixBy_52 : decode cX6_fixBy 52 = .ok (.istore 6, 2) := by decide +kernel
theorem dX6_fixBy_54 : decode cX6_fixBy 54 = .ok (.iload 6, 2) := by decide +kernel
theorem dX6_fixBy_56 : decode cX6_fixBy 56 = .ok (.sipush 384, 3) := by decide +kernel
theorem dX6_fixBy_59 : decode cX6_fixBy 59 = .ok (.if_icmp .ge 33, 3) := by decide +kernel
theorem dX6_fixBy_62 : decode cX6_fixBy 62 = .ok (.aload_n 0, 1) := by decide +kernel
theorem dX6_fixBy_63 : decode cX6_fixBy 63 = .ok (.aload_n 1, 1) := by decide +kernel
theorem dX6_fixBy_64 : decode cX6_fixBy 64 = .ok (.aload_n 2, 1) := by decide +kernel
theorem dX6_fixBy_65 : decode cX6_fixBy 65 = .ok (.iload_n 3, 1) := by decide +kernel
theorem dX6_fixBy_66 : decode cX6_fixBy 66 = .ok (.iload 6, 2) := by decide +kernel
theorem dX6_fixBy_68 : decode cX6_fixBy 68 = .ok (.invokevirtual 35, 3) := by decide +kernel
theorem dX6_fixBy_71 : decode cX6_fixBy 71 = .ok (.ifCond .eq 15, 3) := by decide +kernel
theorem dX6_fixBy_74 : decode cX6_fixBy 74 = .ok (.iload 4, 2) := by decide +kernel
theorem dX6_fixBy_76 : decode cX6_fixBy 76 = .ok (.iconst 1, 1) := by decide +kernel
theorem dX6_fixBy_77 : decode cX6_fixBy 77 = .ok (.if_icmp .ne 6, 3) := by decide +kernel
theorem dX6_fixBy_80 : decode cX6_fixBy 80 = .ok (.iload 6, 2) := by decide +kernel
theorem dX6_fixBy_82 : decode cX6_fixBy 82 = .ok (.ireturn, 1) := by decide +kernel
theorem dX6_fixBy_83 : decode cX6_fixBy 83 = .ok (.iinc 5 1, 3) := by decide +kernel
theorem dX6_fixBy_86 : decode cX6_fixBy 86 = .ok (.iinc 6 1, 3) := by decide +kernel
theorem dX6_fixBy_89 : decode cX6_fixBy 89 = .ok (.goto (-35), 3) := by decide +kernel
theorem dX6_fixBy_92 : decode cX6_fixBy 92 = .ok (.iload 4, 2) := by decide +kernel
theorem dX6_fixBy_94 : decode cX6_fixBy 94 = .ok (.iconst 1, 1) := by decide +kernel
theorem dX6_fixBy_95 : decode cX6_fixBy 95 = .ok (.if_icmp .ne 8, 3) := by decide +kernel
theorem dX6_fixBy_98 : decode cX6_fixBy 98 = .ok (.bipush (-2), 2) := by decide +kernel
theorem dX6_fixBy_100 : decode cX6_fixBy 100 = .ok (.goto 5, 3) := by decide +kernel
theorem dX6_fixBy_103 : decode cX6_fixBy 103 = .ok (.iload 5, 2) := by decide +kernel
theorem dX6_fixBy_105 : decode cX6_fixBy 105 = .ok (.ireturn, 1) := by decide +kernel
def f_X6_fixBy_n54 (S0 : Gr) (S1 : Gr) (S2 : Gr) (x3 : Int32) (x4 : Int32) : Nat → Int32 → Int32 → Option (Int32)
  | 0, _, _ => none
  | n + 1, x5, x6 => if 384 ≤ x6 then (if x4 = 1 then (some (-2)) else (some x5)) else ((f_X6_isToward S0 S1 S2 x3 x6).bind fun u10 => if u10 = 0 then (lt' (x6 + 1) fun v12 => f_X6_fixBy_n54 S0 S1 S2 x3 x4 n x5 v12) else (if x4 = 1 then (some x6) else (lt' (x5 + 1) fun v14 => lt' (x6 + 1) fun v15 => f_X6_fixBy_n54 S0 S1 S2 x3 x4 n v14 v15)))
def f_X6_fixBy_n3 (S0 : Gr) (S1 : Gr) (S2 : Gr) (x3 : Int32) (x4 : Int32) : Nat → Int32 → Option (Int32)
  | 0, _ => none
  | n + 1, x5 => if x3 ≤ x5 then (f_X6_fixBy_n54 S0 S1 S2 x3 x4 fu 0 0) else ((f_X8_at S2 (2 * x5)).bind fun u2 => (f_X7_hasWeb S1 u2).bind fun u3 => if u3 = 0 then (some (-3)) else ((f_X8_at S2 ((2 * x5) + 1)).bind fun u5 => if u5 < 8 then (lt' (x5 + 1) fun v7 => f_X6_fixBy_n3 S0 S1 S2 x3 x4 n v7) else (some (-3))))
def f_X6_fixBy (S0 : Gr) (S1 : Gr) (S2 : Gr) (x3 : Int32) (x4 : Int32) : Option (Int32) := f_X6_fixBy_n3 S0 S1 S2 x3 x4 fu 0
set_option maxHeartbeats 4000000 in
set_option maxRecDepth 100000 in
theorem c_X6_fixBy (l : Launch) (E : Ec) (q0 q1 q2 : Nat → Nat) (sz : Nat) (S0 : Gr) (S1 : Gr) (S2 : Gr) (x3 : Int32) (x4 : Int32) (Rv : Int32) (h : f_X6_fixBy S0 S1 S2 x3 x4 = some Rv) : Met l yX6_fixBy (wsM (.code yX6_fixBy cX6_fixBy 7 (some .int))) ({ frames := 3, cells := 0, slots := 0, locals := 81 } : Room) (va_Pc [.ref (q0 0), .ref (q1 0), .ref (q2 0), .int x3, .int x4] (ctP E (cw_X6 E q0 S0 ++ (cw_X7 E q1 S1 ++ (cw_X8 E q2 S2))) sz)) (ctI E (cw_X6 E q0 S0 ++ (cw_X7 E q1 S1 ++ (cw_X8 E q2 S2))) (cw_X6 E q0 S0 ++ (cw_X7 E q1 S1 ++ (cw_X8 E q2 S2))) sz Rv) 0 0 (va_A (cw_X6 E q0 S0 ++ (cw_X7 E q1 S1 ++ (cw_X8 E q2 S2))) sz) := by
  refine ct_metI (by decide) (Nat.le_of_ble_eq_true rfl) ?_
  intro p e s m ar below meth c A QM hx hb hml hown hg X hP hD hS RET ls hl
  have hown : s.vm.findClass RX6 = some m.cls := hown
  have hl : lv_has ls 7 [(0, .ref (q0 0)), (1, .ref (q1 0)), (2, .ref (q2 0)), (3, .int x3), (4, .int x4)] := hl
  have RT : ∀ (v : Int32) (H : Heap) (locs : List Loc) (ls : Array Slot) (pc : Nat), some v = some Rv → narrow .int (.int v) = .int v → va_P E.1 vwCl (cw_X6 E q0 S0 ++ (cw_X7 E q1 S1 ++ (cw_X8 E q2 S2))) H → va_D A (cw_X6 E q0 S0 ++ (cw_X7 E q1 S1 ++ (cw_X8 E q2 S2))) → va_S A s.heap H locs → decode cX6_fixBy pc = .ok (.ireturn, 1) → W p l e ({ frames := 3, cells := 0, slots := 0, locals := 81 } : Room) s m ar below meth c H locs 0 0 QM (F0 m pc ls [.int v]) := by
    intro v H locs ls pc e hn hP hD hS d
    obtain rfl := sm_e e
    exact RET H locs pc ls hn hP hD hS d
  clear RET
  have N54 : ∀ (n : Nat) (x5 : Int32) (x6 : Int32) (H : Heap) (locs : List Loc) (ls : Array Slot), f_X6_fixBy_n54 S0 S1 S2 x3 x4 n x5 x6 = some Rv → va_P E.1 vwCl (cw_X6 E q0 S0 ++ (cw_X7 E q1 S1 ++ (cw_X8 E q2 S2))) H → va_D A (cw_X6 E q0 S0 ++ (cw_X7 E q1 S1 ++ (cw_X8 E q2 S2))) → va_S A s.heap H locs → lv_has ls 7 [(0, .ref (q0 0)), (1, .ref (q1 0)), (2, .ref (q2 0)), (3, .int x3), (4, .int x4), (5, .int x5), (6, .int x6)] → W p l e ({ frames := 3, cells := 0, slots := 0, locals := 81 } : Room) s m ar below meth c H locs 0 0 QM (F0 m 54 ls []) := by
    intro n
    induction n with
    | zero => intro x5 x6 H locs ls h; exact nn_el h
    | succ n ih =>
      intro x5 x6 H locs ls h hP hD hS hl
      refine lv_iload hx hb dX6_fixBy_54 (lv_at hl 6 rfl) ?_
      refine lv_sipush (v := 384) hx hb dX6_fixBy_56 (by decide) ?_
      refine lv_icmp_ge (tgt := 92) hx hb dX6_fixBy_59 (by decide) (fun c8 => ?_) (fun c8 => ?_)
      · have h := it_t h c8
        refine lv_iload hx hb dX6_fixBy_92 (lv_at hl 4 rfl) ?_
        refine lv_iconst (v := 1) hx hb dX6_fixBy_94 (by decide) ?_
        refine lv_icmp_ne (tgt := 103) hx hb dX6_fixBy_95 (by decide) (fun c9 => ?_) (fun c9 => ?_)
        · have h := it_f h c9
          refine lv_iload hx hb dX6_fixBy_103 (lv_at hl 5 rfl) ?_
          exact RT x5 _ _ _ _ h rfl hP hD hS dX6_fixBy_105
        · have h := it_t h c9
          refine lv_bipush (v := (-2)) hx hb dX6_fixBy_98 (by decide) ?_
          refine lv_goto (tgt := 105) hx hb dX6_fixBy_100 (by decide) ?_
          exact RT (-2) _ _ _ _ h rfl hP hD hS dX6_fixBy_105
      · have h := it_f h c8
        refine lv_aload_n hx hb dX6_fixBy_62 rfl (lv_at hl 0 rfl) ?_
        refine lv_aload_n hx hb dX6_fixBy_63 rfl (lv_at hl 1 rfl) ?_
        refine lv_aload_n hx hb dX6_fixBy_64 rfl (lv_at hl 2 rfl) ?_
        refine lv_iload_n hx hb dX6_fixBy_65 rfl (lv_at hl 3 rfl) ?_
        refine lv_iload hx hb dX6_fixBy_66 (lv_at hl 6 rfl) ?_
        obtain ⟨u10, hc, h⟩ := bd_el h
        refine ct_iA (w1 := cw_X6 E q0 S0 ++ (cw_X7 E q1 S1 ++ (cw_X8 E q2 S2))) X hP hD hS (va_runV (C := RX6) (As := [.ref (q1 0), .ref (q2 0), .int x3, .int x6]) (rest := []) ⟨hx, hb, hml, hown, hg⟩ (c_X6_isToward l E q0 q1 q2 H.size S0 S1 S2 x3 x6 u10 hc) (cwV 4 hg (gwV wm_X6_35 wi_X6_isToward wsl_X6_isToward wini_X6 wco_X6_isToward) rfl rfl rfl (by decide +kernel) ⟨Nat.le_of_ble_eq_true rfl, Nat.le_of_ble_eq_true rfl⟩) ⟨ct_blind, ct_rv X.1 hP 0 rfl rfl, ct_preA X hP hD hS _⟩ rfl rfl hl.1 rfl (lv_room (Nat.le_of_ble_eq_true rfl)) dX6_fixBy_68 ⟨Nat.zero_le _, Nat.zero_le _⟩) (fun H locs hP hD hS => ?_)
        refine lv_if_eq (tgt := 86) hx hb dX6_fixBy_71 (by decide) (fun c11 => ?_) (fun c11 => ?_)
        · have h := it_t h c11
          obtain ⟨v12, ev12, h⟩ := lt_el h
          refine lv_iinc (v := v12) (lv' := [(6, .int v12), (0, .ref (q0 0)), (1, .ref (q1 0)), (2, .ref (q2 0)), (3, .int x3), (4, .int x4), (5, .int x5)]) hx hb dX6_fixBy_86 hl (k := 6) rfl (by rw [ev12]; rfl) (by decide) rfl (fun ls hl => ?_)
          refine lv_goto (tgt := 54) hx hb dX6_fixBy_89 (by decide) ?_
          exact ih x5 v12 _ _ _ h hP hD hS (lv_sub hl [1, 2, 3, 4, 5, 6, 0] rfl)
        · have h := it_f h c11
          refine lv_iload hx hb dX6_fixBy_74 (lv_at hl 4 rfl) ?_
          refine lv_iconst (v := 1) hx hb dX6_fixBy_76 (by decide) ?_
          refine lv_icmp_ne (tgt := 83) hx hb dX6_fixBy_77 (by decide) (fun c13 => ?_) (fun c13 => ?_)
          · have h := it_f h c13
            obtain ⟨v14, ev14, h⟩ := lt_el h
            refine lv_iinc (v := v14) (lv' := [(5, .int v14), (0, .ref (q0 0)), (1, .ref (q1 0)), (2, .ref (q2 0)), (3, .int x3), (4, .int x4), (6, .int x6)]) hx hb dX6_fixBy_83 hl (k := 5) rfl (by rw [ev14]; rfl) (by decide) rfl (fun ls hl => ?_)
            obtain ⟨v15, ev15, h⟩ := lt_el h
            refine lv_iinc (v := v15) (lv' := [(6, .int v15), (5, .int v14), (0, .ref (q0 0)), (1, .ref (q1 0)), (2, .ref (q2 0)), (3, .int x3), (4, .int x4)]) hx hb dX6_fixBy_86 hl (k := 6) rfl (by rw [ev15]; rfl) (by decide) rfl (fun ls hl => ?_)
            refine lv_goto (tgt := 54) hx hb dX6_fixBy_89 (by decide) ?_
            exact ih v14 v15 _ _ _ h hP hD hS (lv_sub hl [2, 3, 4, 5, 6, 1, 0] rfl)
          · have h := it_t h c13
            refine lv_iload hx hb dX6_fixBy_80 (lv_at hl 6 rfl) ?_
            exact RT x6 _ _ _ _ h rfl hP hD hS dX6_fixBy_82
  have N3 : ∀ (n : Nat) (x5 : Int32) (H : Heap) (locs : List Loc) (ls : Array Slot), f_X6_fixBy_n3 S0 S1 S2 x3 x4 n x5 = some Rv → va_P E.1 vwCl (cw_X6 E q0 S0 ++ (cw_X7 E q1 S1 ++ (cw_X8 E q2 S2))) H → va_D A (cw_X6 E q0 S0 ++ (cw_X7 E q1 S1 ++ (cw_X8 E q2 S2))) → va_S A s.heap H locs → lv_has ls 7 [(0, .ref (q0 0)), (1, .ref (q1 0)), (2, .ref (q2 0)), (3, .int x3), (4, .int x4), (5, .int x5)] → W p l e ({ frames := 3, cells := 0, slots := 0, locals := 81 } : Room) s m ar below meth c H locs 0 0 QM (F0 m 3 ls []) := by
    intro n
    induction n with
    | zero => intro x5 H locs ls h; exact nn_el h
    | succ n ih =>
      intro x5 H locs ls h hP hD hS hl
      refine lv_iload hx hb dX6_fixBy_3 (lv_at hl 5 rfl) ?_
      refine lv_iload_n hx hb dX6_fixBy_5 rfl (lv_at hl 3 rfl) ?_
      refine lv_icmp_ge (tgt := 48) hx hb dX6_fixBy_6 (by decide) (fun c1 => ?_) (fun c1 => ?_)
      · have h := it_t h c1
        refine lv_iconst (v := 0) hx hb dX6_fixBy_48 (by decide) ?_
        refine lv_istore (lv' := [(5, .int 0), (0, .ref (q0 0)), (1, .ref (q1 0)), (2, .ref (q2 0)), (3, .int x3), (4, .int x4)]) hx hb dX6_fixBy_49 hl (by decide) rfl (fun ls hl => ?_)
        refine lv_iconst (v := 0) hx hb dX6_fixBy_51 (by decide) ?_
        refine lv_istore (lv' := [(6, .int 0), (5, .int 0), (0, .ref (q0 0)), (1, .ref (q1 0)), (2, .ref (q2 0)), (3, .int x3), (4, .int x4)]) hx hb dX6_fixBy_52 hl (by decide) rfl (fun ls hl => ?_)
        exact N54 fu 0 0 _ _ _ h hP hD hS (lv_sub hl [2, 3, 4, 5, 6, 1, 0] rfl)
      · have h := it_f h c1
        refine lv_aload_n hx hb dX6_fixBy_9 rfl (lv_at hl 1 rfl) ?_
        refine lv_aload_n hx hb dX6_fixBy_10 rfl (lv_at hl 2 rfl) ?_
        refine lv_iconst (v := 2) hx hb dX6_fixBy_11 (by decide) ?_
        refine lv_iload hx hb dX6_fixBy_12 (lv_at hl 5 rfl) ?_
        refine lv_imul hx hb dX6_fixBy_14 ?_
        obtain ⟨u2, hc, h⟩ := bd_el h
        have hC : ([11, 12] : List Nat).map (fun i => (cw_X6 E q0 S0 ++ (cw_X7 E q1 S1 ++ (cw_X8 E q2 S2)))[i]?) = (cw_X8 E q2 S2).map some := rfl
        refine ct_iR X hP hD hS [11, 12] hC (va_runV (C := RX8) (As := [.int (2 * x5)]) (rest := [.ref (q1 0)]) ⟨hx, hb, hml, hown, hg⟩ (c_X8_at l E q2 H.size S2 (2 * x5) u2 hc) (cwV 1 hg (gwV wm_X6_23 wi_X8_at wsl_X8_at wini_X8 wco_X8_at) rfl rfl rfl (by decide +kernel) ⟨Nat.le_of_ble_eq_true rfl, Nat.le_of_ble_eq_true rfl⟩) ⟨ct_blind, ct_rv X.1 hP 11 rfl rfl, ct_pre X hP hD hS [11, 12] (by decide) hC _⟩ rfl rfl hl.1 rfl (lv_room (Nat.le_of_ble_eq_true rfl)) dX6_fixBy_15 ⟨Nat.zero_le _, Nat.zero_le _⟩) (fun H locs hP hD hS => ?_)
        clear hC
        obtain ⟨u3, hc, h⟩ := bd_el h
        have hC : ([3, 4, 5, 6, 7, 8, 9, 10] : List Nat).map (fun i => (cw_X6 E q0 S0 ++ (cw_X7 E q1 S1 ++ (cw_X8 E q2 S2)))[i]?) = (cw_X7 E q1 S1).map some := rfl
        refine ct_iR X hP hD hS [3, 4, 5, 6, 7, 8, 9, 10] hC (va_runV (C := RX7) (As := [.int u2]) (rest := []) ⟨hx, hb, hml, hown, hg⟩ (c_X7_hasWeb l E q1 H.size S1 u2 u3 hc) (cwV 1 hg (gwV wm_X6_29 wi_X7_hasWeb wsl_X7_hasWeb wini_X7 wco_X7_hasWeb) rfl rfl rfl (by decide +kernel) ⟨Nat.le_of_ble_eq_true rfl, Nat.le_of_ble_eq_true rfl⟩) ⟨ct_blind, ct_rv X.1 hP 3 rfl rfl, ct_pre X hP hD hS [3, 4, 5, 6, 7, 8, 9, 10] (by decide) hC _⟩ rfl rfl hl.1 rfl (lv_room (Nat.le_of_ble_eq_true rfl)) dX6_fixBy_18 ⟨Nat.zero_le _, Nat.zero_le _⟩) (fun H locs hP hD hS => ?_)
        clear hC
        refine lv_if_eq (tgt := 39) hx hb dX6_fixBy_21 (by decide) (fun c4 => ?_) (fun c4 => ?_)
        · have h := it_t h c4
          refine lv_bipush (v := (-3)) hx hb dX6_fixBy_39 (by decide) ?_
          exact RT (-3) _ _ _ _ h rfl hP hD hS dX6_fixBy_41
        · have h := it_f h c4
          refine lv_aload_n hx hb dX6_fixBy_24 rfl (lv_at hl 2 rfl) ?_
          refine lv_iconst (v := 2) hx hb dX6_fixBy_25 (by decide) ?_
          refine lv_iload hx hb dX6_fixBy_26 (lv_at hl 5 rfl) ?_
          refine lv_imul hx hb dX6_fixBy_28 ?_
          refine lv_iconst (v := 1) hx hb dX6_fixBy_29 (by decide) ?_
          refine lv_iadd hx hb dX6_fixBy_30 ?_
          obtain ⟨u5, hc, h⟩ := bd_el h
          have hC : ([11, 12] : List Nat).map (fun i => (cw_X6 E q0 S0 ++ (cw_X7 E q1 S1 ++ (cw_X8 E q2 S2)))[i]?) = (cw_X8 E q2 S2).map some := rfl
          refine ct_iR X hP hD hS [11, 12] hC (va_runV (C := RX8) (As := [.int ((2 * x5) + 1)]) (rest := []) ⟨hx, hb, hml, hown, hg⟩ (c_X8_at l E q2 H.size S2 ((2 * x5) + 1) u5 hc) (cwV 1 hg (gwV wm_X6_23 wi_X8_at wsl_X8_at wini_X8 wco_X8_at) rfl rfl rfl (by decide +kernel) ⟨Nat.le_of_ble_eq_true rfl, Nat.le_of_ble_eq_true rfl⟩) ⟨ct_blind, ct_rv X.1 hP 11 rfl rfl, ct_pre X hP hD hS [11, 12] (by decide) hC _⟩ rfl rfl hl.1 rfl (lv_room (Nat.le_of_ble_eq_true rfl)) dX6_fixBy_31 ⟨Nat.zero_le _, Nat.zero_le _⟩) (fun H locs hP hD hS => ?_)
          clear hC
          refine lv_bipush (v := 8) hx hb dX6_fixBy_34 (by decide) ?_
          refine lv_icmp_lt (tgt := 42) hx hb dX6_fixBy_36 (by decide) (fun c6 => ?_) (fun c6 => ?_)
          · have h := it_t h c6
            obtain ⟨v7, ev7, h⟩ := lt_el h
            refine lv_iinc (v := v7) (lv' := [(5, .int v7), (0, .ref (q0 0)), (1, .ref (q1 0)), (2, .ref (q2 0)), (3, .int x3), (4, .int x4)]) hx hb dX6_fixBy_42 hl (k := 5) rfl (by rw [ev7]; rfl) (by decide) rfl (fun ls hl => ?_)
            refine lv_goto (tgt := 3) hx hb dX6_fixBy_45 (by decide) ?_
            exact ih v7 _ _ _ h hP hD hS (lv_sub hl [1, 2, 3, 4, 5, 0] rfl)
          · have h := it_f h c6
            refine lv_bipush (v := (-3)) hx hb dX6_fixBy_39 (by decide) ?_
            exact RT (-3) _ _ _ _ h rfl hP hD hS dX6_fixBy_41
  obtain ⟨H, eH⟩ : ∃ z, z = s.heap := ⟨_, rfl⟩
  rw [← eH]
  have hP : va_P E.1 vwCl (cw_X6 E q0 S0 ++ (cw_X7 E q1 S1 ++ (cw_X8 E q2 S2))) H := by rw [eH]; exact hP
  have hS : va_S A s.heap H [] := by rw [eH]; exact hS
  clear eH
  obtain ⟨locs, el⟩ : ∃ z : List Loc, z = [] := ⟨_, rfl⟩
  rw [← el] at hS ⊢
  clear el
  refine lv_iconst (v := 0) hx hb dX6_fixBy_0 (by decide) ?_
  refine lv_istore (lv' := [(5, .int 0), (0, .ref (q0 0)), (1, .ref (q1 0)), (2, .ref (q2 0)), (3, .int x3), (4, .int x4)]) hx hb dX6_fixBy_1 hl (by decide) rfl (fun ls hl => ?_)
  exact N3 fu 0 _ _ _ h hP hD hS (lv_sub hl [1, 2, 3, 4, 5, 0] rfl)
theorem dX6_webNearTo_0 : decode cX6_webNearTo 0 = .ok (.bipush (-2), 2) := by decide +kernel
theorem dX6_webNearTo_2 : decode cX6_webNearTo 2 = .ok (.istore 4, 2) := by decide +kernel
theorem dX6_webNearTo_4 : decode cX6_webNearTo 4 = .ok (.bipush 24, 2) := by decide +kernel
theorem dX6_webNearTo_6 : decode cX6_webNearTo 6 = .ok (.istore 5, 2) := by decide +kernel
theorem dX6_webNearTo_8 : decode cX6_webNearTo 8 = .ok (.iconst 0, 1) := by decide +kernel
theorem dX6_webNearTo_9 : decode cX6_webNearTo 9 = .ok (.istore 6, 2) := by decide +kernel
theorem dX6_webNearTo_11 : decode cX6_webNearTo 11 = .ok (.iload 6, 2) := by decide +kernel
theorem dX6_webNearTo_13 : decode cX6_webNearTo 13 = .ok (.bipush 8, 2) := by decide +kernel
theorem dX6_webNearTo_15 : decode cX6_webNearTo 15 = .ok (.if_icmp .ge 47, 3) := by decide +kernel
theorem dX6_webNearTo_18 : decode cX6_webNearTo 18 = .ok (.aload_n 1, 1) := by decide +kernel
theorem dX6_webNearTo_19 : decode cX6_webNearTo 19 = .ok (.iload 6, 2) := by decide +kernel
theorem dX6_webNearTo_21 : decode cX6_webNearTo 21 = .ok (.invokevirtual 29, 3) := by decide +kernel
theorem dX6_webNearTo_24 : decode cX6_webNearTo 24 = .ok (.ifCond .eq 32, 3) := by decide +kernel
theorem dX6_webNearTo_27 : decode cX6_webNearTo 27 = .ok (.aload_n 0, 1) := by decide +kernel
theorem dX6_webNearTo_28 : decode cX6_webNearTo 28 = .ok (.aload_n 1, 1) := by decide +kernel
theorem dX6_webNearTo_29 : decode cX6_webNearTo 29 = .ok (.iload 6, 2) := by decide +kernel
theorem dX6_webNearTo_31 : decode cX6_webNearTo 31 = .ok (.iload_n 2, 1) := by decide +kernel
theorem dX6_webNearTo_32 : decode cX6_webNearTo 32 = .ok (.iload_n 3, 1) := by decide +kernel
theorem dX6_webNearTo_33 : decode cX6_webNearTo 33 = .ok (.invokevirtual 93, 3) := by decide +kernel
theorem dX6_webNearTo_36 : decode cX6_webNearTo 36 = .ok (.iload 5, 2) := by decide +kernel
theorem dX6_webNearTo_38 : decode cX6_webNearTo 38 = .ok (.if_icmp .ge 18, 3) := by decide +kernel
theorem dX6_webNearTo_41 : decode cX6_webNearTo 41 = .ok (.aload_n 0, 1) := by decide +kernel
theorem dX6_webNearTo_42 : decode cX6_webNearTo 42 = .ok (.aload_n 1, 1) := by decide +kernel
theorem dX6_webNearTo_43 : decode cX6_webNearTo 43 = .ok (.iload 6, 2) := by decide +kernel
theorem dX6_webNearTo_45 : decode cX6_webNearTo 45 = .ok (.iload_n 2, 1) := by decide +kernel
theorem dX6_webNearTo_46 : decode cX6_webNearTo 46 = .ok (.iload_n 3, 1) := by decide +kernel
theorem dX6_webNearTo_47 : decode cX6_webNearTo 47 = .ok (.invokevirtual 93, 3) := by decide +kernel
theorem dX6_webNearTo_50 : decode cX6_webNearTo 50 = .ok (.istore 5, 2) := by decide +kernel
theorem dX6_webNearTo_52 : decode cX6_webNearTo 52 = .ok (.iload 6, 2) := by decide +kernel
theorem dX6_webNearTo_54 : decode cX6_webNearTo 54 = .ok (.istore 4, 2) := by decide +kernel
theorem dX6_webNearTo_56 : decode cX6_webNearTo 56 = .ok (.iinc 6 1, 3) := by decide +kernel
theorem dX6_webNearTo_59 : decode cX6_webNearTo 59 = .ok (.goto (-48), 3) := by decide +kernel
theorem dX6_webNearTo_62 : decode cX6_webNearTo 62 = .ok (.iload 4, 2) := by decide +kernel
theorem dX6_webNearTo_64 : decode cX6_webNearTo 64 = .ok (.ireturn, 1) := by decide +kernel
def f_X6_webNearTo_n11 (S0 : Gr) (S1 : Gr) (x2 : Int32) (x3 : Int32) : Nat → Int32 → Int32 → Int32 → Option (Int32)
  | 0, _, _, _ => none
  | n + 1, x4, x5, x6 => if 8 ≤ x6 then (some x4) else ((f_X7_hasWeb S1 x6).bind fun u2 => if u2 = 0 then (lt' (x6 + 1) fun v4 => f_X6_webNearTo_n11 S0 S1 x2 x3 n x4 x5 v4) else ((f_X6_wayTo S0 S1 x6 x2 x3).bind fun u5 => if x5 ≤ u5 then (lt' (x6 + 1) fun v7 => f_X6_webNearTo_n11 S0 S1 x2 x3 n x4 x5 v7) else ((f_X6_wayTo S0 S1 x6 x2 x3).bind fun u8 => lt' (x6 + 1) fun v9 => f_X6_webNearTo_n11 S0 S1 x2 x3 n x6 u8 v9)))
def f_X6_webNearTo (S0 : Gr) (S1 : Gr) (x2 : Int32) (x3 : Int32) : Option (Int32) := f_X6_webNearTo_n11 S0 S1 x2 x3 fu (-2) 24 0
set_option maxHeartbeats 4000000 in
set_option maxRecDepth 100000 in
theorem c_X6_webNearTo (l : Launch) (E : Ec) (q0 q1 : Nat → Nat) (sz : Nat) (S0 : Gr) (S1 : Gr) (x2 : Int32) (x3 : Int32) (Rv : Int32) (h : f_X6_webNearTo S0 S1 x2 x3 = some Rv) : Met l yX6_webNearTo (wsM (.code yX6_webNearTo cX6_webNearTo 7 (some .int))) ({ frames := 3, cells := 0, slots := 0, locals := 75 } : Room) (va_Pc [.ref (q0 0), .ref (q1 0), .int x2, .int x3] (ctP E (cw_X6 E q0 S0 ++ (cw_X7 E q1 S1)) sz)) (ctI E (cw_X6 E q0 S0 ++ (cw_X7 E q1 S1)) (cw_X6 E q0 S0 ++ (cw_X7 E q1 S1)) sz Rv) 0 0 (va_A (cw_X6 E q0 S0 ++ (cw_X7 E q1 S1)) sz) := by
  refine ct_metI (by decide) (Nat.le_of_ble_eq_true rfl) ?_
  intro p e s m ar below meth c A QM hx hb hml hown hg X hP hD hS RET ls hl
  have hown : s.vm.findClass RX6 = some m.cls := hown
  have hl : lv_has ls 7 [(0, .ref (q0 0)), (1, .ref (q1 0)), (2, .int x2), (3, .int x3)] := hl
  have RT : ∀ (v : Int32) (H : Heap) (locs : List Loc) (ls : Array Slot) (pc : Nat), some v = some Rv → narrow .int (.int v) = .int v → va_P E.1 vwCl (cw_X6 E q0 S0 ++ (cw_X7 E q1 S1)) H → va_D A (cw_X6 E q0 S0 ++ (cw_X7 E q1 S1)) → va_S A s.heap H locs → decode cX6_webNearTo pc = .ok (.ireturn, 1) → W p l e ({ frames := 3, cells := 0, slots := 0, locals := 75 } : Room) s m ar below meth c H locs 0 0 QM (F0 m pc ls [.int v]) := by
    intro v H locs ls pc e hn hP hD hS d
    obtain rfl := sm_e e
    exact RET H locs pc ls hn hP hD hS d
  clear RET
  have N11 : ∀ (n : Nat) (x4 : Int32) (x5 : Int32) (x6 : Int32) (H : Heap) (locs : List Loc) (ls : Array Slot), f_X6_webNearTo_n11 S0 S1 x2 x3 n x4 x5 x6 = some Rv → va_P E.1 vwCl (cw_X6 E q0 S0 ++ (cw_X7 E q1 S1)) H → va_D A (cw_X6 E q0 S0 ++ (cw_X7 E q1 S1)) → va_S A s.heap H locs → lv_has ls 7 [(0, .ref (q0 0)), (1, .ref (q1 0)), (2, .int x2), (3, .int x3), (4, .int x4), (5, .int x5), (6, .int x6)] → W p l e ({ frames := 3, cells := 0, slots := 0, locals := 75 } : Room) s m ar below meth c H locs 0 0 QM (F0 m 11 ls []) := by
    intro n
    induction n with
    | zero => intro x4 x5 x6 H locs ls h; exact nn_el h
    | succ n ih =>
      intro x4 x5 x6 H locs ls h hP hD hS hl
      refine lv_iload hx hb dX6_webNearTo_11 (lv_at hl 6 rfl) ?_
      refine lv_bipush (v := 8) hx hb dX6_webNearTo_13 (by decide) ?_
      refine lv_icmp_ge (tgt := 62) hx hb dX6_webNearTo_15 (by decide) (fun c1 => ?_) (fun c1 => ?_)
      · have h := it_t h c1
        refine lv_iload hx hb dX6_webNearTo_62 (lv_at hl 4 rfl) ?_
        exact RT x4 _ _ _ _ h rfl hP hD hS dX6_webNearTo_64
      · have h := it_f h c1
        refine lv_aload_n hx hb dX6_webNearTo_18 rfl (lv_at hl 1 rfl) ?_
        refine lv_iload hx hb dX6_webNearTo_19 (lv_at hl 6 rfl) ?_
        obtain ⟨u2, hc, h⟩ := bd_el h
        have hC : ([3, 4, 5, 6, 7, 8, 9, 10] : List Nat).map (fun i => (cw_X6 E q0 S0 ++ (cw_X7 E q1 S1))[i]?) = (cw_X7 E q1 S1).map some := rfl
        refine ct_iR X hP hD hS [3, 4, 5, 6, 7, 8, 9, 10] hC (va_runV (C := RX7) (As := [.int x6]) (rest := []) ⟨hx, hb, hml, hown, hg⟩ (c_X7_hasWeb l E q1 H.size S1 x6 u2 hc) (cwV 1 hg (gwV wm_X6_29 wi_X7_hasWeb wsl_X7_hasWeb wini_X7 wco_X7_hasWeb) rfl rfl rfl (by decide +kernel) ⟨Nat.le_of_ble_eq_true rfl, Nat.le_of_ble_eq_true rfl⟩) ⟨ct_blind, ct_rv X.1 hP 3 rfl rfl, ct_pre X hP hD hS [3, 4, 5, 6, 7, 8, 9, 10] (by decide) hC _⟩ rfl rfl hl.1 rfl (lv_room (Nat.le_of_ble_eq_true rfl)) dX6_webNearTo_21 ⟨Nat.zero_le _, Nat.zero_le _⟩) (fun H locs hP hD hS => ?_)
        clear hC
        refine lv_if_eq (tgt := 56) hx hb dX6_webNearTo_24 (by decide) (fun c3 => ?_) (fun c3 => ?_)
        · have h := it_t h c3
          obtain ⟨v4, ev4, h⟩ := lt_el h
          refine lv_iinc (v := v4) (lv' := [(6, .int v4), (0, .ref (q0 0)), (1, .ref (q1 0)), (2, .int x2), (3, .int x3), (4, .int x4), (5, .int x5)]) hx hb dX6_webNearTo_56 hl (k := 6) rfl (by rw [ev4]; rfl) (by decide) rfl (fun ls hl => ?_)
          refine lv_goto (tgt := 11) hx hb dX6_webNearTo_59 (by decide) ?_
          exact ih x4 x5 v4 _ _ _ h hP hD hS (lv_sub hl [1, 2, 3, 4, 5, 6, 0] rfl)
        · have h := it_f h c3
          refine lv_aload_n hx hb dX6_webNearTo_27 rfl (lv_at hl 0 rfl) ?_
          refine lv_aload_n hx hb dX6_webNearTo_28 rfl (lv_at hl 1 rfl) ?_
          refine lv_iload hx hb dX6_webNearTo_29 (lv_at hl 6 rfl) ?_
          refine lv_iload_n hx hb dX6_webNearTo_31 rfl (lv_at hl 2 rfl) ?_
          refine lv_iload_n hx hb dX6_webNearTo_32 rfl (lv_at hl 3 rfl) ?_
          obtain ⟨u5, hc, h⟩ := bd_el h
          refine ct_iA (w1 := cw_X6 E q0 S0 ++ (cw_X7 E q1 S1)) X hP hD hS (va_runV (C := RX6) (As := [.ref (q1 0), .int x6, .int x2, .int x3]) (rest := []) ⟨hx, hb, hml, hown, hg⟩ (c_X6_wayTo l E q0 q1 H.size S0 S1 x6 x2 x3 u5 hc) (cwV 4 hg (gwV wm_X6_93 wi_X6_wayTo wsl_X6_wayTo wini_X6 wco_X6_wayTo) rfl rfl rfl (by decide +kernel) ⟨Nat.le_of_ble_eq_true rfl, Nat.le_of_ble_eq_true rfl⟩) ⟨ct_blind, ct_rv X.1 hP 0 rfl rfl, ct_preA X hP hD hS _⟩ rfl rfl hl.1 rfl (lv_room (Nat.le_of_ble_eq_true rfl)) dX6_webNearTo_33 ⟨Nat.zero_le _, Nat.zero_le _⟩) (fun H locs hP hD hS => ?_)
          refine lv_iload hx hb dX6_webNearTo_36 (lv_at hl 5 rfl) ?_
          refine lv_icmp_ge (tgt := 56) hx hb dX6_webNearTo_38 (by decide) (fun c6 => ?_) (fun c6 => ?_)
          · have h := it_t h c6
            obtain ⟨v7, ev7, h⟩ := lt_el h
            refine lv_iinc (v := v7) (lv' := [(6, .int v7), (0, .ref (q0 0)), (1, .ref (q1 0)), (2, .int x2), (3, .int x3), (4, .int x4), (5, .int x5)]) hx hb dX6_webNearTo_56 hl (k := 6) rfl (by rw [ev7]; rfl) (by decide) rfl (fun ls hl => ?_)
            refine lv_goto (tgt := 11) hx hb dX6_webNearTo_59 (by decide) ?_
            exact ih x4 x5 v7 _ _ _ h hP hD hS (lv_sub hl [1, 2, 3, 4, 5, 6, 0] rfl)
          · have h := it_f h c6
            refine lv_aload_n hx hb dX6_webNearTo_41 rfl (lv_at hl 0 rfl) ?_
            refine lv_aload_n hx hb dX6_webNearTo_42 rfl (lv_at hl 1 rfl) ?_
            refine lv_iload hx hb dX6_webNearTo_43 (lv_at hl 6 rfl) ?_
            refine lv_iload_n hx hb dX6_webNearTo_45 rfl (lv_at hl 2 rfl) ?_
            refine lv_iload_n hx hb dX6_webNearTo_46 rfl (lv_at hl 3 rfl) ?_
            obtain ⟨u8, hc, h⟩ := bd_el h
            refine ct_iA (w1 := cw_X6 E q0 S0 ++ (cw_X7 E q1 S1)) X hP hD hS (va_runV (C := RX6) (As := [.ref (q1 0), .int x6, .int x2, .int x3]) (rest := []) ⟨hx, hb, hml, hown, hg⟩ (c_X6_wayTo l E q0 q1 H.size S0 S1 x6 x2 x3 u8 hc) (cwV 4 hg (gwV wm_X6_93 wi_X6_wayTo wsl_X6_wayTo wini_X6 wco_X6_wayTo) rfl rfl rfl (by decide +kernel) ⟨Nat.le_of_ble_eq_true rfl, Nat.le_of_ble_eq_true rfl⟩) ⟨ct_blind, ct_rv X.1 hP 0 rfl rfl, ct_preA X hP hD hS _⟩ rfl rfl hl.1 rfl (lv_room (Nat.le_of_ble_eq_true rfl)) dX6_webNearTo_47 ⟨Nat.zero_le _, Nat.zero_le _⟩) (fun H locs hP hD hS => ?_)
            refine lv_istore (lv' := [(5, .int u8), (0, .ref (q0 0)), (1, .ref (q1 0)), (2, .int x2), (3, .int x3), (4, .int x4), (6, .int x6)]) hx hb dX6_webNearTo_50 hl (by decide) rfl (fun ls hl => ?_)
            refine lv_iload hx hb dX6_webNearTo_52 (lv_at hl 6 rfl) ?_
            refine lv_istore (lv' := [(4, .int x6), (5, .int u8), (0, .ref (q0 0)), (1, .ref (q1 0)), (2, .int x2), (3, .int x3), (6, .int x6)]) hx hb dX6_webNearTo_54 hl (by decide) rfl (fun ls hl => ?_)
            obtain ⟨v9, ev9, h⟩ := lt_el h
            refine lv_iinc (v := v9) (lv' := [(6, .int v9), (4, .int x6), (5, .int u8), (0, .ref (q0 0)), (1, .ref (q1 0)), (2, .int x2), (3, .int x3)]) hx hb dX6_webNearTo_56 hl (k := 6) rfl (by rw [ev9]; rfl) (by decide) rfl (fun ls hl => ?_)
            refine lv_goto (tgt := 11) hx hb dX6_webNearTo_59 (by decide) ?_
            exact ih x6 u8 v9 _ _ _ h hP hD hS (lv_sub hl [3, 4, 5, 6, 1, 2, 0] rfl)
  obtain ⟨H, eH⟩ : ∃ z, z = s.heap := ⟨_, rfl⟩
  rw [← eH]
  have hP : va_P E.1 vwCl (cw_X6 E q0 S0 ++ (cw_X7 E q1 S1)) H := by rw [eH]; exact hP
  have hS : va_S A s.heap H [] := by rw [eH]; exact hS
  clear eH
  obtain ⟨locs, el⟩ : ∃ z : List Loc, z = [] := ⟨_, rfl⟩
  rw [← el] at hS ⊢
  clear el
  refine lv_bipush (v := (-2)) hx hb dX6_webNearTo_0 (by decide) ?_
  refine lv_istore (lv' := [(4, .int (-2)), (0, .ref (q0 0)), (1, .ref (q1 0)), (2, .int x2), (3, .int x3)]) hx hb dX6_webNearTo_2 hl (by decide) rfl (fun ls hl => ?_)
  refine lv_bipush (v := 24) hx hb dX6_webNearTo_4 (by decide) ?_
  refine lv_istore (lv' := [(5, .int 24), (4, .int (-2)), (0, .ref (q0 0)), (1, .ref (q1 0)), (2, .int x2), (3, .int x3)]) hx hb dX6_webNearTo_6 hl (by decide) rfl (fun ls hl => ?_)
  refine lv_iconst (v := 0) hx hb dX6_webNearTo_8 (by decide) ?_
  refine lv_istore (lv' := [(6, .int 0), (5, .int 24), (4, .int (-2)), (0, .ref (q0 0)), (1, .ref (q1 0)), (2, .int x2), (3, .int x3)]) hx hb dX6_webNearTo_9 hl (by decide) rfl (fun ls hl => ?_)
  exact N11 fu (-2) 24 0 _ _ _ h hP hD hS (lv_sub hl [3, 4, 5, 6, 2, 1, 0] rfl)
theorem dX6_firstQuiet_0 : decode cX6_firstQuiet 0 = .ok (.iconst 0, 1) := by decide +kernel
theorem dX6_firstQuiet_1 : decode cX6_firstQuiet 1 = .ok (.istore_n 3, 1) := by decide +kernel
theorem dX6_firstQuiet_2 : decode cX6_firstQuiet 2 = .ok (.iload_n 3, 1) := by decide +kernel
theorem dX6_firstQuiet_3 : decode cX6_firstQuiet 3 = .ok (.sipush 384, 3) := by decide +kernel
theorem dX6_firstQuiet_6 : decode cX6_firstQuiet 6 = .ok (.if_icmp .ge 21, 3) := by decide +kernel
theorem dX6_firstQuiet_9 : decode cX6_firstQuiet 9 = .ok (.aload_n 0, 1) := by decide +kernel
theorem dX6_firstQuiet_10 : decode cX6_firstQuiet 10 = .ok (.aload_n 1, 1) := by decide +kernel
theorem dX6_firstQuiet_11 : decode cX6_firstQuiet 11 = .ok (.iload_n 2, 1) := by decide +kernel
theorem dX6_firstQuiet_12 : decode cX6_firstQuiet 12 = .ok (.iload_n 3, 1) := by decide +kernel
theorem dX6_firstQuiet_13 : decode cX6_firstQuiet 13 = .ok (.invokevirtual 86, 3) := by decide +kernel
theorem dX6_firstQuiet_16 : decode cX6_firstQuiet 16 = .ok (.ifCond .ne 5, 3) := by decide +kernel
theorem dX6_firstQuiet_19 : decode cX6_firstQuiet 19 = .ok (.iload_n 3, 1) := by decide +kernel
theorem dX6_firstQuiet_20 : decode cX6_firstQuiet 20 = .ok (.ireturn, 1) := by decide +kernel
theorem dX6_firstQuiet_21 : decode cX6_firstQuiet 21 = .ok (.iinc 3 1, 3) := by decide +kernel
theorem dX6_firstQuiet_24 : decode cX6_firstQuiet 24 = .ok (.goto (-22), 3) := by decide +kernel
theorem dX6_firstQuiet_27 : decode cX6_firstQuiet 27 = .ok (.bipush (-2), 2) := by decide +kernel
theorem dX6_firstQuiet_29 : decode cX6_firstQuiet 29 = .ok (.ireturn, 1) := by decide +kernel
def f_X6_firstQuiet_n2 (S0 : Gr) (S1 : Gr) (x2 : Int32) : Nat → Int32 → Option (Int32)
  | 0, _ => none
  | n + 1, x3 => if 384 ≤ x3 then (some (-2)) else ((f_X6_reachersOf S0 S1 x2 x3).bind fun u2 => if u2 = 0 then (some x3) else (lt' (x3 + 1) fun v4 => f_X6_firstQuiet_n2 S0 S1 x2 n v4))
def f_X6_firstQuiet (S0 : Gr) (S1 : Gr) (x2 : Int32) : Option (Int32) := f_X6_firstQuiet_n2 S0 S1 x2 fu 0
set_option maxHeartbeats 4000000 in
set_option maxRecDepth 100000 in
theorem c_X6_firstQuiet (l : Launch) (E : Ec) (q0 q1 : Nat → Nat) (sz : Nat) (S0 : Gr) (S1 : Gr) (x2 : Int32) (Rv : Int32) (h : f_X6_firstQuiet S0 S1 x2 = some Rv) : Met l yX6_firstQuiet (wsM (.code yX6_firstQuiet cX6_firstQuiet 4 (some .int))) ({ frames := 4, cells := 0, slots := 0, locals := 100 } : Room) (va_Pc [.ref (q0 0), .ref (q1 0), .int x2] (ctP E (cw_X6 E q0 S0 ++ (cw_X7 E q1 S1)) sz)) (ctI E (cw_X6 E q0 S0 ++ (cw_X7 E q1 S1)) (cw_X6 E q0 S0 ++ (cw_X7 E q1 S1)) sz Rv) 0 0 (va_A (cw_X6 E q0 S0 ++ (cw_X7 E q1 S1)) sz) := by
  refine ct_metI (by decide) (Nat.le_of_ble_eq_true rfl) ?_
  intro p e s m ar below meth c A QM hx hb hml hown hg X hP hD hS RET ls hl
  have hown : s.vm.findClass RX6 = some m.cls := hown
  have hl : lv_has ls 4 [(0, .ref (q0 0)), (1, .ref (q1 0)), (2, .int x2)] := hl
  have RT : ∀ (v : Int32) (H : Heap) (locs : List Loc) (ls : Array Slot) (pc : Nat), some v = some Rv → narrow .int (.int v) = .int v → va_P E.1 vwCl (cw_X6 E q0 S0 ++ (cw_X7 E q1 S1)) H → va_D A (cw_X6 E q0 S0 ++ (cw_X7 E q1 S1)) → va_S A s.heap H locs → decode cX6_firstQuiet pc = .ok (.ireturn, 1) → W p l e ({ frames := 4, cells := 0, slots := 0, locals := 100 } : Room) s m ar below meth c H locs 0 0 QM (F0 m pc ls [.int v]) := by
    intro v H locs ls pc e hn hP hD hS d
    obtain rfl := sm_e e
    exact RET H locs pc ls hn hP hD hS d
  clear RET
  have N2 : ∀ (n : Nat) (x3 : Int32) (H : Heap) (locs : List Loc) (ls : Array Slot), f_X6_firstQuiet_n2 S0 S1 x2 n x3 = some Rv → va_P E.1 vwCl (cw_X6 E q0 S0 ++ (cw_X7 E q1 S1)) H → va_D A (cw_X6 E q0 S0 ++ (cw_X7 E q1 S1)) → va_S A s.heap H locs → lv_has ls 4 [(0, .ref (q0 0)), (1, .ref (q1 0)), (2, .int x2), (3, .int x3)] → W p l e ({ frames := 4, cells := 0, slots := 0, locals := 100 } : Room) s m ar below meth c H locs 0 0 QM (F0 m 2 ls []) := by
    intro n
    induction n with
    | zero => intro x3 H locs ls h; exact nn_el h
    | succ n ih =>
      intro x3 H locs ls h hP hD hS hl
      refine lv_iload_n hx hb dX6_firstQuiet_2 rfl (lv_at hl 3 rfl) ?_
      refine lv_sipush (v := 384) hx hb dX6_firstQuiet_3 (by decide) ?_
      refine lv_icmp_ge (tgt := 27) hx hb dX6_firstQuiet_6 (by decide) (fun c1 => ?_) (fun c1 => ?_)
      · have h := it_t h c1
        refine lv_bipush (v := (-2)) hx hb dX6_firstQuiet_27 (by decide) ?_
        exact RT (-2) _ _ _ _ h rfl hP hD hS dX6_firstQuiet_29
      · have h := it_f h c1
        refine lv_aload_n hx hb dX6_firstQuiet_9 rfl (lv_at hl 0 rfl) ?_
        refine lv_aload_n hx hb dX6_firstQuiet_10 rfl (lv_at hl 1 rfl) ?_
        refine lv_iload_n hx hb dX6_firstQuiet_11 rfl (lv_at hl 2 rfl) ?_
        refine lv_iload_n hx hb dX6_firstQuiet_12 rfl (lv_at hl 3 rfl) ?_
        obtain ⟨u2, hc, h⟩ := bd_el h
        refine ct_iA (w1 := cw_X6 E q0 S0 ++ (cw_X7 E q1 S1)) X hP hD hS (va_runV (C := RX6) (As := [.ref (q1 0), .int x2, .int x3]) (rest := []) ⟨hx, hb, hml, hown, hg⟩ (c_X6_reachersOf l E q0 q1 H.size S0 S1 x2 x3 u2 hc) (cwV 3 hg (gwV wm_X6_86 wi_X6_reachersOf wsl_X6_reachersOf wini_X6 wco_X6_reachersOf) rfl rfl rfl (by decide +kernel) ⟨Nat.le_of_ble_eq_true rfl, Nat.le_of_ble_eq_true rfl⟩) ⟨ct_blind, ct_rv X.1 hP 0 rfl rfl, ct_preA X hP hD hS _⟩ rfl rfl hl.1 rfl (lv_room (Nat.le_of_ble_eq_true rfl)) dX6_firstQuiet_13 ⟨Nat.zero_le _, Nat.zero_le _⟩) (fun H locs hP hD hS => ?_)
        refine lv_if_ne (tgt := 21) hx hb dX6_firstQuiet_16 (by decide) (fun c3 => ?_) (fun c3 => ?_)
        · have h := it_f h c3
          obtain ⟨v4, ev4, h⟩ := lt_el h
          refine lv_iinc (v := v4) (lv' := [(3, .int v4), (0, .ref (q0 0)), (1, .ref (q1 0)), (2, .int x2)]) hx hb dX6_firstQuiet_21 hl (k := 3) rfl (by rw [ev4]; rfl) (by decide) rfl (fun ls hl => ?_)
          refine lv_goto (tgt := 2) hx hb dX6_firstQuiet_24 (by decide) ?_
          exact ih v4 _ _ _ h hP hD hS (lv_sub hl [1, 2, 3, 0] rfl)
        · have h := it_t h c3
          refine lv_iload_n hx hb dX6_firstQuiet_19 rfl (lv_at hl 3 rfl) ?_
          exact RT x3 _ _ _ _ h rfl hP hD hS dX6_firstQuiet_20
  obtain ⟨H, eH⟩ : ∃ z, z = s.heap := ⟨_, rfl⟩
  rw [← eH]
  have hP : va_P E.1 vwCl (cw_X6 E q0 S0 ++ (cw_X7 E q1 S1)) H := by rw [eH]; exact hP
  have hS : va_S A s.heap H [] := by rw [eH]; exact hS
  clear eH
  obtain ⟨locs, el⟩ : ∃ z : List Loc, z = [] := ⟨_, rfl⟩
  rw [← el] at hS ⊢
  clear el
  refine lv_iconst (v := 0) hx hb dX6_firstQuiet_0 (by decide) ?_
  refine lv_istore_n (lv' := [(3, .int 0), (0, .ref (q0 0)), (1, .ref (q1 0)), (2, .int x2)]) hx hb dX6_firstQuiet_1 rfl hl (by decide) rfl (fun ls hl => ?_)
  exact N2 fu 0 _ _ _ h hP hD hS (lv_sub hl [1, 2, 3, 0] rfl)
theorem dX6_quietPlaces_0 : decode cX6_quietPlaces 0 = .ok (.iconst 0, 1) := by decide +kernel
theorem dX6_quietPlaces_1 : decode cX6_quietPlaces 1 = .ok (.istore_n 3, 1) := by decide +kernel
theorem dX6_quietPlaces_2 : decode cX6_quietPlaces 2 = .ok (.iconst 0, 1) := by decide +kernel
theorem dX6_quietPlaces_3 : decode cX6_quietPlaces 3 = .ok (.istore 4, 2) := by decide +kernel
theorem dX6_quietPlaces_5 : decode cX6_quietPlaces 5 = .ok (.iload 4, 2) := by decide +kernel
theorem dX6_quietPlaces_7 : decode cX6_quietPlaces 7 = .ok (.sipush 384, 3) := by decide +kernel
theorem dX6_quietPlaces_10 : decode cX6_quietPlaces 10 = .ok (.if_icmp .ge 23, 3) := by decide +kernel
theorem dX6_quietPlaces_13 : decode cX6_quietPlaces 13 = .ok (.aload_n 0, 1) := by decide +kernel
theorem dX6_quietPlaces_14 : decode cX6_quietPlaces 14 = .ok (.aload_n 1, 1) := by decide +kernel
theorem dX6_quietPlaces_15 : decode cX6_quietPlaces 15 = .ok (.iload_n 2, 1) := by decide +kernel
theorem dX6_quietPlaces_16 : decode cX6_quietPlaces 16 = .ok (.iload 4, 2) := by decide +kernel
theorem dX6_quietPlaces_18 : decode cX6_quietPlaces 18 = .ok (.invokevirtual 86, 3) := by decide +kernel
theorem dX6_quietPlaces_21 : decode cX6_quietPlaces 21 = .ok (.ifCond .ne 6, 3) := by decide +kernel
theorem dX6_quietPlaces_24 : decode cX6_quietPlaces 24 = .ok (.iinc 3 1, 3) := by decide +kernel
theorem dX6_quietPlaces_27 : decode cX6_quietPlaces 27 = .ok (.iinc 4 1, 3) := by decide +kernel
theorem dX6_quietPlaces_30 : decode cX6_quietPlaces 30 = .ok (.goto (-25), 3) := by decide +kernel
theorem dX6_quietPlaces_33 : decode cX6_quietPlaces 33 = .ok (.iload_n 3, 1) := by decide +kernel
theorem dX6_quietPlaces_34 : decode cX6_quietPlaces 34 = .ok (.ireturn, 1) := by decide +kernel
def f_X6_quietPlaces_n5 (S0 : Gr) (S1 : Gr) (x2 : Int32) : Nat → Int32 → Int32 → Option (Int32)
  | 0, _, _ => none
  | n + 1, x3, x4 => if 384 ≤ x4 then (some x3) else ((f_X6_reachersOf S0 S1 x2 x4).bind fun u2 => if u2 = 0 then (lt' (x3 + 1) fun v5 => lt' (x4 + 1) fun v6 => f_X6_quietPlaces_n5 S0 S1 x2 n v5 v6) else (lt' (x4 + 1) fun v4 => f_X6_quietPlaces_n5 S0 S1 x2 n x3 v4))
def f_X6_quietPlaces (S0 : Gr) (S1 : Gr) (x2 : Int32) : Option (Int32) := f_X6_quietPlaces_n5 S0 S1 x2 fu 0 0
set_option maxHeartbeats 4000000 in
set_option maxRecDepth 100000 in
theorem c_X6_quietPlaces (l : Launch) (E : Ec) (q0 q1 : Nat → Nat) (sz : Nat) (S0 : Gr) (S1 : Gr) (x2 : Int32) (Rv : Int32) (h : f_X6_quietPlaces S0 S1 x2 = some Rv) : Met l yX6_quietPlaces (wsM (.code yX6_quietPlaces cX6_quietPlaces 5 (some .int))) ({ frames := 4, cells := 0, slots := 0, locals := 100 } : Room) (va_Pc [.ref (q0 0), .ref (q1 0), .int x2] (ctP E (cw_X6 E q0 S0 ++ (cw_X7 E q1 S1)) sz)) (ctI E (cw_X6 E q0 S0 ++ (cw_X7 E q1 S1)) (cw_X6 E q0 S0 ++ (cw_X7 E q1 S1)) sz Rv) 0 0 (va_A (cw_X6 E q0 S0 ++ (cw_X7 E q1 S1)) sz) := by
  refine ct_metI (by decide) (Nat.le_of_ble_eq_true rfl) ?_
  intro p e s m ar below meth c A QM hx hb hml hown hg X hP hD hS RET ls hl
  have hown : s.vm.findClass RX6 = some m.cls := hown
  have hl : lv_has ls 5 [(0, .ref (q0 0)), (1, .ref (q1 0)), (2, .int x2)] := hl
  have RT : ∀ (v : Int32) (H : Heap) (locs : List Loc) (ls : Array Slot) (pc : Nat), some v = some Rv → narrow .int (.int v) = .int v → va_P E.1 vwCl (cw_X6 E q0 S0 ++ (cw_X7 E q1 S1)) H → va_D A (cw_X6 E q0 S0 ++ (cw_X7 E q1 S1)) → va_S A s.heap H locs → decode cX6_quietPlaces pc = .ok (.ireturn, 1) → W p l e ({ frames := 4, cells := 0, slots := 0, locals := 100 } : Room) s m ar below meth c H locs 0 0 QM (F0 m pc ls [.int v]) := by
    intro v H locs ls pc e hn hP hD hS d
    obtain rfl := sm_e e
    exact RET H locs pc ls hn hP hD hS d
  clear RET
  have N5 : ∀ (n : Nat) (x3 : Int32) (x4 : Int32) (H : Heap) (locs : List Loc) (ls : Array Slot), f_X6_quietPlaces_n5 S0 S1 x2 n x3 x4 = some Rv → va_P E.1 vwCl (cw_X6 E q0 S0 ++ (cw_X7 E q1 S1)) H → va_D A (cw_X6 E q0 S0 ++ (cw_X7 E q1 S1)) → va_S A s.heap H locs → lv_has ls 5 [(0, .ref (q0 0)), (1, .ref (q1 0)), (2, .int x2), (3, .int x3), (4, .int x4)] → W p l e ({ frames := 4, cells := 0, slots := 0, locals := 100 } : Room) s m ar below meth c H locs 0 0 QM (F0 m 5 ls []) := by
    intro n
    induction n with
    | zero => intro x3 x4 H locs ls h; exact nn_el h
    | succ n ih =>
      intro x3 x4 H locs ls h hP hD hS hl
      refine lv_iload hx hb dX6_quietPlaces_5 (lv_at hl 4 rfl) ?_
      refine lv_sipush (v := 384) hx hb dX6_quietPlaces_7 (by decide) ?_
      refine lv_icmp_ge (tgt := 33) hx hb dX6_quietPlaces_10 (by decide) (fun c1 => ?_) (fun c1 => ?_)
      · have h := it_t h c1
        refine lv_iload_n hx hb dX6_quietPlaces_33 rfl (lv_at hl 3 rfl) ?_
        exact RT x3 _ _ _ _ h rfl hP hD hS dX6_quietPlaces_34
      · have h := it_f h c1
        refine lv_aload_n hx hb dX6_quietPlaces_13 rfl (lv_at hl 0 rfl) ?_
        refine lv_aload_n hx hb dX6_quietPlaces_14 rfl (lv_at hl 1 rfl) ?_
        refine lv_iload_n hx hb dX6_quietPlaces_15 rfl (lv_at hl 2 rfl) ?_
        refine lv_iload hx hb dX6_quietPlaces_16 (lv_at hl 4 rfl) ?_
        obtain ⟨u2, hc, h⟩ := bd_el h
        refine ct_iA (w1 := cw_X6 E q0 S0 ++ (cw_X7 E q1 S1)) X hP hD hS (va_runV (C := RX6) (As := [.ref (q1 0), .int x2, .int x4]) (rest := []) ⟨hx, hb, hml, hown, hg⟩ (c_X6_reachersOf l E q0 q1 H.size S0 S1 x2 x4 u2 hc) (cwV 3 hg (gwV wm_X6_86 wi_X6_reachersOf wsl_X6_reachersOf wini_X6 wco_X6_reachersOf) rfl rfl rfl (by decide +kernel) ⟨Nat.le_of_ble_eq_true rfl, Nat.le_of_ble_eq_true rfl⟩) ⟨ct_blind, ct_rv X.1 hP 0 rfl rfl, ct_preA X hP hD hS _⟩ rfl rfl hl.1 rfl (lv_room (Nat.le_of_ble_eq_true rfl)) dX6_quietPlaces_18 ⟨Nat.zero_le _, Nat.zero_le _⟩) (fun H locs hP hD hS => ?_)
        refine lv_if_ne (tgt := 27) hx hb dX6_quietPlaces_21 (by decide) (fun c3 => ?_) (fun c3 => ?_)
        · have h := it_f h c3
          obtain ⟨v4, ev4, h⟩ := lt_el h
          refine lv_iinc (v := v4) (lv' := [(4, .int v4), (0, .ref (q0 0)), (1, .ref (q1 0)), (2, .int x2), (3, .int x3)]) hx hb dX6_quietPlaces_27 hl (k := 4) rfl (by rw [ev4]; rfl) (by decide) rfl (fun ls hl => ?_)
          refine lv_goto (tgt := 5) hx hb dX6_quietPlaces_30 (by decide) ?_
          exact ih x3 v4 _ _ _ h hP hD hS (lv_sub hl [1, 2, 3, 4, 0] rfl)
        · have h := it_t h c3
          obtain ⟨v5, ev5, h⟩ := lt_el h
          refine lv_iinc (v := v5) (lv' := [(3, .int v5), (0, .ref (q0 0)), (1, .ref (q1 0)), (2, .int x2), (4, .int x4)]) hx hb dX6_quietPlaces_24 hl (k := 3) rfl (by rw [ev5]; rfl) (by decide) rfl (fun ls hl => ?_)
          obtain ⟨v6, ev6, h⟩ := lt_el h
          refine lv_iinc (v := v6) (lv' := [(4, .int v6), (3, .int v5), (0, .ref (q0 0)), (1, .ref (q1 0)), (2, .int x2)]) hx hb dX6_quietPlaces_27 hl (k := 4) rfl (by rw [ev6]; rfl) (by decide) rfl (fun ls hl => ?_)
          refine lv_goto (tgt := 5) hx hb dX6_quietPlaces_30 (by decide) ?_
          exact ih v5 v6 _ _ _ h hP hD hS (lv_sub hl [2, 3, 4, 1, 0] rfl)
  obtain ⟨H, eH⟩ : ∃ z, z = s.heap := ⟨_, rfl⟩
  rw [← eH]
  have hP : va_P E.1 vwCl (cw_X6 E q0 S0 ++ (cw_X7 E q1 S1)) H := by rw [eH]; exact hP
  have hS : va_S A s.heap H [] := by rw [eH]; exact hS
  clear eH
  obtain ⟨locs, el⟩ : ∃ z : List Loc, z = [] := ⟨_, rfl⟩
  rw [← el] at hS ⊢
  clear el
  refine lv_iconst (v := 0) hx hb dX6_quietPlaces_0 (by decide) ?_
  refine lv_istore_n (lv' := [(3, .int 0), (0, .ref (q0 0)), (1, .ref (q1 0)), (2, .int x2)]) hx hb dX6_quietPlaces_1 rfl hl (by decide) rfl (fun ls hl => ?_)
  refine lv_iconst (v := 0) hx hb dX6_quietPlaces_2 (by decide) ?_
  refine lv_istore (lv' := [(4, .int 0), (3, .int 0), (0, .ref (q0 0)), (1, .ref (q1 0)), (2, .int x2)]) hx hb dX6_quietPlaces_3 hl (by decide) rfl (fun ls hl => ?_)
  exact N5 fu 0 0 _ _ _ h hP hD hS (lv_sub hl [2, 3, 4, 1, 0] rfl)
theorem dX6_placesNearTo_0 : decode cX6_placesNearTo 0 = .ok (.iconst 0, 1) := by decide +kernel
theorem dX6_placesNearTo_1 : decode cX6_placesNearTo 1 = .ok (.istore_n 3, 1) := by decide +kernel
theorem dX6_placesNearTo_2 : decode cX6_placesNearTo 2 = .ok (.iconst 0, 1) := by decide +kernel
theorem dX6_placesNearTo_3 : decode cX6_placesNearTo 3 = .ok (.istore 4, 2) := by decide +kernel
theorem dX6_placesNearTo_5 : decode cX6_placesNearTo 5 = .ok (.iload 4, 2) := by decide +kernel
theorem dX6_placesNearTo_7 : decode cX6_placesNearTo 7 = .ok (.sipush 384, 3) := by decide +kernel
theorem dX6_placesNearTo_10 : decode cX6_placesNearTo 10 = .ok (.if_icmp .ge 31, 3) := by decide +kernel
theorem dX6_placesNearTo_13 : decode cX6_placesNearTo 13 = .ok (.aload_n 0, 1) := by decide +kernel
theorem dX6_placesNearTo_14 : decode cX6_placesNearTo 14 = .ok (.aload_n 1, 1) := by decide +kernel
theorem dX6_placesNearTo_15 : decode cX6_placesNearTo 15 = .ok (.iload 4, 2) := by decide +kernel
theorem dX6_placesNearTo_17 : decode cX6_placesNearTo 17 = .ok (.bipush 24, 2) := by decide +kernel
theorem dX6_placesNearTo_19 : decode cX6_placesNearTo 19 = .ok (.irem, 1) := by decide +kernel
theorem dX6_placesNearTo_20 : decode cX6_placesNearTo 20 = .ok (.iload 4, 2) := by decide +kernel
theorem dX6_placesNearTo_22 : decode cX6_placesNearTo 22 = .ok (.bipush 24, 2) := by decide +kernel
theorem dX6_placesNearTo_24 : decode cX6_placesNearTo 24 = .ok (.idiv, 1) := by decide +kernel
theorem dX6_placesNearTo_25 : decode cX6_placesNearTo 25 = .ok (.invokevirtual 97, 3) := by decide +kernel
theorem dX6_placesNearTo_28 : decode cX6_placesNearTo 28 = .ok (.iload_n 2, 1) := by decide +kernel
theorem dX6_placesNearTo_29 : decode cX6_placesNearTo 29 = .ok (.if_icmp .ne 6, 3) := by decide +kernel
theorem dX6_placesNearTo_32 : decode cX6_placesNearTo 32 = .ok (.iinc 3 1, 3) := by decide +kernel
theorem dX6_placesNearTo_35 : decode cX6_placesNearTo 35 = .ok (.iinc 4 1, 3) := by decide +kernel
theorem dX6_placesNearTo_38 : decode cX6_placesNearTo 38 = .ok (.goto (-33), 3) := by decide +kernel
theorem dX6_placesNearTo_41 : decode cX6_placesNearTo 41 = .ok (.iload_n 3, 1) := by decide +kernel
theorem dX6_placesNearTo_42 : decode cX6_placesNearTo 42 = .ok (.ireturn, 1) := by decide +kernel
def f_X6_placesNearTo_n5 (S0 : Gr) (S1 : Gr) (x2 : Int32) : Nat → Int32 → Int32 → Option (Int32)
  | 0, _, _ => none
  | n + 1, x3, x4 => if 384 ≤ x4 then (some x3) else (lt' (x4 - x4 / 24 * 24) fun v2 => lt' (x4 / 24) fun v3 => (f_X6_webNearTo S0 S1 v2 v3).bind fun u4 => if u4 = x2 then (lt' (x3 + 1) fun v7 => lt' (x4 + 1) fun v8 => f_X6_placesNearTo_n5 S0 S1 x2 n v7 v8) else (lt' (x4 + 1) fun v6 => f_X6_placesNearTo_n5 S0 S1 x2 n x3 v6))
def f_X6_placesNearTo (S0 : Gr) (S1 : Gr) (x2 : Int32) : Option (Int32) := f_X6_placesNearTo_n5 S0 S1 x2 fu 0 0
set_option maxHeartbeats 4000000 in
set_option maxRecDepth 100000 in
theorem c_X6_placesNearTo (l : Launch) (E : Ec) (q0 q1 : Nat → Nat) (sz : Nat) (S0 : Gr) (S1 : Gr) (x2 : Int32) (Rv : Int32) (h : f_X6_placesNearTo S0 S1 x2 = some Rv) : Met l yX6_placesNearTo (wsM (.code yX6_placesNearTo cX6_placesNearTo 5 (some .int))) ({ frames := 4, cells := 0, slots := 0, locals := 101 } : Room) (va_Pc [.ref (q0 0), .ref (q1 0), .int x2] (ctP E (cw_X6 E q0 S0 ++ (cw_X7 E q1 S1)) sz)) (ctI E (cw_X6 E q0 S0 ++ (cw_X7 E q1 S1)) (cw_X6 E q0 S0 ++ (cw_X7 E q1 S1)) sz Rv) 0 0 (va_A (cw_X6 E q0 S0 ++ (cw_X7 E q1 S1)) sz) := by
  refine ct_metI (by decide) (Nat.le_of_ble_eq_true rfl) ?_
  intro p e s m ar below meth c A QM hx hb hml hown hg X hP hD hS RET ls hl
  have hown : s.vm.findClass RX6 = some m.cls := hown
  have hl : lv_has ls 5 [(0, .ref (q0 0)), (1, .ref (q1 0)), (2, .int x2)] := hl
  have RT : ∀ (v : Int32) (H : Heap) (locs : List Loc) (ls : Array Slot) (pc : Nat), some v = some Rv → narrow .int (.int v) = .int v → va_P E.1 vwCl (cw_X6 E q0 S0 ++ (cw_X7 E q1 S1)) H → va_D A (cw_X6 E q0 S0 ++ (cw_X7 E q1 S1)) → va_S A s.heap H locs → decode cX6_placesNearTo pc = .ok (.ireturn, 1) → W p l e ({ frames := 4, cells := 0, slots := 0, locals := 101 } : Room) s m ar below meth c H locs 0 0 QM (F0 m pc ls [.int v]) := by
    intro v H locs ls pc e hn hP hD hS d
    obtain rfl := sm_e e
    exact RET H locs pc ls hn hP hD hS d
  clear RET
  have N5 : ∀ (n : Nat) (x3 : Int32) (x4 : Int32) (H : Heap) (locs : List Loc) (ls : Array Slot), f_X6_placesNearTo_n5 S0 S1 x2 n x3 x4 = some Rv → va_P E.1 vwCl (cw_X6 E q0 S0 ++ (cw_X7 E q1 S1)) H → va_D A (cw_X6 E q0 S0 ++ (cw_X7 E q1 S1)) → va_S A s.heap H locs → lv_has ls 5 [(0, .ref (q0 0)), (1, .ref (q1 0)), (2, .int x2), (3, .int x3), (4, .int x4)] → W p l e ({ frames := 4, cells := 0, slots := 0, locals := 101 } : Room) s m ar below meth c H locs 0 0 QM (F0 m 5 ls []) := by
    intro n
    induction n with
    | zero => intro x3 x4 H locs ls h; exact nn_el h
    | succ n ih =>
      intro x3 x4 H locs ls h hP hD hS hl
      refine lv_iload hx hb dX6_placesNearTo_5 (lv_at hl 4 rfl) ?_
      refine lv_sipush (v := 384) hx hb dX6_placesNearTo_7 (by decide) ?_
      refine lv_icmp_ge (tgt := 41) hx hb dX6_placesNearTo_10 (by decide) (fun c1 => ?_) (fun c1 => ?_)
      · have h := it_t h c1
        refine lv_iload_n hx hb dX6_placesNearTo_41 rfl (lv_at hl 3 rfl) ?_
        exact RT x3 _ _ _ _ h rfl hP hD hS dX6_placesNearTo_42
      · have h := it_f h c1
        refine lv_aload_n hx hb dX6_placesNearTo_13 rfl (lv_at hl 0 rfl) ?_
        refine lv_aload_n hx hb dX6_placesNearTo_14 rfl (lv_at hl 1 rfl) ?_
        refine lv_iload hx hb dX6_placesNearTo_15 (lv_at hl 4 rfl) ?_
        refine lv_bipush (v := 24) hx hb dX6_placesNearTo_17 (by decide) ?_
        refine lv_irem hx hb dX6_placesNearTo_19 (by decide) ?_
        obtain ⟨v2, ev2, h⟩ := lt_el h
        refine lv_top' ev2 ?_
        refine lv_iload hx hb dX6_placesNearTo_20 (lv_at hl 4 rfl) ?_
        refine lv_bipush (v := 24) hx hb dX6_placesNearTo_22 (by decide) ?_
        refine lv_idiv hx hb dX6_placesNearTo_24 (by decide) ?_
        obtain ⟨v3, ev3, h⟩ := lt_el h
        refine lv_top' ev3 ?_
        obtain ⟨u4, hc, h⟩ := bd_el h
        refine ct_iA (w1 := cw_X6 E q0 S0 ++ (cw_X7 E q1 S1)) X hP hD hS (va_runV (C := RX6) (As := [.ref (q1 0), .int v2, .int v3]) (rest := []) ⟨hx, hb, hml, hown, hg⟩ (c_X6_webNearTo l E q0 q1 H.size S0 S1 v2 v3 u4 hc) (cwV 3 hg (gwV wm_X6_97 wi_X6_webNearTo wsl_X6_webNearTo wini_X6 wco_X6_webNearTo) rfl rfl rfl (by decide +kernel) ⟨Nat.le_of_ble_eq_true rfl, Nat.le_of_ble_eq_true rfl⟩) ⟨ct_blind, ct_rv X.1 hP 0 rfl rfl, ct_preA X hP hD hS _⟩ rfl rfl hl.1 rfl (lv_room (Nat.le_of_ble_eq_true rfl)) dX6_placesNearTo_25 ⟨Nat.zero_le _, Nat.zero_le _⟩) (fun H locs hP hD hS => ?_)
        refine lv_iload_n hx hb dX6_placesNearTo_28 rfl (lv_at hl 2 rfl) ?_
        refine lv_icmp_ne (tgt := 35) hx hb dX6_placesNearTo_29 (by decide) (fun c5 => ?_) (fun c5 => ?_)
        · have h := it_f h c5
          obtain ⟨v6, ev6, h⟩ := lt_el h
          refine lv_iinc (v := v6) (lv' := [(4, .int v6), (0, .ref (q0 0)), (1, .ref (q1 0)), (2, .int x2), (3, .int x3)]) hx hb dX6_placesNearTo_35 hl (k := 4) rfl (by rw [ev6]; rfl) (by decide) rfl (fun ls hl => ?_)
          refine lv_goto (tgt := 5) hx hb dX6_placesNearTo_38 (by decide) ?_
          exact ih x3 v6 _ _ _ h hP hD hS (lv_sub hl [1, 2, 3, 4, 0] rfl)
        · have h := it_t h c5
          obtain ⟨v7, ev7, h⟩ := lt_el h
          refine lv_iinc (v := v7) (lv' := [(3, .int v7), (0, .ref (q0 0)), (1, .ref (q1 0)), (2, .int x2), (4, .int x4)]) hx hb dX6_placesNearTo_32 hl (k := 3) rfl (by rw [ev7]; rfl) (by decide) rfl (fun ls hl => ?_)
          obtain ⟨v8, ev8, h⟩ := lt_el h
          refine lv_iinc (v := v8) (lv' := [(4, .int v8), (3, .int v7), (0, .ref (q0 0)), (1, .ref (q1 0)), (2, .int x2)]) hx hb dX6_placesNearTo_35 hl (k := 4) rfl (by rw [ev8]; rfl) (by decide) rfl (fun ls hl => ?_)
          refine lv_goto (tgt := 5) hx hb dX6_placesNearTo_38 (by decide) ?_
          exact ih v7 v8 _ _ _ h hP hD hS (lv_sub hl [2, 3, 4, 1, 0] rfl)
  obtain ⟨H, eH⟩ : ∃ z, z = s.heap := ⟨_, rfl⟩
  rw [← eH]
  have hP : va_P E.1 vwCl (cw_X6 E q0 S0 ++ (cw_X7 E q1 S1)) H := by rw [eH]; exact hP
  have hS : va_S A s.heap H [] := by rw [eH]; exact hS
  clear eH
  obtain ⟨locs, el⟩ : ∃ z : List Loc, z = [] := ⟨_, rfl⟩
  rw [← el] at hS ⊢
  clear el
  refine lv_iconst (v := 0) hx hb dX6_placesNearTo_0 (by decide) ?_
  refine lv_istore_n (lv' := [(3, .int 0), (0, .ref (q0 0)), (1, .ref (q1 0)), (2, .int x2)]) hx hb dX6_placesNearTo_1 rfl hl (by decide) rfl (fun ls hl => ?_)
  refine lv_iconst (v := 0) hx hb dX6_placesNearTo_2 (by decide) ?_
  refine lv_istore (lv' := [(4, .int 0), (3, .int 0), (0, .ref (q0 0)), (1, .ref (q1 0)), (2, .int x2)]) hx hb dX6_placesNearTo_3 hl (by decide) rfl (fun ls hl => ?_)
  exact N5 fu 0 0 _ _ _ h hP hD hS (lv_sub hl [2, 3, 4, 1, 0] rfl)
