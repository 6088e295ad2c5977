theorem dX5_timesOf_0 : decode cX5_timesOf 0 = .ok (.iconst 0, 1) := by decide +kernel
theorem dX5_timesOf_1 : decode cX5_timesOf 1 = .ok (.istore_n 2, 1) := by decide +kernel
theorem dX5_timesOf_2 : decode cX5_timesOf 2 = .ok (.iconst 0, 1) := by decide +kernel
theorem dX5_timesOf_3 : decode cX5_timesOf 3 = .ok (.istore_n 3, 1) := by decide +kernel
theorem dX5_timesOf_4 : decode cX5_timesOf 4 = .ok (.iload_n 3, 1) := by decide +kernel
theorem dX5_timesOf_5 : decode cX5_timesOf 5 = .ok (.aload_n 0, 1) := by decide +kernel
theorem dX5_timesOf_6 : decode cX5_timesOf 6 = .ok (.getfield 22, 3) := by decide +kernel
theorem dX5_timesOf_9 : decode cX5_timesOf 9 = .ok (.if_icmp .ge 22, 3) := by decide +kernel
theorem dX5_timesOf_12 : decode cX5_timesOf 12 = .ok (.aload_n 0, 1) := by decide +kernel
theorem dX5_timesOf_13 : decode cX5_timesOf 13 = .ok (.getfield 18, 3) := by decide +kernel
theorem dX5_timesOf_16 : decode cX5_timesOf 16 = .ok (.iload_n 3, 1) := by decide +kernel
theorem dX5_timesOf_17 : decode cX5_timesOf 17 = .ok (.iaload, 1) := by decide +kernel
theorem dX5_timesOf_18 : decode cX5_timesOf 18 = .ok (.iload_n 1, 1) := by decide +kernel
theorem dX5_timesOf_19 : decode cX5_timesOf 19 = .ok (.if_icmp .ne 6, 3) := by decide +kernel
theorem dX5_timesOf_22 : decode cX5_timesOf 22 = .ok (.iinc 2 1, 3) := by decide +kernel
theorem dX5_timesOf_25 : decode cX5_timesOf 25 = .ok (.iinc 3 1, 3) := by decide +kernel
theorem dX5_timesOf_28 : decode cX5_timesOf 28 = .ok (.goto (-24), 3) := by decide +kernel
theorem dX5_timesOf_31 : decode cX5_timesOf 31 = .ok (.iload_n 2, 1) := by decide +kernel
theorem dX5_timesOf_32 : decode cX5_timesOf 32 = .ok (.ireturn, 1) := by decide +kernel
def f_X5_timesOf_n4 (S0 : Gr) (S1 : Gr) (x1 : Int32) : Nat → Int32 → Int32 → Option (Int32)
  | 0, _, _ => none
  | n + 1, x2, x3 => if (S0.1 2) ≤ x3 then (some x2) else (rd' (S0.2 1) 64 x3 fun v2 => if v2 = x1 then (lt' (x2 + 1) fun v5 => lt' (x3 + 1) fun v6 => f_X5_timesOf_n4 S0 S1 x1 n v5 v6) else (lt' (x3 + 1) fun v4 => f_X5_timesOf_n4 S0 S1 x1 n x2 v4))
def f_X5_timesOf (S0 : Gr) (S1 : Gr) (x1 : Int32) : Option (Int32) := f_X5_timesOf_n4 S0 S1 x1 fu 0 0
set_option maxHeartbeats 4000000 in
set_option maxRecDepth 100000 in
theorem c_X5_timesOf (l : Launch) (E : Ec) (q0 q1 : Nat → Nat) (sz : Nat) (S0 : Gr) (S1 : Gr) (x1 : Int32) (Rv : Int32) (h : f_X5_timesOf S0 S1 x1 = some Rv) : Met l yX5_timesOf (wsM (.code yX5_timesOf cX5_timesOf 4 (some .int))) ({ frames := 0, cells := 0, slots := 0, locals := 0 } : Room) (va_Pc [.ref (q0 0), .int x1] (ctP E (cw_X5 E q0 (q1 0) S0 ++ (cw_X9 E q1 S1)) sz)) (ctI E (cw_X5 E q0 (q1 0) S0 ++ (cw_X9 E q1 S1)) (cw_X5 E q0 (q1 0) S0 ++ (cw_X9 E q1 S1)) sz Rv) 0 0 (va_A (cw_X5 E q0 (q1 0) S0 ++ (cw_X9 E q1 S1)) sz) := by
  refine ct_metI (by decide) (Nat.le_of_ble_eq_true rfl) ?_
  intro p e s m ar below meth c A QM hx hb hml hown hg X hP hD hS RET ls hl
  have hown : s.vm.findClass RX5 = some m.cls := hown
  have hl : lv_has ls 4 [(0, .ref (q0 0)), (1, .int x1)] := hl
  have RT : ∀ (v : Int32) (H : Heap) (locs : List Loc) (ls : Array Slot) (pc : Nat), some v = some Rv → narrow .int (.int v) = .int v → va_P E.1 vwCl (cw_X5 E q0 (q1 0) S0 ++ (cw_X9 E q1 S1)) H → va_D A (cw_X5 E q0 (q1 0) S0 ++ (cw_X9 E q1 S1)) → va_S A s.heap H locs → decode cX5_timesOf pc = .ok (.ireturn, 1) → W p l e ({ frames := 0, cells := 0, slots := 0, locals := 0 } : Room) s m ar below meth c H locs 0 0 QM (F0 m pc ls [.int v]) := by
    intro v H locs ls pc e hn hP hD hS d
    obtain rfl := sm_e e
    exact RET H locs pc ls hn hP hD hS d
  clear RET
  have N4 : ∀ (n : Nat) (x2 : Int32) (x3 : Int32) (H : Heap) (locs : List Loc) (ls : Array Slot), f_X5_timesOf_n4 S0 S1 x1 n x2 x3 = some Rv → va_P E.1 vwCl (cw_X5 E q0 (q1 0) S0 ++ (cw_X9 E q1 S1)) H → va_D A (cw_X5 E q0 (q1 0) S0 ++ (cw_X9 E q1 S1)) → va_S A s.heap H locs → lv_has ls 4 [(0, .ref (q0 0)), (1, .int x1), (2, .int x2), (3, .int x3)] → W p l e ({ frames := 0, cells := 0, slots := 0, locals := 0 } : Room) s m ar below meth c H locs 0 0 QM (F0 m 4 ls []) := by
    intro n
    induction n with
    | zero => intro x2 x3 H locs ls h; exact nn_el h
    | succ n ih =>
      intro x2 x3 H locs ls h hP hD hS hl
      refine lv_iload_n hx hb dX5_timesOf_4 rfl (lv_at hl 3 rfl) ?_
      refine lv_aload_n hx hb dX5_timesOf_5 rfl (lv_at hl 0 rfl) ?_
      refine va_get (D := E.1) (ci := 4) (v := .int (S0.1 2)) (C := RX5) (T := TX5) (N := 3) hx hb hg in_X5 hown X.1 hP 0 rfl rfl 2 (by decide) (hg _ wf_X5_22) (fun _ h9 => h9) rfl dX5_timesOf_6 ?_
      refine lv_icmp_ge (tgt := 31) hx hb dX5_timesOf_9 (by decide) (fun c1 => ?_) (fun c1 => ?_)
      · have h := it_t h c1
        refine lv_iload_n hx hb dX5_timesOf_31 rfl (lv_at hl 2 rfl) ?_
        exact RT x2 _ _ _ _ h rfl hP hD hS dX5_timesOf_32
      · have h := it_f h c1
        refine lv_aload_n hx hb dX5_timesOf_12 rfl (lv_at hl 0 rfl) ?_
        refine va_get (D := E.1) (ci := 4) (v := .ref (q0 1)) (C := RX5) (T := TX5) (N := 3) hx hb hg in_X5 hown X.1 hP 0 rfl rfl 1 (by decide) (hg _ wf_X5_18) (fun _ h9 => h9) rfl dX5_timesOf_13 ?_
        refine lv_iload_n hx hb dX5_timesOf_16 rfl (lv_at hl 3 rfl) ?_
        obtain ⟨hi, v2, ev2, h⟩ := rd_el h
        refine va_iald hx hb X.1 hP 1 0 rfl rfl hi dX5_timesOf_17 ?_
        refine lv_top' ev2 ?_
        refine lv_iload_n hx hb dX5_timesOf_18 rfl (lv_at hl 1 rfl) ?_
        refine lv_icmp_ne (tgt := 25) hx hb dX5_timesOf_19 (by decide) (fun c3 => ?_) (fun c3 => ?_)
        · have h := it_f h c3
          obtain ⟨v4, ev4, h⟩ := lt_el h
          refine lv_iinc (v := v4) (lv' := [(3, .int v4), (0, .ref (q0 0)), (1, .int x1), (2, .int x2)]) hx hb dX5_timesOf_25 hl (k := 3) rfl (by rw [ev4]; rfl) (by decide) rfl (fun ls hl => ?_)
          refine lv_goto (tgt := 4) hx hb dX5_timesOf_28 (by decide) ?_
          exact ih x2 v4 _ _ _ h hP hD hS (lv_sub hl [1, 2, 3, 0] rfl)
        · have h := it_t h c3
          obtain ⟨v5, ev5, h⟩ := lt_el h
          refine lv_iinc (v := v5) (lv' := [(2, .int v5), (0, .ref (q0 0)), (1, .int x1), (3, .int x3)]) hx hb dX5_timesOf_22 hl (k := 2) rfl (by rw [ev5]; rfl) (by decide) rfl (fun ls hl => ?_)
          obtain ⟨v6, ev6, h⟩ := lt_el h
          refine lv_iinc (v := v6) (lv' := [(3, .int v6), (2, .int v5), (0, .ref (q0 0)), (1, .int x1)]) hx hb dX5_timesOf_25 hl (k := 3) rfl (by rw [ev6]; rfl) (by decide) rfl (fun ls hl => ?_)
          refine lv_goto (tgt := 4) hx hb dX5_timesOf_28 (by decide) ?_
          exact ih v5 v6 _ _ _ h hP hD hS (lv_sub hl [2, 3, 1, 0] rfl)
  obtain ⟨H, eH⟩ : ∃ z, z = s.heap := ⟨_, rfl⟩
  rw [← eH]
  have hP : va_P E.1 vwCl (cw_X5 E q0 (q1 0) S0 ++ (cw_X9 E q1 S1)) H := by rw [eH]; exact hP
  have hS : va_S A s.heap H [] := by rw [eH]; exact hS
  clear eH
  obtain ⟨locs, el⟩ : ∃ z : List Loc, z = [] := ⟨_, rfl⟩
  rw [← el] at hS ⊢
  clear el
  refine lv_iconst (v := 0) hx hb dX5_timesOf_0 (by decide) ?_
  refine lv_istore_n (lv' := [(2, .int 0), (0, .ref (q0 0)), (1, .int x1)]) hx hb dX5_timesOf_1 rfl hl (by decide) rfl (fun ls hl => ?_)
  refine lv_iconst (v := 0) hx hb dX5_timesOf_2 (by decide) ?_
  refine lv_istore_n (lv' := [(3, .int 0), (2, .int 0), (0, .ref (q0 0)), (1, .int x1)]) hx hb dX5_timesOf_3 rfl hl (by decide) rfl (fun ls hl => ?_)
  exact N4 fu 0 0 _ _ _ h hP hD hS (lv_sub hl [2, 3, 1, 0] rfl)
theorem dX5_commonest_0 : decode cX5_commonest 0 = .ok (.iconst 0, 1) := by decide +kernel
theorem dX5_commonest_1 : decode cX5_commonest 1 = .ok (.istore_n 1, 1) := by decide +kernel
theorem dX5_commonest_2 : decode cX5_commonest 2 = .ok (.iconst 1, 1) := by decide +kernel
theorem dX5_commonest_3 : decode cX5_commonest 3 = .ok (.istore_n 2, 1) := by decide +kernel
theorem dX5_commonest_4 : decode cX5_commonest 4 = .ok (.iload_n 2, 1) := by decide +kernel
theorem dX5_commonest_5 : decode cX5_commonest 5 = .ok (.bipush 8, 2) := by decide +kernel
theorem dX5_commonest_7 : decode cX5_commonest 7 = .ok (.if_icmp .ge 24, 3) := by decide +kernel
theorem dX5_commonest_10 : decode cX5_commonest 10 = .ok (.aload_n 0, 1) := by decide +kernel
theorem dX5_commonest_11 : decode cX5_commonest 11 = .ok (.iload_n 2, 1) := by decide +kernel
theorem dX5_commonest_12 : decode cX5_commonest 12 = .ok (.invokevirtual 87, 3) := by decide +kernel
theorem dX5_commonest_15 : decode cX5_commonest 15 = .ok (.aload_n 0, 1) := by decide +kernel
theorem dX5_commonest_16 : decode cX5_commonest 16 = .ok (.iload_n 1, 1) := by decide +kernel
theorem dX5_commonest_17 : decode cX5_commonest 17 = .ok (.invokevirtual 87, 3) := by decide +kernel
theorem dX5_commonest_20 : decode cX5_commonest 20 = .ok (.if_icmp .le 5, 3) := by decide +kernel
theorem dX5_commonest_23 : decode cX5_commonest 23 = .ok (.iload_n 2, 1) := by decide +kernel
theorem dX5_commonest_24 : decode cX5_commonest 24 = .ok (.istore_n 1, 1) := by decide +kernel
theorem dX5_commonest_25 : decode cX5_commonest 25 = .ok (.iinc 2 1, 3) := by decide +kernel
theorem dX5_commonest_28 : decode cX5_commonest 28 = .ok (.goto (-24), 3) := by decide +kernel
theorem dX5_commonest_31 : decode cX5_commonest 31 = .ok (.iload_n 1, 1) := by decide +kernel
theorem dX5_commonest_32 : decode cX5_commonest 32 = .ok (.ireturn, 1) := by decide +kernel
def f_X5_commonest_n4 (S0 : Gr) (S1 : Gr) : Nat → Int32 → Int32 → Option (Int32)
  | 0, _, _ => none
  | n + 1, x1, x2 => if 8 ≤ x2 then (some x1) else ((f_X5_timesOf S0 S1 x2).bind fun u2 => (f_X5_timesOf S0 S1 x1).bind fun u3 => if u2 ≤ u3 then (lt' (x2 + 1) fun v5 => f_X5_commonest_n4 S0 S1 n x1 v5) else (lt' (x2 + 1) fun v6 => f_X5_commonest_n4 S0 S1 n x2 v6))
def f_X5_commonest (S0 : Gr) (S1 : Gr) : Option (Int32) := f_X5_commonest_n4 S0 S1 fu 0 1
set_option maxHeartbeats 4000000 in
set_option maxRecDepth 100000 in
theorem c_X5_commonest (l : Launch) (E : Ec) (q0 q1 : Nat → Nat) (sz : Nat) (S0 : Gr) (S1 : Gr) (Rv : Int32) (h : f_X5_commonest S0 S1 = some Rv) : Met l yX5_commonest (wsM (.code yX5_commonest cX5_commonest 3 (some .int))) ({ frames := 1, cells := 0, slots := 0, locals := 23 } : Room) (va_Pc [.ref (q0 0)] (ctP E (cw_X5 E q0 (q1 0) S0 ++ (cw_X9 E q1 S1)) sz)) (ctI E (cw_X5 E q0 (q1 0) S0 ++ (cw_X9 E q1 S1)) (cw_X5 E q0 (q1 0) S0 ++ (cw_X9 E q1 S1)) sz Rv) 0 0 (va_A (cw_X5 E q0 (q1 0) S0 ++ (cw_X9 E q1 S1)) sz) := by
  refine ct_metI (by decide) (Nat.le_of_ble_eq_true rfl) ?_
  intro p e s m ar below meth c A QM hx hb hml hown hg X hP hD hS RET ls hl
  have hown : s.vm.findClass RX5 = some m.cls := hown
  have hl : lv_has ls 3 [(0, .ref (q0 0))] := hl
  have RT : ∀ (v : Int32) (H : Heap) (locs : List Loc) (ls : Array Slot) (pc : Nat), some v = some Rv → narrow .int (.int v) = .int v → va_P E.1 vwCl (cw_X5 E q0 (q1 0) S0 ++ (cw_X9 E q1 S1)) H → va_D A (cw_X5 E q0 (q1 0) S0 ++ (cw_X9 E q1 S1)) → va_S A s.heap H locs → decode cX5_commonest pc = .ok (.ireturn, 1) → W p l e ({ frames := 1, cells := 0, slots := 0, locals := 23 } : Room) s m ar below meth c H locs 0 0 QM (F0 m pc ls [.int v]) := by
    intro v H locs ls pc e hn hP hD hS d
    obtain rfl := sm_e e
    exact RET H locs pc ls hn hP hD hS d
  clear RET
  have N4 : ∀ (n : Nat) (x1 : Int32) (x2 : Int32) (H : Heap) (locs : List Loc) (ls : Array Slot), f_X5_commonest_n4 S0 S1 n x1 x2 = some Rv → va_P E.1 vwCl (cw_X5 E q0 (q1 0) S0 ++ (cw_X9 E q1 S1)) H → va_D A (cw_X5 E q0 (q1 0) S0 ++ (cw_X9 E q1 S1)) → va_S A s.heap H locs → lv_has ls 3 [(0, .ref (q0 0)), (1, .int x1), (2, .int x2)] → W p l e ({ frames := 1, cells := 0, slots := 0, locals := 23 } : Room) s m ar below meth c H locs 0 0 QM (F0 m 4 ls []) := by
    intro n
    induction n with
    | zero => intro x1 x2 H locs ls h; exact nn_el h
    | succ n ih =>
      intro x1 x2 H locs ls h hP hD hS hl
      refine lv_iload_n hx hb dX5_commonest_4 rfl (lv_at hl 2 rfl) ?_
      refine lv_bipush (v := 8) hx hb dX5_commonest_5 (by decide) ?_
      refine lv_icmp_ge (tgt := 31) hx hb dX5_commonest_7 (by decide) (fun c1 => ?_) (fun c1 => ?_)
      · have h := it_t h c1
        refine lv_iload_n hx hb dX5_commonest_31 rfl (lv_at hl 1 rfl) ?_
        exact RT x1 _ _ _ _ h rfl hP hD hS dX5_commonest_32
      · have h := it_f h c1
        refine lv_aload_n hx hb dX5_commonest_10 rfl (lv_at hl 0 rfl) ?_
        refine lv_iload_n hx hb dX5_commonest_11 rfl (lv_at hl 2 rfl) ?_
        obtain ⟨u2, hc, h⟩ := bd_el h
        refine ct_iA (w1 := cw_X5 E q0 (q1 0) S0 ++ (cw_X9 E q1 S1)) X hP hD hS (va_runV (C := RX5) (As := [.int x2]) (rest := []) ⟨hx, hb, hml, hown, hg⟩ (c_X5_timesOf l E q0 q1 H.size S0 S1 x2 u2 hc) (cwV 1 hg (gwV wm_X5_87 wi_X5_timesOf wsl_X5_timesOf wini_X5 wco_X5_timesOf) rfl rfl rfl (by decide +kernel) ⟨Nat.le_of_ble_eq_true rfl, Nat.le_of_ble_eq_true rfl⟩) ⟨ct_blind, ct_rv X.1 hP 0 rfl rfl, ct_preA X hP hD hS _⟩ rfl rfl hl.1 rfl (lv_room (Nat.le_of_ble_eq_true rfl)) dX5_commonest_12 ⟨Nat.zero_le _, Nat.zero_le _⟩) (fun H locs hP hD hS => ?_)
        refine lv_aload_n hx hb dX5_commonest_15 rfl (lv_at hl 0 rfl) ?_
        refine lv_iload_n hx hb dX5_commonest_16 rfl (lv_at hl 1 rfl) ?_
        obtain ⟨u3, hc, h⟩ := bd_el h
        refine ct_iA (w1 := cw_X5 E q0 (q1 0) S0 ++ (cw_X9 E q1 S1)) X hP hD hS (va_runV (C := RX5) (As := [.int x1]) (rest := [.int u2]) ⟨hx, hb, hml, hown, hg⟩ (c_X5_timesOf l E q0 q1 H.size S0 S1 x1 u3 hc) (cwV 1 hg (gwV wm_X5_87 wi_X5_timesOf wsl_X5_timesOf wini_X5 wco_X5_timesOf) rfl rfl rfl (by decide +kernel) ⟨Nat.le_of_ble_eq_true rfl, Nat.le_of_ble_eq_true rfl⟩) ⟨ct_blind, ct_rv X.1 hP 0 rfl rfl, ct_preA X hP hD hS _⟩ rfl rfl hl.1 rfl (lv_room (Nat.le_of_ble_eq_true rfl)) dX5_commonest_17 ⟨Nat.zero_le _, Nat.zero_le _⟩) (fun H locs hP hD hS => ?_)
        refine lv_icmp_le (tgt := 25) hx hb dX5_commonest_20 (by decide) (fun c4 => ?_) (fun c4 => ?_)
        · have h := it_t h c4
          obtain ⟨v5, ev5, h⟩ := lt_el h
          refine lv_iinc (v := v5) (lv' := [(2, .int v5), (0, .ref (q0 0)), (1, .int x1)]) hx hb dX5_commonest_25 hl (k := 2) rfl (by rw [ev5]; rfl) (by decide) rfl (fun ls hl => ?_)
          refine lv_goto (tgt := 4) hx hb dX5_commonest_28 (by decide) ?_
          exact ih x1 v5 _ _ _ h hP hD hS (lv_sub hl [1, 2, 0] rfl)
        · have h := it_f h c4
          refine lv_iload_n hx hb dX5_commonest_23 rfl (lv_at hl 2 rfl) ?_
          refine lv_istore_n (lv' := [(1, .int x2), (0, .ref (q0 0)), (2, .int x2)]) hx hb dX5_commonest_24 rfl hl (by decide) rfl (fun ls hl => ?_)
          obtain ⟨v6, ev6, h⟩ := lt_el h
          refine lv_iinc (v := v6) (lv' := [(2, .int v6), (1, .int x2), (0, .ref (q0 0))]) hx hb dX5_commonest_25 hl (k := 2) rfl (by rw [ev6]; rfl) (by decide) rfl (fun ls hl => ?_)
          refine lv_goto (tgt := 4) hx hb dX5_commonest_28 (by decide) ?_
          exact ih x2 v6 _ _ _ h hP hD hS (lv_sub hl [2, 1, 0] rfl)
  obtain ⟨H, eH⟩ : ∃ z, z = s.heap := ⟨_, rfl⟩
  rw [← eH]
  have hP : va_P E.1 vwCl (cw_X5 E q0 (q1 0) S0 ++ (cw_X9 E q1 S1)) H := by rw [eH]; exact hP
  have hS : va_S A s.heap H [] := by rw [eH]; exact hS
  clear eH
  obtain ⟨locs, el⟩ : ∃ z : List Loc, z = [] := ⟨_, rfl⟩
  rw [← el] at hS ⊢
  clear el
  refine lv_iconst (v := 0) hx hb dX5_commonest_0 (by decide) ?_
  refine lv_istore_n (lv' := [(1, .int 0), (0, .ref (q0 0))]) hx hb dX5_commonest_1 rfl hl (by decide) rfl (fun ls hl => ?_)
  refine lv_iconst (v := 1) hx hb dX5_commonest_2 (by decide) ?_
  refine lv_istore_n (lv' := [(2, .int 1), (1, .int 0), (0, .ref (q0 0))]) hx hb dX5_commonest_3 rfl hl (by decide) rfl (fun ls hl => ?_)
  exact N4 fu 0 1 _ _ _ h hP hD hS (lv_sub hl [2, 1, 0] rfl)
theorem dX5_longestRow_0 : decode cX5_longestRow 0 = .ok (.iconst 0, 1) := by decide +kernel
theorem dX5_longestRow_1 : decode cX5_longestRow 1 = .ok (.istore_n 1, 1) := by decide +kernel
theorem dX5_longestRow_2 : decode cX5_longestRow 2 = .ok (.iconst 0, 1) := by decide +kernel
theorem dX5_longestRow_3 : decode cX5_longestRow 3 = .ok (.istore_n 2, 1) := by decide +kernel
theorem dX5_longestRow_4 : decode cX5_longestRow 4 = .ok (.iconst 0, 1) := by decide +kernel
theorem dX5_longestRow_5 : decode cX5_longestRow 5 = .ok (.istore_n 3, 1) := by decide +kernel
theorem dX5_longestRow_6 : decode cX5_longestRow 6 = .ok (.iload_n 3, 1) := by decide +kernel
theorem dX5_longestRow_7 : decode cX5_longestRow 7 = .ok (.aload_n 0, 1) := by decide +kernel
theorem dX5_longestRow_8 : decode cX5_longestRow 8 = .ok (.getfield 22, 3) := by decide +kernel
theorem dX5_longestRow_11 : decode cX5_longestRow 11 = .ok (.if_icmp .ge 44, 3) := by decide +kernel
theorem dX5_longestRow_14 : decode cX5_longestRow 14 = .ok (.iload_n 3, 1) := by decide +kernel
theorem dX5_longestRow_15 : decode cX5_longestRow 15 = .ok (.ifCond .le 26, 3) := by decide +kernel
theorem dX5_longestRow_18 : decode cX5_longestRow 18 = .ok (.aload_n 0, 1) := by decide +kernel
theorem dX5_longestRow_19 : decode cX5_longestRow 19 = .ok (.getfield 18, 3) := by decide +kernel
theorem dX5_longestRow_22 : decode cX5_longestRow 22 = .ok (.iload_n 3, 1) := by decide +kernel
theorem dX5_longestRow_23 : decode cX5_longestRow 23 = .ok (.iaload, 1) := by decide +kernel
theorem dX5_longestRow_24 : decode cX5_longestRow 24 = .ok (.aload_n 0, 1) := by decide +kernel
theorem dX5_longestRow_25 : decode cX5_longestRow 25 = .ok (.getfield 18, 3) := by decide +kernel
theorem dX5_longestRow_28 : decode cX5_longestRow 28 = .ok (.iload_n 3, 1) := by decide +kernel
theorem dX5_longestRow_29 : decode cX5_longestRow 29 = .ok (.iconst 1, 1) := by decide +kernel
theorem dX5_longestRow_30 : decode cX5_longestRow 30 = .ok (.isub, 1) := by decide +kernel
theorem dX5_longestRow_31 : decode cX5_longestRow 31 = .ok (.iaload, 1) := by decide +kernel
theorem dX5_longestRow_32 : decode cX5_longestRow 32 = .ok (.if_icmp .ne 9, 3) := by decide +kernel
theorem dX5_longestRow_35 : decode cX5_longestRow 35 = .ok (.iload_n 2, 1) := by decide +kernel
theorem dX5_longestRow_36 : decode cX5_longestRow 36 = .ok (.iconst 1, 1) := by decide +kernel
theorem dX5_longestRow_37 : decode cX5_longestRow 37 = .ok (.iadd, 1) := by decide +kernel
theorem dX5_longestRow_38 : decode cX5_longestRow 38 = .ok (.goto 4, 3) := by decide +kernel
theorem dX5_longestRow_41 : decode cX5_longestRow 41 = .ok (.iconst 1, 1) := by decide +kernel
theorem dX5_longestRow_42 : decode cX5_longestRow 42 = .ok (.istore_n 2, 1) := by decide +kernel
theorem dX5_longestRow_43 : decode cX5_longestRow 43 = .ok (.iload_n 1, 1) := by decide +kernel
theorem dX5_longestRow_44 : decode cX5_longestRow 44 = .ok (.iload_n 2, 1) := by decide +kernel
theorem dX5_longestRow_45 : decode cX5_longestRow 45 = .ok (.invokestatic 91, 3) := by decide +kernel
theorem dX5_longestRow_48 : decode cX5_longestRow 48 = .ok (.istore_n 1, 1) := by decide +kernel
theorem dX5_longestRow_49 : decode cX5_longestRow 49 = .ok (.iinc 3 1, 3) := by decide +kernel
theorem dX5_longestRow_52 : decode cX5_longestRow 52 = .ok (.goto (-46), 3) := by decide +kernel
theorem dX5_longestRow_55 : decode cX5_longestRow 55 = .ok (.iload_n 1, 1) := by decide +kernel
theorem dX5_longestRow_56 : decode cX5_longestRow 56 = .ok (.ireturn, 1) := by decide +kernel
def f_X5_longestRow_n6 (S0 : Gr) (S1 : Gr) : Nat → Int32 → Int32 → Int32 → Option (Int32)
  | 0, _, _, _ => none
  | n + 1, x1, x2, x3 => if (S0.1 2) ≤ x3 then (some x1) else (if x3 ≤ 0 then (lt' (mx' x1 1) fun v3 => lt' (x3 + 1) fun v4 => f_X5_longestRow_n6 S0 S1 n v3 1 v4) else (rd' (S0.2 1) 64 x3 fun v5 => rd' (S0.2 1) 64 (x3 - 1) fun v6 => if v5 = v6 then (lt' ((x2 + 1)) fun v10 => lt' (mx' x1 v10) fun v11 => lt' (x3 + 1) fun v12 => f_X5_longestRow_n6 S0 S1 n v11 v10 v12) else (lt' (mx' x1 1) fun v8 => lt' (x3 + 1) fun v9 => f_X5_longestRow_n6 S0 S1 n v8 1 v9)))
def f_X5_longestRow (S0 : Gr) (S1 : Gr) : Option (Int32) := f_X5_longestRow_n6 S0 S1 fu 0 0 0
set_option maxHeartbeats 4000000 in
set_option maxRecDepth 100000 in
theorem c_X5_longestRow (l : Launch) (E : Ec) (q0 q1 : Nat → Nat) (sz : Nat) (S0 : Gr) (S1 : Gr) (Rv : Int32) (h : f_X5_longestRow S0 S1 = some Rv) : Met l yX5_longestRow (wsM (.code yX5_longestRow cX5_longestRow 4 (some .int))) ({ frames := 1, cells := 0, slots := 0, locals := 30 } : Room) (va_Pc [.ref (q0 0)] (ctP E (cw_X5 E q0 (q1 0) S0 ++ (cw_X9 E q1 S1)) sz)) (ctI E (cw_X5 E q0 (q1 0) S0 ++ (cw_X9 E q1 S1)) (cw_X5 E q0 (q1 0) S0 ++ (cw_X9 E q1 S1)) sz Rv) 0 0 (va_A (cw_X5 E q0 (q1 0) S0 ++ (cw_X9 E q1 S1)) sz) := by
  refine ct_metI (by decide) (Nat.le_of_ble_eq_true rfl) ?_
  intro p e s m ar below meth c A QM hx hb hml hown hg X hP hD hS RET ls hl
  have hown : s.vm.findClass RX5 = some m.cls := hown
  have hl : lv_has ls 4 [(0, .ref (q0 0))] := hl
  have RT : ∀ (v : Int32) (H : Heap) (locs : List Loc) (ls : Array Slot) (pc : Nat), some v = some Rv → narrow .int (.int v) = .int v → va_P E.1 vwCl (cw_X5 E q0 (q1 0) S0 ++ (cw_X9 E q1 S1)) H → va_D A (cw_X5 E q0 (q1 0) S0 ++ (cw_X9 E q1 S1)) → va_S A s.heap H locs → decode cX5_longestRow pc = .ok (.ireturn, 1) → W p l e ({ frames := 1, cells := 0, slots := 0, locals := 30 } : Room) s m ar below meth c H locs 0 0 QM (F0 m pc ls [.int v]) := by
    intro v H locs ls pc e hn hP hD hS d
    obtain rfl := sm_e e
    exact RET H locs pc ls hn hP hD hS d
  clear RET
  have N6 : ∀ (n : Nat) (x1 : Int32) (x2 : Int32) (x3 : Int32) (H : Heap) (locs : List Loc) (ls : Array Slot), f_X5_longestRow_n6 S0 S1 n x1 x2 x3 = some Rv → va_P E.1 vwCl (cw_X5 E q0 (q1 0) S0 ++ (cw_X9 E q1 S1)) H → va_D A (cw_X5 E q0 (q1 0) S0 ++ (cw_X9 E q1 S1)) → va_S A s.heap H locs → lv_has ls 4 [(0, .ref (q0 0)), (1, .int x1), (2, .int x2), (3, .int x3)] → W p l e ({ frames := 1, cells := 0, slots := 0, locals := 30 } : Room) s m ar below meth c H locs 0 0 QM (F0 m 6 ls []) := by
    intro n
    induction n with
    | zero => intro x1 x2 x3 H locs ls h; exact nn_el h
    | succ n ih =>
      intro x1 x2 x3 H locs ls h hP hD hS hl
      refine lv_iload_n hx hb dX5_longestRow_6 rfl (lv_at hl 3 rfl) ?_
      refine lv_aload_n hx hb dX5_longestRow_7 rfl (lv_at hl 0 rfl) ?_
      refine va_get (D := E.1) (ci := 4) (v := .int (S0.1 2)) (C := RX5) (T := TX5) (N := 3) hx hb hg in_X5 hown X.1 hP 0 rfl rfl 2 (by decide) (hg _ wf_X5_22) (fun _ h9 => h9) rfl dX5_longestRow_8 ?_
      refine lv_icmp_ge (tgt := 55) hx hb dX5_longestRow_11 (by decide) (fun c1 => ?_) (fun c1 => ?_)
      · have h := it_t h c1
        refine lv_iload_n hx hb dX5_longestRow_55 rfl (lv_at hl 1 rfl) ?_
        exact RT x1 _ _ _ _ h rfl hP hD hS dX5_longestRow_56
      · have h := it_f h c1
        refine lv_iload_n hx hb dX5_longestRow_14 rfl (lv_at hl 3 rfl) ?_
        refine lv_if_le (tgt := 41) hx hb dX5_longestRow_15 (by decide) (fun c2 => ?_) (fun c2 => ?_)
        · have h := it_t h c2
          refine lv_iconst (v := 1) hx hb dX5_longestRow_41 (by decide) ?_
          refine lv_istore_n (lv' := [(2, .int 1), (0, .ref (q0 0)), (1, .int x1), (3, .int x3)]) hx hb dX5_longestRow_42 rfl hl (by decide) rfl (fun ls hl => ?_)
          refine lv_iload_n hx hb dX5_longestRow_43 rfl (lv_at hl 2 rfl) ?_
          refine lv_iload_n hx hb dX5_longestRow_44 rfl (lv_at hl 0 rfl) ?_
          obtain ⟨v3, ev3, h⟩ := lt_el h
          refine va_mmax hx hb (hml.trans hl.1.symm) hown (hg _ wm_X5_91) (hg _ wst_Mmax) (hg _ wini_J9) (hg _ wco_Mmax) (Nat.le_of_ble_eq_true rfl) (Nat.le_of_ble_eq_true rfl) (Nat.zero_le _) (Nat.zero_le _) dX5_longestRow_45 ?_
          refine lv_top' ev3 ?_
          refine lv_istore_n (lv' := [(1, .int v3), (2, .int 1), (0, .ref (q0 0)), (3, .int x3)]) hx hb dX5_longestRow_48 rfl hl (by decide) rfl (fun ls hl => ?_)
          obtain ⟨v4, ev4, h⟩ := lt_el h
          refine lv_iinc (v := v4) (lv' := [(3, .int v4), (1, .int v3), (2, .int 1), (0, .ref (q0 0))]) hx hb dX5_longestRow_49 hl (k := 3) rfl (by rw [ev4]; rfl) (by decide) rfl (fun ls hl => ?_)
          refine lv_goto (tgt := 6) hx hb dX5_longestRow_52 (by decide) ?_
          exact ih v3 1 v4 _ _ _ h hP hD hS (lv_sub hl [3, 1, 2, 0] rfl)
        · have h := it_f h c2
          refine lv_aload_n hx hb dX5_longestRow_18 rfl (lv_at hl 0 rfl) ?_
          refine va_get (D := E.1) (ci := 4) (v := .ref (q0 1)) (C := RX5) (T := TX5) (N := 3) hx hb hg in_X5 hown X.1 hP 0 rfl rfl 1 (by decide) (hg _ wf_X5_18) (fun _ h9 => h9) rfl dX5_longestRow_19 ?_
          refine lv_iload_n hx hb dX5_longestRow_22 rfl (lv_at hl 3 rfl) ?_
          obtain ⟨hi, v5, ev5, h⟩ := rd_el h
          refine va_iald hx hb X.1 hP 1 0 rfl rfl hi dX5_longestRow_23 ?_
          refine lv_top' ev5 ?_
          refine lv_aload_n hx hb dX5_longestRow_24 rfl (lv_at hl 0 rfl) ?_
          refine va_get (D := E.1) (ci := 4) (v := .ref (q0 1)) (C := RX5) (T := TX5) (N := 3) hx hb hg in_X5 hown X.1 hP 0 rfl rfl 1 (by decide) (hg _ wf_X5_18) (fun _ h9 => h9) rfl dX5_longestRow_25 ?_
          refine lv_iload_n hx hb dX5_longestRow_28 rfl (lv_at hl 3 rfl) ?_
          refine lv_iconst (v := 1) hx hb dX5_longestRow_29 (by decide) ?_
          refine lv_isub hx hb dX5_longestRow_30 ?_
          obtain ⟨hi, v6, ev6, h⟩ := rd_el h
          refine va_iald hx hb X.1 hP 1 0 rfl rfl hi dX5_longestRow_31 ?_
          refine lv_top' ev6 ?_
          refine lv_icmp_ne (tgt := 41) hx hb dX5_longestRow_32 (by decide) (fun c7 => ?_) (fun c7 => ?_)
          · have h := it_f h c7
            refine lv_iconst (v := 1) hx hb dX5_longestRow_41 (by decide) ?_
            refine lv_istore_n (lv' := [(2, .int 1), (0, .ref (q0 0)), (1, .int x1), (3, .int x3)]) hx hb dX5_longestRow_42 rfl hl (by decide) rfl (fun ls hl => ?_)
            refine lv_iload_n hx hb dX5_longestRow_43 rfl (lv_at hl 2 rfl) ?_
            refine lv_iload_n hx hb dX5_longestRow_44 rfl (lv_at hl 0 rfl) ?_
            obtain ⟨v8, ev8, h⟩ := lt_el h
            refine va_mmax hx hb (hml.trans hl.1.symm) hown (hg _ wm_X5_91) (hg _ wst_Mmax) (hg _ wini_J9) (hg _ wco_Mmax) (Nat.le_of_ble_eq_true rfl) (Nat.le_of_ble_eq_true rfl) (Nat.zero_le _) (Nat.zero_le _) dX5_longestRow_45 ?_
            refine lv_top' ev8 ?_
            refine lv_istore_n (lv' := [(1, .int v8), (2, .int 1), (0, .ref (q0 0)), (3, .int x3)]) hx hb dX5_longestRow_48 rfl hl (by decide) rfl (fun ls hl => ?_)
            obtain ⟨v9, ev9, h⟩ := lt_el h
            refine lv_iinc (v := v9) (lv' := [(3, .int v9), (1, .int v8), (2, .int 1), (0, .ref (q0 0))]) hx hb dX5_longestRow_49 hl (k := 3) rfl (by rw [ev9]; rfl) (by decide) rfl (fun ls hl => ?_)
            refine lv_goto (tgt := 6) hx hb dX5_longestRow_52 (by decide) ?_
            exact ih v8 1 v9 _ _ _ h hP hD hS (lv_sub hl [3, 1, 2, 0] rfl)
          · have h := it_t h c7
            refine lv_iload_n hx hb dX5_longestRow_35 rfl (lv_at hl 2 rfl) ?_
            refine lv_iconst (v := 1) hx hb dX5_longestRow_36 (by decide) ?_
            refine lv_iadd hx hb dX5_longestRow_37 ?_
            refine lv_goto (tgt := 42) hx hb dX5_longestRow_38 (by decide) ?_
            obtain ⟨v10, ev10, h⟩ := lt_el h
            refine lv_top' ev10 ?_
            refine lv_istore_n (lv' := [(2, .int v10), (0, .ref (q0 0)), (1, .int x1), (3, .int x3)]) hx hb dX5_longestRow_42 rfl hl (by decide) rfl (fun ls hl => ?_)
            refine lv_iload_n hx hb dX5_longestRow_43 rfl (lv_at hl 2 rfl) ?_
            refine lv_iload_n hx hb dX5_longestRow_44 rfl (lv_at hl 0 rfl) ?_
            obtain ⟨v11, ev11, h⟩ := lt_el h
            refine va_mmax hx hb (hml.trans hl.1.symm) hown (hg _ wm_X5_91) (hg _ wst_Mmax) (hg _ wini_J9) (hg _ wco_Mmax) (Nat.le_of_ble_eq_true rfl) (Nat.le_of_ble_eq_true rfl) (Nat.zero_le _) (Nat.zero_le _) dX5_longestRow_45 ?_
            refine lv_top' ev11 ?_
            refine lv_istore_n (lv' := [(1, .int v11), (2, .int v10), (0, .ref (q0 0)), (3, .int x3)]) hx hb dX5_longestRow_48 rfl hl (by decide) rfl (fun ls hl => ?_)
            obtain ⟨v12, ev12, h⟩ := lt_el h
            refine lv_iinc (v := v12) (lv' := [(3, .int v12), (1, .int v11), (2, .int v10), (0, .ref (q0 0))]) hx hb dX5_longestRow_49 hl (k := 3) rfl (by rw [ev12]; rfl) (by decide) rfl (fun ls hl => ?_)
            refine lv_goto (tgt := 6) hx hb dX5_longestRow_52 (by decide) ?_
            exact ih v11 v10 v12 _ _ _ h hP hD hS (lv_sub hl [3, 1, 2, 0] rfl)
  obtain ⟨H, eH⟩ : ∃ z, z = s.heap := ⟨_, rfl⟩
  rw [← eH]
  have hP : va_P E.1 vwCl (cw_X5 E q0 (q1 0) S0 ++ (cw_X9 E q1 S1)) H := by rw [eH]; exact hP
  have hS : va_S A s.heap H [] := by rw [eH]; exact hS
  clear eH
  obtain ⟨locs, el⟩ : ∃ z : List Loc, z = [] := ⟨_, rfl⟩
  rw [← el] at hS ⊢
  clear el
  refine lv_iconst (v := 0) hx hb dX5_longestRow_0 (by decide) ?_
  refine lv_istore_n (lv' := [(1, .int 0), (0, .ref (q0 0))]) hx hb dX5_longestRow_1 rfl hl (by decide) rfl (fun ls hl => ?_)
  refine lv_iconst (v := 0) hx hb dX5_longestRow_2 (by decide) ?_
  refine lv_istore_n (lv' := [(2, .int 0), (1, .int 0), (0, .ref (q0 0))]) hx hb dX5_longestRow_3 rfl hl (by decide) rfl (fun ls hl => ?_)
  refine lv_iconst (v := 0) hx hb dX5_longestRow_4 (by decide) ?_
  refine lv_istore_n (lv' := [(3, .int 0), (2, .int 0), (1, .int 0), (0, .ref (q0 0))]) hx hb dX5_longestRow_5 rfl hl (by decide) rfl (fun ls hl => ?_)
  exact N6 fu 0 0 0 _ _ _ h hP hD hS (lv_sub hl [3, 2, 1, 0] rfl)
theorem dX5_goesOnBy_0 : decode cX5_goesOnBy 0 = .ok (.iload_n 1, 1) := by decide +kernel
theorem dX5_goesOnBy_1 : decode cX5_goesOnBy 1 = .ok (.istore_n 2, 1) := by decide +kernel
theorem dX5_goesOnBy_2 : decode cX5_goesOnBy 2 = .ok (.iload_n 2, 1) := by decide +kernel
theorem dX5_goesOnBy_3 : decode cX5_goesOnBy 3 = .ok (.aload_n 0, 1) := by decide +kernel
theorem dX5_goesOnBy_4 : decode cX5_goesOnBy 4 = .ok (.getfield 22, 3) := by decide +kernel
theorem dX5_goesOnBy_7 : decode cX5_goesOnBy 7 = .ok (.if_icmp .ge 28, 3) := by decide +kernel
theorem dX5_goesOnBy_10 : decode cX5_goesOnBy 10 = .ok (.aload_n 0, 1) := by decide +kernel
theorem dX5_goesOnBy_11 : decode cX5_goesOnBy 11 = .ok (.getfield 18, 3) := by decide +kernel
theorem dX5_goesOnBy_14 : decode cX5_goesOnBy 14 = .ok (.iload_n 2, 1) := by decide +kernel
theorem dX5_goesOnBy_15 : decode cX5_goesOnBy 15 = .ok (.iaload, 1) := by decide +kernel
theorem dX5_goesOnBy_16 : decode cX5_goesOnBy 16 = .ok (.aload_n 0, 1) := by decide +kernel
theorem dX5_goesOnBy_17 : decode cX5_goesOnBy 17 = .ok (.getfield 18, 3) := by decide +kernel
theorem dX5_goesOnBy_20 : decode cX5_goesOnBy 20 = .ok (.iload_n 2, 1) := by decide +kernel
theorem dX5_goesOnBy_21 : decode cX5_goesOnBy 21 = .ok (.iload_n 1, 1) := by decide +kernel
theorem dX5_goesOnBy_22 : decode cX5_goesOnBy 22 = .ok (.isub, 1) := by decide +kernel
theorem dX5_goesOnBy_23 : decode cX5_goesOnBy 23 = .ok (.iaload, 1) := by decide +kernel
theorem dX5_goesOnBy_24 : decode cX5_goesOnBy 24 = .ok (.if_icmp .eq 5, 3) := by decide +kernel
theorem dX5_goesOnBy_27 : decode cX5_goesOnBy 27 = .ok (.iconst 0, 1) := by decide +kernel
theorem dX5_goesOnBy_28 : decode cX5_goesOnBy 28 = .ok (.ireturn, 1) := by decide +kernel
theorem dX5_goesOnBy_29 : decode cX5_goesOnBy 29 = .ok (.iinc 2 1, 3) := by decide +kernel
theorem dX5_goesOnBy_32 : decode cX5_goesOnBy 32 = .ok (.goto (-30), 3) := by decide +kernel
theorem dX5_goesOnBy_35 : decode cX5_goesOnBy 35 = .ok (.iconst 1, 1) := by decide +kernel
theorem dX5_goesOnBy_36 : decode cX5_goesOnBy 36 = .ok (.ireturn, 1) := by decide +kernel
def f_X5_goesOnBy_n2 (S0 : Gr) (S1 : Gr) (x1 : Int32) : Nat → Int32 → Option (Int32)
  | 0, _ => none
  | n + 1, x2 => if (S0.1 2) ≤ x2 then (some 1) else (rd' (S0.2 1) 64 x2 fun v2 => rd' (S0.2 1) 64 (x2 - x1) fun v3 => if v2 = v3 then (lt' (x2 + 1) fun v5 => f_X5_goesOnBy_n2 S0 S1 x1 n v5) else (some 0))
def f_X5_goesOnBy (S0 : Gr) (S1 : Gr) (x1 : Int32) : Option (Int32) := f_X5_goesOnBy_n2 S0 S1 x1 fu x1
set_option maxHeartbeats 4000000 in
set_option maxRecDepth 100000 in
theorem c_X5_goesOnBy (l : Launch) (E : Ec) (q0 q1 : Nat → Nat) (sz : Nat) (S0 : Gr) (S1 : Gr) (x1 : Int32) (Rv : Int32) (h : f_X5_goesOnBy S0 S1 x1 = some Rv) : Met l yX5_goesOnBy (wsM (.code yX5_goesOnBy cX5_goesOnBy 3 (some .boolean))) ({ frames := 0, cells := 0, slots := 0, locals := 0 } : Room) (va_Pc [.ref (q0 0), .int x1] (ctP E (cw_X5 E q0 (q1 0) S0 ++ (cw_X9 E q1 S1)) sz)) (ctI E (cw_X5 E q0 (q1 0) S0 ++ (cw_X9 E q1 S1)) (cw_X5 E q0 (q1 0) S0 ++ (cw_X9 E q1 S1)) sz Rv) 0 0 (va_A (cw_X5 E q0 (q1 0) S0 ++ (cw_X9 E q1 S1)) sz) := by
  refine ct_metI (by decide) (Nat.le_of_ble_eq_true rfl) ?_
  intro p e s m ar below meth c A QM hx hb hml hown hg X hP hD hS RET ls hl
  have hown : s.vm.findClass RX5 = some m.cls := hown
  have hl : lv_has ls 3 [(0, .ref (q0 0)), (1, .int x1)] := hl
  have RT : ∀ (v : Int32) (H : Heap) (locs : List Loc) (ls : Array Slot) (pc : Nat), some v = some Rv → narrow .boolean (.int v) = .int v → va_P E.1 vwCl (cw_X5 E q0 (q1 0) S0 ++ (cw_X9 E q1 S1)) H → va_D A (cw_X5 E q0 (q1 0) S0 ++ (cw_X9 E q1 S1)) → va_S A s.heap H locs → decode cX5_goesOnBy pc = .ok (.ireturn, 1) → W p l e ({ frames := 0, cells := 0, slots := 0, locals := 0 } : Room) s m ar below meth c H locs 0 0 QM (F0 m pc ls [.int v]) := by
    intro v H locs ls pc e hn hP hD hS d
    obtain rfl := sm_e e
    exact RET H locs pc ls hn hP hD hS d
  clear RET
  have N2 : ∀ (n : Nat) (x2 : Int32) (H : Heap) (locs : List Loc) (ls : Array Slot), f_X5_goesOnBy_n2 S0 S1 x1 n x2 = some Rv → va_P E.1 vwCl (cw_X5 E q0 (q1 0) S0 ++ (cw_X9 E q1 S1)) H → va_D A (cw_X5 E q0 (q1 0) S0 ++ (cw_X9 E q1 S1)) → va_S A s.heap H locs → lv_has ls 3 [(0, .ref (q0 0)), (1, .int x1), (2, .int x2)] → W p l e ({ frames := 0, cells := 0, slots := 0, locals := 0 } : Room) s m ar below meth c H locs 0 0 QM (F0 m 2 ls []) := by
    intro n
    induction n with
    | zero => intro x2 H locs ls h; exact nn_el h
    | succ n ih =>
      intro x2 H locs ls h hP hD hS hl
      refine lv_iload_n hx hb dX5_goesOnBy_2 rfl (lv_at hl 2 rfl) ?_
      refine lv_aload_n hx hb dX5_goesOnBy_3 rfl (lv_at hl 0 rfl) ?_
      refine va_get (D := E.1) (ci := 4) (v := .int (S0.1 2)) (C := RX5) (T := TX5) (N := 3) hx hb hg in_X5 hown X.1 hP 0 rfl rfl 2 (by decide) (hg _ wf_X5_22) (fun _ h9 => h9) rfl dX5_goesOnBy_4 ?_
      refine lv_icmp_ge (tgt := 35) hx hb dX5_goesOnBy_7 (by decide) (fun c1 => ?_) (fun c1 => ?_)
      · have h := it_t h c1
        refine lv_iconst (v := 1) hx hb dX5_goesOnBy_35 (by decide) ?_
        exact RT 1 _ _ _ _ h (by decide +kernel) hP hD hS dX5_goesOnBy_36
      · have h := it_f h c1
        refine lv_aload_n hx hb dX5_goesOnBy_10 rfl (lv_at hl 0 rfl) ?_
        refine va_get (D := E.1) (ci := 4) (v := .ref (q0 1)) (C := RX5) (T := TX5) (N := 3) hx hb hg in_X5 hown X.1 hP 0 rfl rfl 1 (by decide) (hg _ wf_X5_18) (fun _ h9 => h9) rfl dX5_goesOnBy_11 ?_
        refine lv_iload_n hx hb dX5_goesOnBy_14 rfl (lv_at hl 2 rfl) ?_
        obtain ⟨hi, v2, ev2, h⟩ := rd_el h
        refine va_iald hx hb X.1 hP 1 0 rfl rfl hi dX5_goesOnBy_15 ?_
        refine lv_top' ev2 ?_
        refine lv_aload_n hx hb dX5_goesOnBy_16 rfl (lv_at hl 0 rfl) ?_
        refine va_get (D := E.1) (ci := 4) (v := .ref (q0 1)) (C := RX5) (T := TX5) (N := 3) hx hb hg in_X5 hown X.1 hP 0 rfl rfl 1 (by decide) (hg _ wf_X5_18) (fun _ h9 => h9) rfl dX5_goesOnBy_17 ?_
        refine lv_iload_n hx hb dX5_goesOnBy_20 rfl (lv_at hl 2 rfl) ?_
        refine lv_iload_n hx hb dX5_goesOnBy_21 rfl (lv_at hl 1 rfl) ?_
        refine lv_isub hx hb dX5_goesOnBy_22 ?_
        obtain ⟨hi, v3, ev3, h⟩ := rd_el h
        refine va_iald hx hb X.1 hP 1 0 rfl rfl hi dX5_goesOnBy_23 ?_
        refine lv_top' ev3 ?_
        refine lv_icmp_eq (tgt := 29) hx hb dX5_goesOnBy_24 (by decide) (fun c4 => ?_) (fun c4 => ?_)
        · have h := it_t h c4
          obtain ⟨v5, ev5, h⟩ := lt_el h
          refine lv_iinc (v := v5) (lv' := [(2, .int v5), (0, .ref (q0 0)), (1, .int x1)]) hx hb dX5_goesOnBy_29 hl (k := 2) rfl (by rw [ev5]; rfl) (by decide) rfl (fun ls hl => ?_)
          refine lv_goto (tgt := 2) hx hb dX5_goesOnBy_32 (by decide) ?_
          exact ih v5 _ _ _ h hP hD hS (lv_sub hl [1, 2, 0] rfl)
        · have h := it_f h c4
          refine lv_iconst (v := 0) hx hb dX5_goesOnBy_27 (by decide) ?_
          exact RT 0 _ _ _ _ h (by decide +kernel) hP hD hS dX5_goesOnBy_28
  obtain ⟨H, eH⟩ : ∃ z, z = s.heap := ⟨_, rfl⟩
  rw [← eH]
  have hP : va_P E.1 vwCl (cw_X5 E q0 (q1 0) S0 ++ (cw_X9 E q1 S1)) H := by rw [eH]; exact hP
  have hS : va_S A s.heap H [] := by rw [eH]; exact hS
  clear eH
  obtain ⟨locs, el⟩ : ∃ z : List Loc, z = [] := ⟨_, rfl⟩
  rw [← el] at hS ⊢
  clear el
  refine lv_iload_n hx hb dX5_goesOnBy_0 rfl (lv_at hl 1 rfl) ?_
  refine lv_istore_n (lv' := [(2, .int x1), (0, .ref (q0 0)), (1, .int x1)]) hx hb dX5_goesOnBy_1 rfl hl (by decide) rfl (fun ls hl => ?_)
  exact N2 fu x1 _ _ _ h hP hD hS (lv_sub hl [1, 2, 0] rfl)
theorem dX5_period_0 : decode cX5_period 0 = .ok (.iconst 1, 1) := by decide +kernel
theorem dX5_period_1 : decode cX5_period 1 = .ok (.istore_n 1, 1) := by decide +kernel
theorem dX5_period_2 : decode cX5_period 2 = .ok (.iload_n 1, 1) := by decide +kernel
theorem dX5_period_3 : decode cX5_period 3 = .ok (.aload_n 0, 1) := by decide +kernel
theorem dX5_period_4 : decode cX5_period 4 = .ok (.getfield 22, 3) := by decide +kernel
theorem dX5_period_7 : decode cX5_period 7 = .ok (.if_icmp .ge 19, 3) := by decide +kernel
theorem dX5_period_10 : decode cX5_period 10 = .ok (.aload_n 0, 1) := by decide +kernel
theorem dX5_period_11 : decode cX5_period 11 = .ok (.iload_n 1, 1) := by decide +kernel
theorem dX5_period_12 : decode cX5_period 12 = .ok (.invokevirtual 97, 3) := by decide +kernel
theorem dX5_period_15 : decode cX5_period 15 = .ok (.ifCond .eq 5, 3) := by decide +kernel
theorem dX5_period_18 : decode cX5_period 18 = .ok (.iload_n 1, 1) := by decide +kernel
theorem dX5_period_19 : decode cX5_period 19 = .ok (.ireturn, 1) := by decide +kernel
theorem dX5_period_20 : decode cX5_period 20 = .ok (.iinc 1 1, 3) := by decide +kernel
theorem dX5_period_23 : decode cX5_period 23 = .ok (.goto (-21), 3) := by decide +kernel
theorem dX5_period_26 : decode cX5_period 26 = .ok (.aload_n 0, 1) := by decide +kernel
theorem dX5_period_27 : decode cX5_period 27 = .ok (.getfield 22, 3) := by decide +kernel
theorem dX5_period_30 : decode cX5_period 30 = .ok (.ireturn, 1) := by decide +kernel
def f_X5_period_n2 (S0 : Gr) (S1 : Gr) : Nat → Int32 → Option (Int32)
  | 0, _ => none
  | n + 1, x1 => if (S0.1 2) ≤ x1 then (some (S0.1 2)) else ((f_X5_goesOnBy S0 S1 x1).bind fun u2 => if u2 = 0 then (lt' (x1 + 1) fun v4 => f_X5_period_n2 S0 S1 n v4) else (some x1))
def f_X5_period (S0 : Gr) (S1 : Gr) : Option (Int32) := f_X5_period_n2 S0 S1 fu 1
set_option maxHeartbeats 4000000 in
set_option maxRecDepth 100000 in
theorem c_X5_period (l : Launch) (E : Ec) (q0 q1 : Nat → Nat) (sz : Nat) (S0 : Gr) (S1 : Gr) (Rv : Int32) (h : f_X5_period S0 S1 = some Rv) : Met l yX5_period (wsM (.code yX5_period cX5_period 2 (some .int))) ({ frames := 1, cells := 0, slots := 0, locals := 22 } : Room) (va_Pc [.ref (q0 0)] (ctP E (cw_X5 E q0 (q1 0) S0 ++ (cw_X9 E q1 S1)) sz)) (ctI E (cw_X5 E q0 (q1 0) S0 ++ (cw_X9 E q1 S1)) (cw_X5 E q0 (q1 0) S0 ++ (cw_X9 E q1 S1)) sz Rv) 0 0 (va_A (cw_X5 E q0 (q1 0) S0 ++ (cw_X9 E q1 S1)) sz) := by
  refine ct_metI (by decide) (Nat.le_of_ble_eq_true rfl) ?_
  intro p e s m ar below meth c A QM hx hb hml hown hg X hP hD hS RET ls hl
  have hown : s.vm.findClass RX5 = some m.cls := hown
  have hl : lv_has ls 2 [(0, .ref (q0 0))] := hl
  have RT : ∀ (v : Int32) (H : Heap) (locs : List Loc) (ls : Array Slot) (pc : Nat), some v = some Rv → narrow .int (.int v) = .int v → va_P E.1 vwCl (cw_X5 E q0 (q1 0) S0 ++ (cw_X9 E q1 S1)) H → va_D A (cw_X5 E q0 (q1 0) S0 ++ (cw_X9 E q1 S1)) → va_S A s.heap H locs → decode cX5_period pc = .ok (.ireturn, 1) → W p l e ({ frames := 1, cells := 0, slots := 0, locals := 22 } : Room) s m ar below meth c H locs 0 0 QM (F0 m pc ls [.int v]) := by
    intro v H locs ls pc e hn hP hD hS d
    obtain rfl := sm_e e
    exact RET H locs pc ls hn hP hD hS d
  clear RET
  have N2 : ∀ (n : Nat) (x1 : Int32) (H : Heap) (locs : List Loc) (ls : Array Slot), f_X5_period_n2 S0 S1 n x1 = some Rv → va_P E.1 vwCl (cw_X5 E q0 (q1 0) S0 ++ (cw_X9 E q1 S1)) H → va_D A (cw_X5 E q0 (q1 0) S0 ++ (cw_X9 E q1 S1)) → va_S A s.heap H locs → lv_has ls 2 [(0, .ref (q0 0)), (1, .int x1)] → W p l e ({ frames := 1, cells := 0, slots := 0, locals := 22 } : Room) s m ar below meth c H locs 0 0 QM (F0 m 2 ls []) := by
    intro n
    induction n with
    | zero => intro x1 H locs ls h; exact nn_el h
    | succ n ih =>
      intro x1 H locs ls h hP hD hS hl
      refine lv_iload_n hx hb dX5_period_2 rfl (lv_at hl 1 rfl) ?_
      refine lv_aload_n hx hb dX5_period_3 rfl (lv_at hl 0 rfl) ?_
      refine va_get (D := E.1) (ci := 4) (v := .int (S0.1 2)) (C := RX5) (T := TX5) (N := 3) hx hb hg in_X5 hown X.1 hP 0 rfl rfl 2 (by decide) (hg _ wf_X5_22) (fun _ h9 => h9) rfl dX5_period_4 ?_
      refine lv_icmp_ge (tgt := 26) hx hb dX5_period_7 (by decide) (fun c1 => ?_) (fun c1 => ?_)
      · have h := it_t h c1
        refine lv_aload_n hx hb dX5_period_26 rfl (lv_at hl 0 rfl) ?_
        refine va_get (D := E.1) (ci := 4) (v := .int (S0.1 2)) (C := RX5) (T := TX5) (N := 3) hx hb hg in_X5 hown X.1 hP 0 rfl rfl 2 (by decide) (hg _ wf_X5_22) (fun _ h9 => h9) rfl dX5_period_27 ?_
        exact RT (S0.1 2) _ _ _ _ h rfl hP hD hS dX5_period_30
      · have h := it_f h c1
        refine lv_aload_n hx hb dX5_period_10 rfl (lv_at hl 0 rfl) ?_
        refine lv_iload_n hx hb dX5_period_11 rfl (lv_at hl 1 rfl) ?_
        obtain ⟨u2, hc, h⟩ := bd_el h
        refine ct_iA (w1 := cw_X5 E q0 (q1 0) S0 ++ (cw_X9 E q1 S1)) X hP hD hS (va_runV (C := RX5) (As := [.int x1]) (rest := []) ⟨hx, hb, hml, hown, hg⟩ (c_X5_goesOnBy l E q0 q1 H.size S0 S1 x1 u2 hc) (cwV 1 hg (gwV wm_X5_97 wi_X5_goesOnBy wsl_X5_goesOnBy wini_X5 wco_X5_goesOnBy) rfl rfl rfl (by decide +kernel) ⟨Nat.le_of_ble_eq_true rfl, Nat.le_of_ble_eq_true rfl⟩) ⟨ct_blind, ct_rv X.1 hP 0 rfl rfl, ct_preA X hP hD hS _⟩ rfl rfl hl.1 rfl (lv_room (Nat.le_of_ble_eq_true rfl)) dX5_period_12 ⟨Nat.zero_le _, Nat.zero_le _⟩) (fun H locs hP hD hS => ?_)
        refine lv_if_eq (tgt := 20) hx hb dX5_period_15 (by decide) (fun c3 => ?_) (fun c3 => ?_)
        · have h := it_t h c3
          obtain ⟨v4, ev4, h⟩ := lt_el h
          refine lv_iinc (v := v4) (lv' := [(1, .int v4), (0, .ref (q0 0))]) hx hb dX5_period_20 hl (k := 1) rfl (by rw [ev4]; rfl) (by decide) rfl (fun ls hl => ?_)
          refine lv_goto (tgt := 2) hx hb dX5_period_23 (by decide) ?_
          exact ih v4 _ _ _ h hP hD hS (lv_sub hl [1, 0] rfl)
        · have h := it_f h c3
          refine lv_iload_n hx hb dX5_period_18 rfl (lv_at hl 1 rfl) ?_
          exact RT x1 _ _ _ _ h rfl hP hD hS dX5_period_19
  obtain ⟨H, eH⟩ : ∃ z, z = s.heap := ⟨_, rfl⟩
  rw [← eH]
  have hP : va_P E.1 vwCl (cw_X5 E q0 (q1 0) S0 ++ (cw_X9 E q1 S1)) H := by rw [eH]; exact hP
  have hS : va_S A s.heap H [] := by rw [eH]; exact hS
  clear eH
  obtain ⟨locs, el⟩ : ∃ z : List Loc, z = [] := ⟨_, rfl⟩
  rw [← el] at hS ⊢
  clear el
  refine lv_iconst (v := 1) hx hb dX5_period_0 (by decide) ?_
  refine lv_istore_n (lv' := [(1, .int 1), (0, .ref (q0 0))]) hx hb dX5_period_1 rfl hl (by decide) rfl (fun ls hl => ?_)
  exact N2 fu 1 _ _ _ h hP hD hS (lv_sub hl [1, 0] rfl)
theorem dX5_turns_0 : decode cX5_turns 0 = .ok (.iconst 0, 1) := by decide +kernel
theorem dX5_turns_1 : decode cX5_turns 1 = .ok (.istore_n 1, 1) := by decide +kernel
theorem dX5_turns_2 : decode cX5_turns 2 = .ok (.iconst 1, 1) := by decide +kernel
theorem dX5_turns_3 : decode cX5_turns 3 = .ok (.istore_n 2, 1) := by decide +kernel
theorem dX5_turns_4 : decode cX5_turns 4 = .ok (.iload_n 2, 1) := by decide +kernel
theorem dX5_turns_5 : decode cX5_turns 5 = .ok (.aload_n 0, 1) := by decide +kernel
theorem dX5_turns_6 : decode cX5_turns 6 = .ok (.getfield 22, 3) := by decide +kernel
theorem dX5_turns_9 : decode cX5_turns 9 = .ok (.if_icmp .ge 47, 3) := by decide +kernel
theorem dX5_turns_12 : decode cX5_turns 12 = .ok (.aload_n 0, 1) := by decide +kernel
theorem dX5_turns_13 : decode cX5_turns 13 = .ok (.getfield 18, 3) := by decide +kernel
theorem dX5_turns_16 : decode cX5_turns 16 = .ok (.iload_n 2, 1) := by decide +kernel
theorem dX5_turns_17 : decode cX5_turns 17 = .ok (.iaload, 1) := by decide +kernel
theorem dX5_turns_18 : decode cX5_turns 18 = .ok (.aload_n 0, 1) := by decide +kernel
theorem dX5_turns_19 : decode cX5_turns 19 = .ok (.getfield 18, 3) := by decide +kernel
theorem dX5_turns_22 : decode cX5_turns 22 = .ok (.iload_n 2, 1) := by decide +kernel
theorem dX5_turns_23 : decode cX5_turns 23 = .ok (.iconst 1, 1) := by decide +kernel
theorem dX5_turns_24 : decode cX5_turns 24 = .ok (.isub, 1) := by decide +kernel
theorem dX5_turns_25 : decode cX5_turns 25 = .ok (.iaload, 1) := by decide +kernel
theorem dX5_turns_26 : decode cX5_turns 26 = .ok (.isub, 1) := by decide +kernel
theorem dX5_turns_27 : decode cX5_turns 27 = .ok (.bipush 8, 2) := by decide +kernel
theorem dX5_turns_29 : decode cX5_turns 29 = .ok (.iadd, 1) := by decide +kernel
theorem dX5_turns_30 : decode cX5_turns 30 = .ok (.bipush 8, 2) := by decide +kernel
theorem dX5_turns_32 : decode cX5_turns 32 = .ok (.irem, 1) := by decide +kernel
theorem dX5_turns_33 : decode cX5_turns 33 = .ok (.istore_n 3, 1) := by decide +kernel
theorem dX5_turns_34 : decode cX5_turns 34 = .ok (.iload_n 1, 1) := by decide +kernel
theorem dX5_turns_35 : decode cX5_turns 35 = .ok (.iload_n 3, 1) := by decide +kernel
theorem dX5_turns_36 : decode cX5_turns 36 = .ok (.iconst 4, 1) := by decide +kernel
theorem dX5_turns_37 : decode cX5_turns 37 = .ok (.if_icmp .ge 7, 3) := by decide +kernel
theorem dX5_turns_40 : decode cX5_turns 40 = .ok (.iload_n 3, 1) := by decide +kernel
theorem dX5_turns_41 : decode cX5_turns 41 = .ok (.goto 7, 3) := by decide +kernel
theorem dX5_turns_44 : decode cX5_turns 44 = .ok (.iload_n 3, 1) := by decide +kernel
theorem dX5_turns_45 : decode cX5_turns 45 = .ok (.bipush 8, 2) := by decide +kernel
theorem dX5_turns_47 : decode cX5_turns 47 = .ok (.isub, 1) := by decide +kernel
theorem dX5_turns_48 : decode cX5_turns 48 = .ok (.iadd, 1) := by decide +kernel
theorem dX5_turns_49 : decode cX5_turns 49 = .ok (.istore_n 1, 1) := by decide +kernel
theorem dX5_turns_50 : decode cX5_turns 50 = .ok (.iinc 2 1, 3) := by decide +kernel
theorem dX5_turns_53 : decode cX5_turns 53 = .ok (.goto (-49), 3) := by decide +kernel
theorem dX5_turns_56 : decode cX5_turns 56 = .ok (.iload_n 1, 1) := by decide +kernel
theorem dX5_turns_57 : decode cX5_turns 57 = .ok (.ireturn, 1) := by decide +kernel
def f_X5_turns_n4 (S0 : Gr) (S1 : Gr) : Nat → Int32 → Int32 → Option (Int32)
  | 0, _, _ => none
  | n + 1, x1, x2 => if (S0.1 2) ≤ x2 then (some x1) else (rd' (S0.2 1) 64 x2 fun v2 => rd' (S0.2 1) 64 (x2 - 1) fun v3 => lt' (((v2 - v3) + 8) - ((v2 - v3) + 8) / 8 * 8) fun v4 => if 4 ≤ v4 then (lt' ((x1 + (v4 - 8))) fun v6 => lt' (x2 + 1) fun v7 => f_X5_turns_n4 S0 S1 n v6 v7) else (lt' ((x1 + v4)) fun v8 => lt' (x2 + 1) fun v9 => f_X5_turns_n4 S0 S1 n v8 v9))
def f_X5_turns (S0 : Gr) (S1 : Gr) : Option (Int32) := f_X5_turns_n4 S0 S1 fu 0 1
set_option maxHeartbeats 4000000 in
set_option maxRecDepth 100000 in
theorem c_X5_turns (l : Launch) (E : Ec) (q0 q1 : Nat → Nat) (sz : Nat) (S0 : Gr) (S1 : Gr) (Rv : Int32) (h : f_X5_turns S0 S1 = some Rv) : Met l yX5_turns (wsM (.code yX5_turns cX5_turns 4 (some .int))) ({ frames := 0, cells := 0, slots := 0, locals := 0 } : Room) (va_Pc [.ref (q0 0)] (ctP E (cw_X5 E q0 (q1 0) S0 ++ (cw_X9 E q1 S1)) sz)) (ctI E (cw_X5 E q0 (q1 0) S0 ++ (cw_X9 E q1 S1)) (cw_X5 E q0 (q1 0) S0 ++ (cw_X9 E q1 S1)) sz Rv) 0 0 (va_A (cw_X5 E q0 (q1 0) S0 ++ (cw_X9 E q1 S1)) sz) := by
  refine ct_metI (by decide) (Nat.le_of_ble_eq_true rfl) ?_
  intro p e s m ar below meth c A QM hx hb hml hown hg X hP hD hS RET ls hl
  have hown : s.vm.findClass RX5 = some m.cls := hown
  have hl : lv_has ls 4 [(0, .ref (q0 0))] := hl
  have RT : ∀ (v : Int32) (H : Heap) (locs : List Loc) (ls : Array Slot) (pc : Nat), some v = some Rv → narrow .int (.int v) = .int v → va_P E.1 vwCl (cw_X5 E q0 (q1 0) S0 ++ (cw_X9 E q1 S1)) H → va_D A (cw_X5 E q0 (q1 0) S0 ++ (cw_X9 E q1 S1)) → va_S A s.heap H locs → decode cX5_turns pc = .ok (.ireturn, 1) → W p l e ({ frames := 0, cells := 0, slots := 0, locals := 0 } : Room) s m ar below meth c H locs 0 0 QM (F0 m pc ls [.int v]) := by
    intro v H locs ls pc e hn hP hD hS d
    obtain rfl := sm_e e
    exact RET H locs pc ls hn hP hD hS d
  clear RET
  have N4 : ∀ (n : Nat) (x1 : Int32) (x2 : Int32) (H : Heap) (locs : List Loc) (ls : Array Slot), f_X5_turns_n4 S0 S1 n x1 x2 = some Rv → va_P E.1 vwCl (cw_X5 E q0 (q1 0) S0 ++ (cw_X9 E q1 S1)) H → va_D A (cw_X5 E q0 (q1 0) S0 ++ (cw_X9 E q1 S1)) → va_S A s.heap H locs → lv_has ls 4 [(0, .ref (q0 0)), (1, .int x1), (2, .int x2)] → W p l e ({ frames := 0, cells := 0, slots := 0, locals := 0 } : Room) s m ar below meth c H locs 0 0 QM (F0 m 4 ls []) := by
    intro n
    induction n with
    | zero => intro x1 x2 H locs ls h; exact nn_el h
    | succ n ih =>
      intro x1 x2 H locs ls h hP hD hS hl
      refine lv_iload_n hx hb dX5_turns_4 rfl (lv_at hl 2 rfl) ?_
      refine lv_aload_n hx hb dX5_turns_5 rfl (lv_at hl 0 rfl) ?_
      refine va_get (D := E.1) (ci := 4) (v := .int (S0.1 2)) (C := RX5) (T := TX5) (N := 3) hx hb hg in_X5 hown X.1 hP 0 rfl rfl 2 (by decide) (hg _ wf_X5_22) (fun _ h9 => h9) rfl dX5_turns_6 ?_
      refine lv_icmp_ge (tgt := 56) hx hb dX5_turns_9 (by decide) (fun c1 => ?_) (fun c1 => ?_)
      · have h := it_t h c1
        refine lv_iload_n hx hb dX5_turns_56 rfl (lv_at hl 1 rfl) ?_
        exact RT x1 _ _ _ _ h rfl hP hD hS dX5_turns_57
      · have h := it_f h c1
        refine lv_aload_n hx hb dX5_turns_12 rfl (lv_at hl 0 rfl) ?_
        refine va_get (D := E.1) (ci := 4) (v := .ref (q0 1)) (C := RX5) (T := TX5) (N := 3) hx hb hg in_X5 hown X.1 hP 0 rfl rfl 1 (by decide) (hg _ wf_X5_18) (fun _ h9 => h9) rfl dX5_turns_13 ?_
        refine lv_iload_n hx hb dX5_turns_16 rfl (lv_at hl 2 rfl) ?_
        obtain ⟨hi, v2, ev2, h⟩ := rd_el h
        refine va_iald hx hb X.1 hP 1 0 rfl rfl hi dX5_turns_17 ?_
        refine lv_top' ev2 ?_
        refine lv_aload_n hx hb dX5_turns_18 rfl (lv_at hl 0 rfl) ?_
        refine va_get (D := E.1) (ci := 4) (v := .ref (q0 1)) (C := RX5) (T := TX5) (N := 3) hx hb hg in_X5 hown X.1 hP 0 rfl rfl 1 (by decide) (hg _ wf_X5_18) (fun _ h9 => h9) rfl dX5_turns_19 ?_
        refine lv_iload_n hx hb dX5_turns_22 rfl (lv_at hl 2 rfl) ?_
        refine lv_iconst (v := 1) hx hb dX5_turns_23 (by decide) ?_
        refine lv_isub hx hb dX5_turns_24 ?_
        obtain ⟨hi, v3, ev3, h⟩ := rd_el h
        refine va_iald hx hb X.1 hP 1 0 rfl rfl hi dX5_turns_25 ?_
        refine lv_top' ev3 ?_
        refine lv_isub hx hb dX5_turns_26 ?_
        refine lv_bipush (v := 8) hx hb dX5_turns_27 (by decide) ?_
        refine lv_iadd hx hb dX5_turns_29 ?_
        refine lv_bipush (v := 8) hx hb dX5_turns_30 (by decide) ?_
        refine lv_irem hx hb dX5_turns_32 (by decide) ?_
        obtain ⟨v4, ev4, h⟩ := lt_el h
        refine lv_top' ev4 ?_
        refine lv_istore_n (lv' := [(3, .int v4), (0, .ref (q0 0)), (1, .int x1), (2, .int x2)]) hx hb dX5_turns_33 rfl hl (by decide) rfl (fun ls hl => ?_)
        refine lv_iload_n hx hb dX5_turns_34 rfl (lv_at hl 2 rfl) ?_
        refine lv_iload_n hx hb dX5_turns_35 rfl (lv_at hl 0 rfl) ?_
        refine lv_iconst (v := 4) hx hb dX5_turns_36 (by decide) ?_
        refine lv_icmp_ge (tgt := 44) hx hb dX5_turns_37 (by decide) (fun c5 => ?_) (fun c5 => ?_)
        · have h := it_t h c5
          refine lv_iload_n hx hb dX5_turns_44 rfl (lv_at hl 0 rfl) ?_
          refine lv_bipush (v := 8) hx hb dX5_turns_45 (by decide) ?_
          refine lv_isub hx hb dX5_turns_47 ?_
          refine lv_iadd hx hb dX5_turns_48 ?_
          obtain ⟨v6, ev6, h⟩ := lt_el h
          refine lv_top' ev6 ?_
          refine lv_istore_n (lv' := [(1, .int v6), (3, .int v4), (0, .ref (q0 0)), (2, .int x2)]) hx hb dX5_turns_49 rfl hl (by decide) rfl (fun ls hl => ?_)
          obtain ⟨v7, ev7, h⟩ := lt_el h
          refine lv_iinc (v := v7) (lv' := [(2, .int v7), (1, .int v6), (3, .int v4), (0, .ref (q0 0))]) hx hb dX5_turns_50 hl (k := 3) rfl (by rw [ev7]; rfl) (by decide) rfl (fun ls hl => ?_)
          refine lv_goto (tgt := 4) hx hb dX5_turns_53 (by decide) ?_
          exact ih v6 v7 _ _ _ h hP hD hS (lv_sub hl [3, 1, 0] rfl)
        · have h := it_f h c5
          refine lv_iload_n hx hb dX5_turns_40 rfl (lv_at hl 0 rfl) ?_
          refine lv_goto (tgt := 48) hx hb dX5_turns_41 (by decide) ?_
          refine lv_iadd hx hb dX5_turns_48 ?_
          obtain ⟨v8, ev8, h⟩ := lt_el h
          refine lv_top' ev8 ?_
          refine lv_istore_n (lv' := [(1, .int v8), (3, .int v4), (0, .ref (q0 0)), (2, .int x2)]) hx hb dX5_turns_49 rfl hl (by decide) rfl (fun ls hl => ?_)
          obtain ⟨v9, ev9, h⟩ := lt_el h
          refine lv_iinc (v := v9) (lv' := [(2, .int v9), (1, .int v8), (3, .int v4), (0, .ref (q0 0))]) hx hb dX5_turns_50 hl (k := 3) rfl (by rw [ev9]; rfl) (by decide) rfl (fun ls hl => ?_)
          refine lv_goto (tgt := 4) hx hb dX5_turns_53 (by decide) ?_
          exact ih v8 v9 _ _ _ h hP hD hS (lv_sub hl [3, 1, 0] rfl)
  obtain ⟨H, eH⟩ : ∃ z, z = s.heap := ⟨_, rfl⟩
  rw [← eH]
  have hP : va_P E.1 vwCl (cw_X5 E q0 (q1 0) S0 ++ (cw_X9 E q1 S1)) H := by rw [eH]; exact hP
  have hS : va_S A s.heap H [] := by rw [eH]; exact hS
  clear eH
  obtain ⟨locs, el⟩ : ∃ z : List Loc, z = [] := ⟨_, rfl⟩
  rw [← el] at hS ⊢
  clear el
  refine lv_iconst (v := 0) hx hb dX5_turns_0 (by decide) ?_
  refine lv_istore_n (lv' := [(1, .int 0), (0, .ref (q0 0))]) hx hb dX5_turns_1 rfl hl (by decide) rfl (fun ls hl => ?_)
  refine lv_iconst (v := 1) hx hb dX5_turns_2 (by decide) ?_
  refine lv_istore_n (lv' := [(2, .int 1), (1, .int 0), (0, .ref (q0 0))]) hx hb dX5_turns_3 rfl hl (by decide) rfl (fun ls hl => ?_)
  exact N4 fu 0 1 _ _ _ h hP hD hS (lv_sub hl [2, 1, 0] rfl)
theorem dX5_answer_0 : decode cX5_answer 0 = .ok (.iload_n 1, 1) := by decide +kernel
theorem dX5_answer_1 : decode cX5_answer 1 = .ok (.tableswitch 60 100 104 #[35, 40, 45, 50, 55], 35) := by decide +kernel
theorem dX5_answer_36 : decode cX5_answer 36 = .ok (.aload_n 0, 1) := by decide +kernel
theorem dX5_answer_37 : decode cX5_answer 37 = .ok (.getfield 22, 3) := by decide +kernel
theorem dX5_answer_40 : decode cX5_answer 40 = .ok (.ireturn, 1) := by decide +kernel
theorem dX5_answer_41 : decode cX5_answer 41 = .ok (.aload_n 0, 1) := by decide +kernel
theorem dX5_answer_42 : decode cX5_answer 42 = .ok (.invokevirtual 75, 3) := by decide +kernel
theorem dX5_answer_45 : decode cX5_answer 45 = .ok (.ireturn, 1) := by decide +kernel
theorem dX5_answer_46 : decode cX5_answer 46 = .ok (.aload_n 0, 1) := by decide +kernel
theorem dX5_answer_47 : decode cX5_answer 47 = .ok (.invokevirtual 78, 3) := by decide +kernel
theorem dX5_answer_50 : decode cX5_answer 50 = .ok (.ireturn, 1) := by decide +kernel
theorem dX5_answer_51 : decode cX5_answer 51 = .ok (.aload_n 0, 1) := by decide +kernel
theorem dX5_answer_52 : decode cX5_answer 52 = .ok (.invokevirtual 81, 3) := by decide +kernel
theorem dX5_answer_55 : decode cX5_answer 55 = .ok (.ireturn, 1) := by decide +kernel
theorem dX5_answer_56 : decode cX5_answer 56 = .ok (.aload_n 0, 1) := by decide +kernel
theorem dX5_answer_57 : decode cX5_answer 57 = .ok (.invokevirtual 84, 3) := by decide +kernel
theorem dX5_answer_60 : decode cX5_answer 60 = .ok (.ireturn, 1) := by decide +kernel
theorem dX5_answer_61 : decode cX5_answer 61 = .ok (.aload_n 0, 1) := by decide +kernel
theorem dX5_answer_62 : decode cX5_answer 62 = .ok (.iload_n 1, 1) := by decide +kernel
theorem dX5_answer_63 : decode cX5_answer 63 = .ok (.invokevirtual 87, 3) := by decide +kernel
theorem dX5_answer_66 : decode cX5_answer 66 = .ok (.ireturn, 1) := by decide +kernel
def f_X5_answer (S0 : Gr) (S1 : Gr) (x1 : Int32) : Option (Int32) := if x1 = 100 then (some (S0.1 2)) else if x1 = 101 then ((f_X5_commonest S0 S1).bind fun u3 => some u3) else if x1 = 102 then ((f_X5_longestRow S0 S1).bind fun u5 => some u5) else if x1 = 103 then ((f_X5_turns S0 S1).bind fun u7 => some u7) else if x1 = 104 then ((f_X5_period S0 S1).bind fun u9 => some u9) else ((f_X5_timesOf S0 S1 x1).bind fun u10 => some u10)
set_option maxHeartbeats 4000000 in
set_option maxRecDepth 100000 in
theorem c_X5_answer (l : Launch) (E : Ec) (q0 q1 : Nat → Nat) (sz : Nat) (S0 : Gr) (S1 : Gr) (x1 : Int32) (Rv : Int32) (h : f_X5_answer S0 S1 x1 = some Rv) : Met l yX5_answer (wsM (.code yX5_answer cX5_answer 2 (some .int))) ({ frames := 2, cells := 0, slots := 0, locals := 53 } : Room) (va_Pc [.ref (q0 0), .int x1] (ctP E (cw_X5 E q0 (q1 0) S0 ++ (cw_X9 E q1 S1)) sz)) (ctI E (cw_X5 E q0 (q1 0) S0 ++ (cw_X9 E q1 S1)) (cw_X5 E q0 (q1 0) S0 ++ (cw_X9 E q1 S1)) sz Rv) 0 0 (va_A (cw_X5 E q0 (q1 0) S0 ++ (cw_X9 E q1 S1)) sz) := by
  refine ct_metI (by decide) (Nat.le_of_ble_eq_true rfl) ?_
  intro p e s m ar below meth c A QM hx hb hml hown hg X hP hD hS RET ls hl
  have hown : s.vm.findClass RX5 = some m.cls := hown
  have hl : lv_has ls 2 [(0, .ref (q0 0)), (1, .int x1)] := hl
  have RT : ∀ (v : Int32) (H : Heap) (locs : List Loc) (ls : Array Slot) (pc : Nat), some v = some Rv → narrow .int (.int v) = .int v → va_P E.1 vwCl (cw_X5 E q0 (q1 0) S0 ++ (cw_X9 E q1 S1)) H → va_D A (cw_X5 E q0 (q1 0) S0 ++ (cw_X9 E q1 S1)) → va_S A s.heap H locs → decode cX5_answer pc = .ok (.ireturn, 1) → W p l e ({ frames := 2, cells := 0, slots := 0, locals := 53 } : Room) s m ar below meth c H locs 0 0 QM (F0 m pc ls [.int v]) := by
    intro v H locs ls pc e hn hP hD hS d
    obtain rfl := sm_e e
    exact RET H locs pc ls hn hP hD hS d
  clear RET
  obtain ⟨H, eH⟩ : ∃ z, z = s.heap := ⟨_, rfl⟩
  rw [← eH]
  have hP : va_P E.1 vwCl (cw_X5 E q0 (q1 0) S0 ++ (cw_X9 E q1 S1)) H := by rw [eH]; exact hP
  have hS : va_S A s.heap H [] := by rw [eH]; exact hS
  clear eH
  obtain ⟨locs, el⟩ : ∃ z : List Loc, z = [] := ⟨_, rfl⟩
  rw [← el] at hS ⊢
  clear el
  refine lv_iload_n hx hb dX5_answer_0 rfl (lv_at hl 1 rfl) ?_
  by_cases c1 : x1 = 100
  · have h := it_t h c1
    refine lv_tableIn (tgt := 36) hx hb dX5_answer_1 (by rw [c1]; decide) (by rw [c1]; decide) (by rw [c1] <;> rfl) (by decide) ?_
    refine lv_aload_n hx hb dX5_answer_36 rfl (lv_at hl 0 rfl) ?_
    refine va_get (D := E.1) (ci := 4) (v := .int (S0.1 2)) (C := RX5) (T := TX5) (N := 3) hx hb hg in_X5 hown X.1 hP 0 rfl rfl 2 (by decide) (hg _ wf_X5_22) (fun _ h9 => h9) rfl dX5_answer_37 ?_
    exact RT (S0.1 2) _ _ _ _ h rfl hP hD hS dX5_answer_40
  · have h := it_f h c1
    by_cases c2 : x1 = 101
    · have h := it_t h c2
      refine lv_tableIn (tgt := 41) hx hb dX5_answer_1 (by rw [c2]; decide) (by rw [c2]; decide) (by rw [c2] <;> rfl) (by decide) ?_
      refine lv_aload_n hx hb dX5_answer_41 rfl (lv_at hl 0 rfl) ?_
      obtain ⟨u3, hc, h⟩ := bd_el h
      refine ct_iA (w1 := cw_X5 E q0 (q1 0) S0 ++ (cw_X9 E q1 S1)) X hP hD hS (va_runV (C := RX5) (As := []) (rest := []) ⟨hx, hb, hml, hown, hg⟩ (c_X5_commonest l E q0 q1 H.size S0 S1 u3 hc) (cwV 0 hg (gwV wm_X5_75 wi_X5_commonest wsl_X5_commonest wini_X5 wco_X5_commonest) rfl rfl rfl (by decide +kernel) ⟨Nat.le_of_ble_eq_true rfl, Nat.le_of_ble_eq_true rfl⟩) ⟨ct_blind, ct_rv X.1 hP 0 rfl rfl, ct_preA X hP hD hS _⟩ rfl rfl hl.1 rfl (lv_room (Nat.le_of_ble_eq_true rfl)) dX5_answer_42 ⟨Nat.zero_le _, Nat.zero_le _⟩) (fun H locs hP hD hS => ?_)
      exact RT u3 _ _ _ _ h rfl hP hD hS dX5_answer_45
    · have h := it_f h c2
      by_cases c4 : x1 = 102
      · have h := it_t h c4
        refine lv_tableIn (tgt := 46) hx hb dX5_answer_1 (by rw [c4]; decide) (by rw [c4]; decide) (by rw [c4] <;> rfl) (by decide) ?_
        refine lv_aload_n hx hb dX5_answer_46 rfl (lv_at hl 0 rfl) ?_
        obtain ⟨u5, hc, h⟩ := bd_el h
        refine ct_iA (w1 := cw_X5 E q0 (q1 0) S0 ++ (cw_X9 E q1 S1)) X hP hD hS (va_runV (C := RX5) (As := []) (rest := []) ⟨hx, hb, hml, hown, hg⟩ (c_X5_longestRow l E q0 q1 H.size S0 S1 u5 hc) (cwV 0 hg (gwV wm_X5_78 wi_X5_longestRow wsl_X5_longestRow wini_X5 wco_X5_longestRow) rfl rfl rfl (by decide +kernel) ⟨Nat.le_of_ble_eq_true rfl, Nat.le_of_ble_eq_true rfl⟩) ⟨ct_blind, ct_rv X.1 hP 0 rfl rfl, ct_preA X hP hD hS _⟩ rfl rfl hl.1 rfl (lv_room (Nat.le_of_ble_eq_true rfl)) dX5_answer_47 ⟨Nat.zero_le _, Nat.zero_le _⟩) (fun H locs hP hD hS => ?_)
        exact RT u5 _ _ _ _ h rfl hP hD hS dX5_answer_50
      · have h := it_f h c4
        by_cases c6 : x1 = 103
        · have h := it_t h c6
          refine lv_tableIn (tgt := 51) hx hb dX5_answer_1 (by rw [c6]; decide) (by rw [c6]; decide) (by rw [c6] <;> rfl) (by decide) ?_
          refine lv_aload_n hx hb dX5_answer_51 rfl (lv_at hl 0 rfl) ?_
          obtain ⟨u7, hc, h⟩ := bd_el h
          refine ct_iA (w1 := cw_X5 E q0 (q1 0) S0 ++ (cw_X9 E q1 S1)) X hP hD hS (va_runV (C := RX5) (As := []) (rest := []) ⟨hx, hb, hml, hown, hg⟩ (c_X5_turns l E q0 q1 H.size S0 S1 u7 hc) (cwV 0 hg (gwV wm_X5_81 wi_X5_turns wsl_X5_turns wini_X5 wco_X5_turns) rfl rfl rfl (by decide +kernel) ⟨Nat.le_of_ble_eq_true rfl, Nat.le_of_ble_eq_true rfl⟩) ⟨ct_blind, ct_rv X.1 hP 0 rfl rfl, ct_preA X hP hD hS _⟩ rfl rfl hl.1 rfl (lv_room (Nat.le_of_ble_eq_true rfl)) dX5_answer_52 ⟨Nat.zero_le _, Nat.zero_le _⟩) (fun H locs hP hD hS => ?_)
          exact RT u7 _ _ _ _ h rfl hP hD hS dX5_answer_55
        · have h := it_f h c6
          by_cases c8 : x1 = 104
          · have h := it_t h c8
            refine lv_tableIn (tgt := 56) hx hb dX5_answer_1 (by rw [c8]; decide) (by rw [c8]; decide) (by rw [c8] <;> rfl) (by decide) ?_
            refine lv_aload_n hx hb dX5_answer_56 rfl (lv_at hl 0 rfl) ?_
            obtain ⟨u9, hc, h⟩ := bd_el h
            refine ct_iA (w1 := cw_X5 E q0 (q1 0) S0 ++ (cw_X9 E q1 S1)) X hP hD hS (va_runV (C := RX5) (As := []) (rest := []) ⟨hx, hb, hml, hown, hg⟩ (c_X5_period l E q0 q1 H.size S0 S1 u9 hc) (cwV 0 hg (gwV wm_X5_84 wi_X5_period wsl_X5_period wini_X5 wco_X5_period) rfl rfl rfl (by decide +kernel) ⟨Nat.le_of_ble_eq_true rfl, Nat.le_of_ble_eq_true rfl⟩) ⟨ct_blind, ct_rv X.1 hP 0 rfl rfl, ct_preA X hP hD hS _⟩ rfl rfl hl.1 rfl (lv_room (Nat.le_of_ble_eq_true rfl)) dX5_answer_57 ⟨Nat.zero_le _, Nat.zero_le _⟩) (fun H locs hP hD hS => ?_)
            exact RT u9 _ _ _ _ h rfl hP hD hS dX5_answer_60
          · have h := it_f h c8
            have ho : (x1).toInt < 100 ∨ 104 < (x1).toInt := by
              by_cases h1 : (x1).toInt < 100
              · exact Or.inl h1
              by_cases h2 : 104 < (x1).toInt
              · exact Or.inr h2
              have h3 : (x1).toInt = 100 ∨ (x1).toInt = 101 ∨ (x1).toInt = 102 ∨ (x1).toInt = 103 ∨ (x1).toInt = 104 := by omega
              rcases h3 with h3 | h3 | h3 | h3 | h3
              · exact absurd (Int32.toInt_inj.mp (h3.trans (by decide))) c1
              · exact absurd (Int32.toInt_inj.mp (h3.trans (by decide))) c2
              · exact absurd (Int32.toInt_inj.mp (h3.trans (by decide))) c4
              · exact absurd (Int32.toInt_inj.mp (h3.trans (by decide))) c6
              · exact absurd (Int32.toInt_inj.mp (h3.trans (by decide))) c8
            refine lv_tableOut (tgt := 61) hx hb dX5_answer_1 ho (by decide) ?_
            refine lv_aload_n hx hb dX5_answer_61 rfl (lv_at hl 0 rfl) ?_
            refine lv_iload_n hx hb dX5_answer_62 rfl (lv_at hl 1 rfl) ?_
            obtain ⟨u10, hc, h⟩ := bd_el h
            refine ct_iA (w1 := cw_X5 E q0 (q1 0) S0 ++ (cw_X9 E q1 S1)) X hP hD hS (va_runV (C := RX5) (As := [.int x1]) (rest := []) ⟨hx, hb, hml, hown, hg⟩ (c_X5_timesOf l E q0 q1 H.size S0 S1 x1 u10 hc) (cwV 1 hg (gwV wm_X5_87 wi_X5_timesOf wsl_X5_timesOf wini_X5 wco_X5_timesOf) rfl rfl rfl (by decide +kernel) ⟨Nat.le_of_ble_eq_true rfl, Nat.le_of_ble_eq_true rfl⟩) ⟨ct_blind, ct_rv X.1 hP 0 rfl rfl, ct_preA X hP hD hS _⟩ rfl rfl hl.1 rfl (lv_room (Nat.le_of_ble_eq_true rfl)) dX5_answer_63 ⟨Nat.zero_le _, Nat.zero_le _⟩) (fun H locs hP hD hS => ?_)
            exact RT u10 _ _ _ _ h rfl hP hD hS dX5_answer_66
theorem dX5_repeat_0 : decode cX5_repeat 0 = .ok (.iconst 0, 1) := by decide +kernel
theorem dX5_repeat_1 : decode cX5_repeat 1 = .ok (.istore_n 3, 1) := by decide +kernel
theorem dX5_repeat_2 : decode cX5_repeat 2 = .ok (.iload_n 3, 1) := by decide +kernel
theorem dX5_repeat_3 : decode cX5_repeat 3 = .ok (.iload_n 2, 1) := by decide +kernel
theorem dX5_repeat_4 : decode cX5_repeat 4 = .ok (.if_icmp .ge 52, 3) := by decide +kernel
theorem dX5_repeat_7 : decode cX5_repeat 7 = .ok (.aload_n 0, 1) := by decide +kernel
theorem dX5_repeat_8 : decode cX5_repeat 8 = .ok (.getfield 22, 3) := by decide +kernel
theorem dX5_repeat_11 : decode cX5_repeat 11 = .ok (.iload_n 1, 1) := by decide +kernel
theorem dX5_repeat_12 : decode cX5_repeat 12 = .ok (.bipush 63, 2) := by decide +kernel
theorem dX5_repeat_14 : decode cX5_repeat 14 = .ok (.invokestatic 71, 3) := by decide +kernel
theorem dX5_repeat_17 : decode cX5_repeat 17 = .ok (.ifCond .eq 39, 3) := by decide +kernel
theorem dX5_repeat_20 : decode cX5_repeat 20 = .ok (.aload_n 0, 1) := by decide +kernel
theorem dX5_repeat_21 : decode cX5_repeat 21 = .ok (.getfield 18, 3) := by decide +kernel
theorem dX5_repeat_24 : decode cX5_repeat 24 = .ok (.aload_n 0, 1) := by decide +kernel
theorem dX5_repeat_25 : decode cX5_repeat 25 = .ok (.getfield 22, 3) := by decide +kernel
theorem dX5_repeat_28 : decode cX5_repeat 28 = .ok (.aload_n 0, 1) := by decide +kernel
theorem dX5_repeat_29 : decode cX5_repeat 29 = .ok (.getfield 18, 3) := by decide +kernel
theorem dX5_repeat_32 : decode cX5_repeat 32 = .ok (.aload_n 0, 1) := by decide +kernel
theorem dX5_repeat_33 : decode cX5_repeat 33 = .ok (.getfield 22, 3) := by decide +kernel
theorem dX5_repeat_36 : decode cX5_repeat 36 = .ok (.iload_n 1, 1) := by decide +kernel
theorem dX5_repeat_37 : decode cX5_repeat 37 = .ok (.isub, 1) := by decide +kernel
theorem dX5_repeat_38 : decode cX5_repeat 38 = .ok (.iaload, 1) := by decide +kernel
theorem dX5_repeat_39 : decode cX5_repeat 39 = .ok (.iastore, 1) := by decide +kernel
theorem dX5_repeat_40 : decode cX5_repeat 40 = .ok (.aload_n 0, 1) := by decide +kernel
theorem dX5_repeat_41 : decode cX5_repeat 41 = .ok (.dup, 1) := by decide +kernel
theorem dX5_repeat_42 : decode cX5_repeat 42 = .ok (.getfield 22, 3) := by decide +kernel
theorem dX5_repeat_45 : decode cX5_repeat 45 = .ok (.iconst 1, 1) := by decide +kernel
theorem dX5_repeat_46 : decode cX5_repeat 46 = .ok (.iadd, 1) := by decide +kernel
theorem dX5_repeat_47 : decode cX5_repeat 47 = .ok (.putfield 22, 3) := by decide +kernel
theorem dX5_repeat_50 : decode cX5_repeat 50 = .ok (.iinc 3 1, 3) := by decide +kernel
theorem dX5_repeat_53 : decode cX5_repeat 53 = .ok (.goto (-51), 3) := by decide +kernel
theorem dX5_repeat_56 : decode cX5_repeat 56 = .ok (.return_, 1) := by decide +kernel
def f_X5_repeat_n2 (S1 : Gr) (x1 : Int32) (x2 : Int32) : Nat → Gr → Int32 → Option (Gr)
  | 0, _, _ => none
  | n + 1, S0, x3 => if x2 ≤ x3 then (some S0) else ((f_X11_within (S0.1 2) x1 63).bind fun u2 => if u2 = 0 then (some S0) else (rd' (S0.2 1) 64 ((S0.1 2) - x1) fun v4 => ck' 64 (S0.1 2) (lt' (sA S0 1 (Int32.toNatClampNeg (S0.1 2)) v4) fun S0_5 => lt' (sI S0_5 2 ((S0_5.1 2) + 1)) fun S0_6 => lt' (x3 + 1) fun v7 => f_X5_repeat_n2 S1 x1 x2 n S0_6 v7)))
def f_X5_repeat (S0 : Gr) (S1 : Gr) (x1 : Int32) (x2 : Int32) : Option (Gr) := f_X5_repeat_n2 S1 x1 x2 fu S0 0
set_option maxHeartbeats 4000000 in
set_option maxRecDepth 100000 in
theorem c_X5_repeat (l : Launch) (E : Ec) (q0 q1 : Nat → Nat) (sz : Nat) (S0 : Gr) (S1 : Gr) (x1 : Int32) (x2 : Int32) (Rv : Gr) (h : f_X5_repeat S0 S1 x1 x2 = some Rv) : Met l yX5_repeat (wsM (.code yX5_repeat cX5_repeat 4 none)) ({ frames := 1, cells := 0, slots := 0, locals := 22 } : Room) (va_Pc [.ref (q0 0), .int x1, .int x2] (ctP E (cw_X5 E q0 (q1 0) S0 ++ (cw_X9 E q1 S1)) sz)) (ctV E (cw_X5 E q0 (q1 0) S0 ++ (cw_X9 E q1 S1)) (cw_X5 E q0 (q1 0) Rv ++ (cw_X9 E q1 S1)) sz) 0 0 (va_A (cw_X5 E q0 (q1 0) S0 ++ (cw_X9 E q1 S1)) sz) := by
  refine ct_metV (by decide) (Nat.le_of_ble_eq_true rfl) ?_
  intro p e s m ar below meth c A QM hx hb hml hown hg X hP hD hS RET ls hl
  have hown : s.vm.findClass RX5 = some m.cls := hown
  have hl : lv_has ls 4 [(0, .ref (q0 0)), (1, .int x1), (2, .int x2)] := hl
  have RT : ∀ (S0 : Gr) (H : Heap) (locs : List Loc) (ls : Array Slot) (pc : Nat), some S0 = some Rv → va_P E.1 vwCl (cw_X5 E q0 (q1 0) S0 ++ (cw_X9 E q1 S1)) H → va_D A (cw_X5 E q0 (q1 0) S0 ++ (cw_X9 E q1 S1)) → va_S A s.heap H locs → decode cX5_repeat pc = .ok (.return_, 1) → W p l e ({ frames := 1, cells := 0, slots := 0, locals := 22 } : Room) s m ar below meth c H locs 0 0 QM (F0 m pc ls []) := by
    intro S0 H locs ls pc e hP hD hS d
    obtain rfl := sm_e e
    exact RET H locs pc ls hP hD hS d
  clear RET
  have N2 : ∀ (n : Nat) (S0 : Gr) (x3 : Int32) (H : Heap) (locs : List Loc) (ls : Array Slot), f_X5_repeat_n2 S1 x1 x2 n S0 x3 = some Rv → va_P E.1 vwCl (cw_X5 E q0 (q1 0) S0 ++ (cw_X9 E q1 S1)) H → va_D A (cw_X5 E q0 (q1 0) S0 ++ (cw_X9 E q1 S1)) → va_S A s.heap H locs → lv_has ls 4 [(0, .ref (q0 0)), (1, .int x1), (2, .int x2), (3, .int x3)] → W p l e ({ frames := 1, cells := 0, slots := 0, locals := 22 } : Room) s m ar below meth c H locs 0 0 QM (F0 m 2 ls []) := by
    intro n
    induction n with
    | zero => intro S0 x3 H locs ls h; exact nn_el h
    | succ n ih =>
      intro S0 x3 H locs ls h hP hD hS hl
      refine lv_iload_n hx hb dX5_repeat_2 rfl (lv_at hl 3 rfl) ?_
      refine lv_iload_n hx hb dX5_repeat_3 rfl (lv_at hl 2 rfl) ?_
      refine lv_icmp_ge (tgt := 56) hx hb dX5_repeat_4 (by decide) (fun c1 => ?_) (fun c1 => ?_)
      · have h := it_t h c1
        exact RT S0 _ _ _ _ h hP hD hS dX5_repeat_56
      · have h := it_f h c1
        refine lv_aload_n hx hb dX5_repeat_7 rfl (lv_at hl 0 rfl) ?_
        refine va_get (D := E.1) (ci := 4) (v := .int (S0.1 2)) (C := RX5) (T := TX5) (N := 3) hx hb hg in_X5 hown X.1 hP 0 rfl rfl 2 (by decide) (hg _ wf_X5_22) (fun _ h9 => h9) rfl dX5_repeat_8 ?_
        refine lv_iload_n hx hb dX5_repeat_11 rfl (lv_at hl 1 rfl) ?_
        refine lv_bipush (v := 63) hx hb dX5_repeat_12 (by decide) ?_
        obtain ⟨u2, hc, h⟩ := bd_el h
        refine ct_iN X hP hD hS (va_runSN (As := [.int (S0.1 2), .int x1, .int 63]) (rest := []) ⟨hx, hb, hml, hown, hg⟩ (c_X11_within l E  H.size (S0.1 2) x1 63 u2 hc) ⟨va_cnB 3 hg (gw wco_X11_within) rfl rfl rfl (nm_X5_71 X.2.1) (hg _ wini_X11) (by decide +kernel) ⟨Nat.le_of_ble_eq_true rfl, Nat.le_of_ble_eq_true rfl⟩, hg _ wst_X11_within, trivial⟩ ⟨ct_blind, ct_preN X hS _⟩ rfl rfl hl.1 rfl (lv_room (Nat.le_of_ble_eq_true rfl)) dX5_repeat_14 ⟨Nat.zero_le _, Nat.zero_le _⟩) (fun H locs hP hD hS => ?_)
        refine lv_if_eq (tgt := 56) hx hb dX5_repeat_17 (by decide) (fun c3 => ?_) (fun c3 => ?_)
        · have h := it_t h c3
          exact RT S0 _ _ _ _ h hP hD hS dX5_repeat_56
        · have h := it_f h c3
          refine lv_aload_n hx hb dX5_repeat_20 rfl (lv_at hl 0 rfl) ?_
          refine va_get (D := E.1) (ci := 4) (v := .ref (q0 1)) (C := RX5) (T := TX5) (N := 3) hx hb hg in_X5 hown X.1 hP 0 rfl rfl 1 (by decide) (hg _ wf_X5_18) (fun _ h9 => h9) rfl dX5_repeat_21 ?_
          refine lv_aload_n hx hb dX5_repeat_24 rfl (lv_at hl 0 rfl) ?_
          refine va_get (D := E.1) (ci := 4) (v := .int (S0.1 2)) (C := RX5) (T := TX5) (N := 3) hx hb hg in_X5 hown X.1 hP 0 rfl rfl 2 (by decide) (hg _ wf_X5_22) (fun _ h9 => h9) rfl dX5_repeat_25 ?_
          refine lv_aload_n hx hb dX5_repeat_28 rfl (lv_at hl 0 rfl) ?_
          refine va_get (D := E.1) (ci := 4) (v := .ref (q0 1)) (C := RX5) (T := TX5) (N := 3) hx hb hg in_X5 hown X.1 hP 0 rfl rfl 1 (by decide) (hg _ wf_X5_18) (fun _ h9 => h9) rfl dX5_repeat_29 ?_
          refine lv_aload_n hx hb dX5_repeat_32 rfl (lv_at hl 0 rfl) ?_
          refine va_get (D := E.1) (ci := 4) (v := .int (S0.1 2)) (C := RX5) (T := TX5) (N := 3) hx hb hg in_X5 hown X.1 hP 0 rfl rfl 2 (by decide) (hg _ wf_X5_22) (fun _ h9 => h9) rfl dX5_repeat_33 ?_
          refine lv_iload_n hx hb dX5_repeat_36 rfl (lv_at hl 1 rfl) ?_
          refine lv_isub hx hb dX5_repeat_37 ?_
          obtain ⟨hi, v4, ev4, h⟩ := rd_el h
          refine va_iald hx hb X.1 hP 1 0 rfl rfl hi dX5_repeat_38 ?_
          refine lv_top' ev4 ?_
          obtain ⟨hi, h⟩ := ck_el h
          obtain ⟨S0_5, eS, h⟩ := lt_el h
          refine va_iast hx hb X.1 hP hD hS 1 0 rfl rfl hi dX5_repeat_39 (fun H locs hP hD hS => ?_)
          have hP : va_P E.1 vwCl (cw_X5 E q0 (q1 0) S0_5 ++ (cw_X9 E q1 S1)) H := by rw [eS]; exact hP
          have hD : va_D A (cw_X5 E q0 (q1 0) S0_5 ++ (cw_X9 E q1 S1)) := by rw [eS]; exact hD
          clear eS
          refine lv_aload_n hx hb dX5_repeat_40 rfl (lv_at hl 0 rfl) ?_
          refine lv_dup hx hb dX5_repeat_41 rfl ?_
          refine va_get (D := E.1) (ci := 4) (v := .int (S0_5.1 2)) (C := RX5) (T := TX5) (N := 3) hx hb hg in_X5 hown X.1 hP 0 rfl rfl 2 (by decide) (hg _ wf_X5_22) (fun _ h9 => h9) rfl dX5_repeat_42 ?_
          refine lv_iconst (v := 1) hx hb dX5_repeat_45 (by decide) ?_
          refine lv_iadd hx hb dX5_repeat_46 ?_
          obtain ⟨S0_6, eS, h⟩ := lt_el h
          refine va_put (D := E.1) (ci := 4) (v := .int ((S0_5.1 2) + 1)) (ty := .int) (C := RX5) (T := TX5) (N := 3) hx hb hg in_X5 tyX5 tyX5_ok nmX5 hown X.1 hP hD hS 0 rfl rfl 2 (by decide) (hg _ wf_X5_22) (fun _ h9 => h9) rfl (by decide +kernel) rfl rfl (Nat.le_of_ble_eq_true rfl) dX5_repeat_47 (fun H locs hP hD hS => ?_)
          have hP : va_P E.1 vwCl (cw_X5 E q0 (q1 0) S0_6 ++ (cw_X9 E q1 S1)) H := by rw [eS]; exact hP
          have hD : va_D A (cw_X5 E q0 (q1 0) S0_6 ++ (cw_X9 E q1 S1)) := by rw [eS]; exact hD
          clear eS
          obtain ⟨v7, ev7, h⟩ := lt_el h
          refine lv_iinc (v := v7) (lv' := [(3, .int v7), (0, .ref (q0 0)), (1, .int x1), (2, .int x2)]) hx hb dX5_repeat_50 hl (k := 3) rfl (by rw [ev7]; rfl) (by decide) rfl (fun ls hl => ?_)
          refine lv_goto (tgt := 2) hx hb dX5_repeat_53 (by decide) ?_
          exact ih S0_6 v7 _ _ _ h hP hD hS (lv_sub hl [1, 2, 3, 0] rfl)
  obtain ⟨H, eH⟩ : ∃ z, z = s.heap := ⟨_, rfl⟩
  rw [← eH]
  have hP : va_P E.1 vwCl (cw_X5 E q0 (q1 0) S0 ++ (cw_X9 E q1 S1)) H := by rw [eH]; exact hP
  have hS : va_S A s.heap H [] := by rw [eH]; exact hS
  clear eH
  obtain ⟨locs, el⟩ : ∃ z : List Loc, z = [] := ⟨_, rfl⟩
  rw [← el] at hS ⊢
  clear el
  refine lv_iconst (v := 0) hx hb dX5_repeat_0 (by decide) ?_
  refine lv_istore_n (lv' := [(3, .int 0), (0, .ref (q0 0)), (1, .int x1), (2, .int x2)]) hx hb dX5_repeat_1 rfl hl (by decide) rfl (fun ls hl => ?_)
  exact N2 fu S0 0 _ _ _ h hP hD hS (lv_sub hl [1, 2, 3, 0] rfl)
theorem dX5_spoke_0 : decode cX5_spoke 0 = .ok (.aload_n 0, 1) := by decide +kernel
theorem dX5_spoke_1 : decode cX5_spoke 1 = .ok (.getfield 12, 3) := by decide +kernel
theorem dX5_spoke_4 : decode cX5_spoke 4 = .ok (.bipush 48, 2) := by decide +kernel
theorem dX5_spoke_6 : decode cX5_spoke 6 = .ok (.bipush 55, 2) := by decide +kernel
theorem dX5_spoke_8 : decode cX5_spoke 8 = .ok (.invokevirtual 51, 3) := by decide +kernel
theorem dX5_spoke_11 : decode cX5_spoke 11 = .ok (.ifCond .ne 12, 3) := by decide +kernel
theorem dX5_spoke_14 : decode cX5_spoke 14 = .ok (.aload_n 0, 1) := by decide +kernel
theorem dX5_spoke_15 : decode cX5_spoke 15 = .ok (.getfield 12, 3) := by decide +kernel
theorem dX5_spoke_18 : decode cX5_spoke 18 = .ok (.iconst 1, 1) := by decide +kernel
theorem dX5_spoke_19 : decode cX5_spoke 19 = .ok (.invokevirtual 48, 3) := by decide +kernel
theorem dX5_spoke_22 : decode cX5_spoke 22 = .ok (.ireturn, 1) := by decide +kernel
theorem dX5_spoke_23 : decode cX5_spoke 23 = .ok (.aload_n 0, 1) := by decide +kernel
theorem dX5_spoke_24 : decode cX5_spoke 24 = .ok (.getfield 22, 3) := by decide +kernel
theorem dX5_spoke_27 : decode cX5_spoke 27 = .ok (.bipush 64, 2) := by decide +kernel
theorem dX5_spoke_29 : decode cX5_spoke 29 = .ok (.if_icmp .lt 13, 3) := by decide +kernel
theorem dX5_spoke_32 : decode cX5_spoke 32 = .ok (.aload_n 0, 1) := by decide +kernel
theorem dX5_spoke_33 : decode cX5_spoke 33 = .ok (.getfield 12, 3) := by decide +kernel
theorem dX5_spoke_36 : decode cX5_spoke 36 = .ok (.bipush 6, 2) := by decide +kernel
theorem dX5_spoke_38 : decode cX5_spoke 38 = .ok (.invokevirtual 48, 3) := by decide +kernel
theorem dX5_spoke_41 : decode cX5_spoke 41 = .ok (.ireturn, 1) := by decide +kernel
theorem dX5_spoke_42 : decode cX5_spoke 42 = .ok (.aload_n 0, 1) := by decide +kernel
theorem dX5_spoke_43 : decode cX5_spoke 43 = .ok (.getfield 18, 3) := by decide +kernel
theorem dX5_spoke_46 : decode cX5_spoke 46 = .ok (.aload_n 0, 1) := by decide +kernel
theorem dX5_spoke_47 : decode cX5_spoke 47 = .ok (.getfield 22, 3) := by decide +kernel
theorem dX5_spoke_50 : decode cX5_spoke 50 = .ok (.aload_n 0, 1) := by decide +kernel
theorem dX5_spoke_51 : decode cX5_spoke 51 = .ok (.getfield 12, 3) := by decide +kernel
theorem dX5_spoke_54 : decode cX5_spoke 54 = .ok (.invokevirtual 37, 3) := by decide +kernel
theorem dX5_spoke_57 : decode cX5_spoke 57 = .ok (.bipush 48, 2) := by decide +kernel
theorem dX5_spoke_59 : decode cX5_spoke 59 = .ok (.isub, 1) := by decide +kernel
theorem dX5_spoke_60 : decode cX5_spoke 60 = .ok (.iastore, 1) := by decide +kernel
theorem dX5_spoke_61 : decode cX5_spoke 61 = .ok (.aload_n 0, 1) := by decide +kernel
theorem dX5_spoke_62 : decode cX5_spoke 62 = .ok (.dup, 1) := by decide +kernel
theorem dX5_spoke_63 : decode cX5_spoke 63 = .ok (.getfield 22, 3) := by decide +kernel
theorem dX5_spoke_66 : decode cX5_spoke 66 = .ok (.iconst 1, 1) := by decide +kernel
theorem dX5_spoke_67 : decode cX5_spoke 67 = .ok (.iadd, 1) := by decide +kernel
theorem dX5_spoke_68 : decode cX5_spoke 68 = .ok (.putfield 22, 3) := by decide +kernel
theorem dX5_spoke_71 : decode cX5_spoke 71 = .ok (.aload_n 0, 1) := by decide +kernel
theorem dX5_spoke_72 : decode cX5_spoke 72 = .ok (.getfield 12, 3) := by decide +kernel
theorem dX5_spoke_75 : decode cX5_spoke 75 = .ok (.invokevirtual 55, 3) := by decide +kernel
theorem dX5_spoke_78 : decode cX5_spoke 78 = .ok (.iconst 1, 1) := by decide +kernel
theorem dX5_spoke_79 : decode cX5_spoke 79 = .ok (.ireturn, 1) := by decide +kernel
def f_X5_spoke (S0 : Gr) (S1 : Gr) : Option (Int32 × Gr × Gr) := (f_X9_isAt S1 48 55).bind fun u1 => if u1 = 0 then ((f_X9_fail S1 1).bind fun u9 => zb' u9.1 (some (u9.1, S0, u9.2))) else (if (S0.1 2) < 64 then ((f_X9_peek S1).bind fun u4 => ck' 64 (S0.1 2) (lt' (sA S0 1 (Int32.toNatClampNeg (S0.1 2)) (u4 - 48)) fun S0_5 => lt' (sI S0_5 2 ((S0_5.1 2) + 1)) fun S0_6 => (f_X9_step S1).bind fun u7 => some (1, S0_6, u7))) else ((f_X9_fail S1 6).bind fun u8 => zb' u8.1 (some (u8.1, S0, u8.2))))
set_option maxHeartbeats 4000000 in
set_option maxRecDepth 100000 in
theorem c_X5_spoke (l : Launch) (E : Ec) (q0 q1 : Nat → Nat) (sz : Nat) (S0 : Gr) (S1 : Gr) (Rv : Int32 × Gr × Gr) (h : f_X5_spoke S0 S1 = some Rv) : Met l yX5_spoke (wsM (.code yX5_spoke cX5_spoke 1 (some .boolean))) ({ frames := 2, cells := 0, slots := 0, locals := 43 } : Room) (va_Pc [.ref (q0 0)] (ctP E (cw_X5 E q0 (q1 0) S0 ++ (cw_X9 E q1 S1)) sz)) (ctI E (cw_X5 E q0 (q1 0) S0 ++ (cw_X9 E q1 S1)) (cw_X5 E q0 (q1 0) Rv.2.1 ++ (cw_X9 E q1 Rv.2.2)) sz Rv.1) 0 0 (va_A (cw_X5 E q0 (q1 0) S0 ++ (cw_X9 E q1 S1)) sz) := by
  refine ct_metI (by decide) (Nat.le_of_ble_eq_true rfl) ?_
  intro p e s m ar below meth c A QM hx hb hml hown hg X hP hD hS RET ls hl
  have hown : s.vm.findClass RX5 = some m.cls := hown
  have hl : lv_has ls 1 [(0, .ref (q0 0))] := hl
  have RT : ∀ (v : Int32) (S0 : Gr) (S1 : Gr) (H : Heap) (locs : List Loc) (ls : Array Slot) (pc : Nat), some (v, S0, S1) = some Rv → narrow .boolean (.int v) = .int v → va_P E.1 vwCl (cw_X5 E q0 (q1 0) S0 ++ (cw_X9 E q1 S1)) H → va_D A (cw_X5 E q0 (q1 0) S0 ++ (cw_X9 E q1 S1)) → va_S A s.heap H locs → decode cX5_spoke pc = .ok (.ireturn, 1) → W p l e ({ frames := 2, cells := 0, slots := 0, locals := 43 } : Room) s m ar below meth c H locs 0 0 QM (F0 m pc ls [.int v]) := by
    intro v S0 S1 H locs ls pc e hn hP hD hS d
    obtain rfl := sm_e e
    exact RET H locs pc ls hn hP hD hS d
  clear RET
  obtain ⟨H, eH⟩ : ∃ z, z = s.heap := ⟨_, rfl⟩
  rw [← eH]
  have hP : va_P E.1 vwCl (cw_X5 E q0 (q1 0) S0 ++ (cw_X9 E q1 S1)) H := by rw [eH]; exact hP
  have hS : va_S A s.heap H [] := by rw [eH]; exact hS
  clear eH
  obtain ⟨locs, el⟩ : ∃ z : List Loc, z = [] := ⟨_, rfl⟩
  rw [← el] at hS ⊢
  clear el
  refine lv_aload_n hx hb dX5_spoke_0 rfl (lv_at hl 0 rfl) ?_
  refine va_get (D := E.1) (ci := 4) (v := .ref (q1 0)) (C := RX5) (T := TX5) (N := 3) hx hb hg in_X5 hown X.1 hP 0 rfl rfl 0 (by decide) (hg _ wf_X5_12) (fun _ h9 => h9) rfl dX5_spoke_1 ?_
  refine lv_bipush (v := 48) hx hb dX5_spoke_4 (by decide) ?_
  refine lv_bipush (v := 55) hx hb dX5_spoke_6 (by decide) ?_
  obtain ⟨u1, hc, h⟩ := bd_el h
  have hC : ([2, 3] : List Nat).map (fun i => (cw_X5 E q0 (q1 0) S0 ++ (cw_X9 E q1 S1))[i]?) = (cw_X9 E q1 S1).map some := rfl
  refine ct_iR X hP hD hS [2, 3] hC (va_runV (C := RX9) (As := [.int 48, .int 55]) (rest := []) ⟨hx, hb, hml, hown, hg⟩ (c_X9_isAt l E q1 H.size S1 48 55 u1 hc) (cwV 2 hg (gwV wm_X5_51 wi_X9_isAt wsl_X9_isAt wini_X9 wco_X9_isAt) rfl rfl rfl (by decide +kernel) ⟨Nat.le_of_ble_eq_true rfl, Nat.le_of_ble_eq_true rfl⟩) ⟨ct_blind, ct_rv X.1 hP 2 rfl rfl, ct_pre X hP hD hS [2, 3] (by decide) hC _⟩ rfl rfl hl.1 rfl (lv_room (Nat.le_of_ble_eq_true rfl)) dX5_spoke_8 ⟨Nat.zero_le _, Nat.zero_le _⟩) (fun H locs hP hD hS => ?_)
  clear hC
  refine lv_if_ne (tgt := 23) hx hb dX5_spoke_11 (by decide) (fun c2 => ?_) (fun c2 => ?_)
  · have h := it_f h c2
    refine lv_aload_n hx hb dX5_spoke_23 rfl (lv_at hl 0 rfl) ?_
    refine va_get (D := E.1) (ci := 4) (v := .int (S0.1 2)) (C := RX5) (T := TX5) (N := 3) hx hb hg in_X5 hown X.1 hP 0 rfl rfl 2 (by decide) (hg _ wf_X5_22) (fun _ h9 => h9) rfl dX5_spoke_24 ?_
    refine lv_bipush (v := 64) hx hb dX5_spoke_27 (by decide) ?_
    refine lv_icmp_lt (tgt := 42) hx hb dX5_spoke_29 (by decide) (fun c3 => ?_) (fun c3 => ?_)
    · have h := it_t h c3
      refine lv_aload_n hx hb dX5_spoke_42 rfl (lv_at hl 0 rfl) ?_
      refine va_get (D := E.1) (ci := 4) (v := .ref (q0 1)) (C := RX5) (T := TX5) (N := 3) hx hb hg in_X5 hown X.1 hP 0 rfl rfl 1 (by decide) (hg _ wf_X5_18) (fun _ h9 => h9) rfl dX5_spoke_43 ?_
      refine lv_aload_n hx hb dX5_spoke_46 rfl (lv_at hl 0 rfl) ?_
      refine va_get (D := E.1) (ci := 4) (v := .int (S0.1 2)) (C := RX5) (T := TX5) (N := 3) hx hb hg in_X5 hown X.1 hP 0 rfl rfl 2 (by decide) (hg _ wf_X5_22) (fun _ h9 => h9) rfl dX5_spoke_47 ?_
      refine lv_aload_n hx hb dX5_spoke_50 rfl (lv_at hl 0 rfl) ?_
      refine va_get (D := E.1) (ci := 4) (v := .ref (q1 0)) (C := RX5) (T := TX5) (N := 3) hx hb hg in_X5 hown X.1 hP 0 rfl rfl 0 (by decide) (hg _ wf_X5_12) (fun _ h9 => h9) rfl dX5_spoke_51 ?_
      obtain ⟨u4, hc, h⟩ := bd_el h
      have hC : ([2, 3] : List Nat).map (fun i => (cw_X5 E q0 (q1 0) S0 ++ (cw_X9 E q1 S1))[i]?) = (cw_X9 E q1 S1).map some := rfl
      refine ct_iR X hP hD hS [2, 3] hC (va_runV (C := RX9) (As := []) (rest := [.int (S0.1 2), .ref (q0 1)]) ⟨hx, hb, hml, hown, hg⟩ (c_X9_peek l E q1 H.size S1 u4 hc) (cwV 0 hg (gwV wm_X5_37 wi_X9_peek wsl_X9_peek wini_X9 wco_X9_peek) rfl rfl rfl (by decide +kernel) ⟨Nat.le_of_ble_eq_true rfl, Nat.le_of_ble_eq_true rfl⟩) ⟨ct_blind, ct_rv X.1 hP 2 rfl rfl, ct_pre X hP hD hS [2, 3] (by decide) hC _⟩ rfl rfl hl.1 rfl (lv_room (Nat.le_of_ble_eq_true rfl)) dX5_spoke_54 ⟨Nat.zero_le _, Nat.zero_le _⟩) (fun H locs hP hD hS => ?_)
      clear hC
      refine lv_bipush (v := 48) hx hb dX5_spoke_57 (by decide) ?_
      refine lv_isub hx hb dX5_spoke_59 ?_
      obtain ⟨hi, h⟩ := ck_el h
      obtain ⟨S0_5, eS, h⟩ := lt_el h
      refine va_iast hx hb X.1 hP hD hS 1 0 rfl rfl hi dX5_spoke_60 (fun H locs hP hD hS => ?_)
      have hP : va_P E.1 vwCl (cw_X5 E q0 (q1 0) S0_5 ++ (cw_X9 E q1 S1)) H := by rw [eS]; exact hP
      have hD : va_D A (cw_X5 E q0 (q1 0) S0_5 ++ (cw_X9 E q1 S1)) := by rw [eS]; exact hD
      clear eS
      refine lv_aload_n hx hb dX5_spoke_61 rfl (lv_at hl 0 rfl) ?_
      refine lv_dup hx hb dX5_spoke_62 rfl ?_
      refine va_get (D := E.1) (ci := 4) (v := .int (S0_5.1 2)) (C := RX5) (T := TX5) (N := 3) hx hb hg in_X5 hown X.1 hP 0 rfl rfl 2 (by decide) (hg _ wf_X5_22) (fun _ h9 => h9) rfl dX5_spoke_63 ?_
      refine lv_iconst (v := 1) hx hb dX5_spoke_66 (by decide) ?_
      refine lv_iadd hx hb dX5_spoke_67 ?_
      obtain ⟨S0_6, eS, h⟩ := lt_el h
      refine va_put (D := E.1) (ci := 4) (v := .int ((S0_5.1 2) + 1)) (ty := .int) (C := RX5) (T := TX5) (N := 3) hx hb hg in_X5 tyX5 tyX5_ok nmX5 hown X.1 hP hD hS 0 rfl rfl 2 (by decide) (hg _ wf_X5_22) (fun _ h9 => h9) rfl (by decide +kernel) rfl rfl (Nat.le_of_ble_eq_true rfl) dX5_spoke_68 (fun H locs hP hD hS => ?_)
      have hP : va_P E.1 vwCl (cw_X5 E q0 (q1 0) S0_6 ++ (cw_X9 E q1 S1)) H := by rw [eS]; exact hP
      have hD : va_D A (cw_X5 E q0 (q1 0) S0_6 ++ (cw_X9 E q1 S1)) := by rw [eS]; exact hD
      clear eS
      refine lv_aload_n hx hb dX5_spoke_71 rfl (lv_at hl 0 rfl) ?_
      refine va_get (D := E.1) (ci := 4) (v := .ref (q1 0)) (C := RX5) (T := TX5) (N := 3) hx hb hg in_X5 hown X.1 hP 0 rfl rfl 0 (by decide) (hg _ wf_X5_12) (fun _ h9 => h9) rfl dX5_spoke_72 ?_
      obtain ⟨u7, hc, h⟩ := bd_el h
      have hC : ([2, 3] : List Nat).map (fun i => (cw_X5 E q0 (q1 0) S0_6 ++ (cw_X9 E q1 S1))[i]?) = (cw_X9 E q1 S1).map some := rfl
      refine ct_v (ws' := cw_X5 E q0 (q1 0) S0_6 ++ (cw_X9 E q1 u7)) X hP hD hS [2, 3] (va_runV (C := RX9) (As := []) (rest := []) ⟨hx, hb, hml, hown, hg⟩ (c_X9_step l E q1 H.size S1 u7 hc) (cwV 0 hg (gwV wm_X5_55 wi_X9_step wsl_X9_step wini_X9 wco_X9_step) rfl rfl rfl (by decide +kernel) ⟨Nat.le_of_ble_eq_true rfl, Nat.le_of_ble_eq_true rfl⟩) ⟨ct_blind, ct_rv X.1 hP 2 rfl rfl, ct_pre X hP hD hS [2, 3] (by decide) hC _⟩ rfl rfl hl.1 rfl (lv_room (Nat.le_of_ble_eq_true rfl)) dX5_spoke_75 ⟨Nat.zero_le _, Nat.zero_le _⟩) hC rfl rfl (fun H locs hP hD hS => ?_)
      clear hC
      refine lv_iconst (v := 1) hx hb dX5_spoke_78 (by decide) ?_
      exact RT 1 S0_6 u7 _ _ _ _ h (by decide +kernel) hP hD hS dX5_spoke_79
    · have h := it_f h c3
      refine lv_aload_n hx hb dX5_spoke_32 rfl (lv_at hl 0 rfl) ?_
      refine va_get (D := E.1) (ci := 4) (v := .ref (q1 0)) (C := RX5) (T := TX5) (N := 3) hx hb hg in_X5 hown X.1 hP 0 rfl rfl 0 (by decide) (hg _ wf_X5_12) (fun _ h9 => h9) rfl dX5_spoke_33 ?_
      refine lv_bipush (v := 6) hx hb dX5_spoke_36 (by decide) ?_
      obtain ⟨u8, hc, h⟩ := bd_el h
      have hC : ([2, 3] : List Nat).map (fun i => (cw_X5 E q0 (q1 0) S0 ++ (cw_X9 E q1 S1))[i]?) = (cw_X9 E q1 S1).map some := rfl
      refine ct_i (ws' := cw_X5 E q0 (q1 0) S0 ++ (cw_X9 E q1 u8.2)) X hP hD hS [2, 3] (va_runV (C := RX9) (As := [.int 6]) (rest := []) ⟨hx, hb, hml, hown, hg⟩ (c_X9_fail l E q1 H.size S1 6 u8 hc) (cwV 1 hg (gwV wm_X5_48 wi_X9_fail wsl_X9_fail wini_X9 wco_X9_fail) rfl rfl rfl (by decide +kernel) ⟨Nat.le_of_ble_eq_true rfl, Nat.le_of_ble_eq_true rfl⟩) ⟨ct_blind, ct_rv X.1 hP 2 rfl rfl, ct_pre X hP hD hS [2, 3] (by decide) hC _⟩ rfl rfl hl.1 rfl (lv_room (Nat.le_of_ble_eq_true rfl)) dX5_spoke_38 ⟨Nat.zero_le _, Nat.zero_le _⟩) hC rfl rfl (fun H locs hP hD hS => ?_)
      clear hC
      obtain ⟨hn1, -, h⟩ := zb_el h
      exact RT u8.1 S0 u8.2 _ _ _ _ h hn1 hP hD hS dX5_spoke_41
  · have h := it_t h c2
    refine lv_aload_n hx hb dX5_spoke_14 rfl (lv_at hl 0 rfl) ?_
    refine va_get (D := E.1) (ci := 4) (v := .ref (q1 0)) (C := RX5) (T := TX5) (N := 3) hx hb hg in_X5 hown X.1 hP 0 rfl rfl 0 (by decide) (hg _ wf_X5_12) (fun _ h9 => h9) rfl dX5_spoke_15 ?_
    refine lv_iconst (v := 1) hx hb dX5_spoke_18 (by decide) ?_
    obtain ⟨u9, hc, h⟩ := bd_el h
    have hC : ([2, 3] : List Nat).map (fun i => (cw_X5 E q0 (q1 0) S0 ++ (cw_X9 E q1 S1))[i]?) = (cw_X9 E q1 S1).map some := rfl
    refine ct_i (ws' := cw_X5 E q0 (q1 0) S0 ++ (cw_X9 E q1 u9.2)) X hP hD hS [2, 3] (va_runV (C := RX9) (As := [.int 1]) (rest := []) ⟨hx, hb, hml, hown, hg⟩ (c_X9_fail l E q1 H.size S1 1 u9 hc) (cwV 1 hg (gwV wm_X5_48 wi_X9_fail wsl_X9_fail wini_X9 wco_X9_fail) rfl rfl rfl (by decide +kernel) ⟨Nat.le_of_ble_eq_true rfl, Nat.le_of_ble_eq_true rfl⟩) ⟨ct_blind, ct_rv X.1 hP 2 rfl rfl, ct_pre X hP hD hS [2, 3] (by decide) hC _⟩ rfl rfl hl.1 rfl (lv_room (Nat.le_of_ble_eq_true rfl)) dX5_spoke_19 ⟨Nat.zero_le _, Nat.zero_le _⟩) hC rfl rfl (fun H locs hP hD hS => ?_)
    clear hC
    obtain ⟨hn1, -, h⟩ := zb_el h
    exact RT u9.1 S0 u9.2 _ _ _ _ h hn1 hP hD hS dX5_spoke_22
