theorem dX12_share_0 : decode cX12_share 0 = .ok (.aload_n 0, 1) := by decide +kernel
theorem dX12_share_1 : decode cX12_share 1 = .ok (.iload_n 1, 1) := by decide +kernel
theorem dX12_share_2 : decode cX12_share 2 = .ok (.invokevirtual 139, 3) := by decide +kernel
theorem dX12_share_5 : decode cX12_share 5 = .ok (.ifCond .ne 5, 3) := by decide +kernel
theorem dX12_share_8 : decode cX12_share 8 = .ok (.iconst (-1), 1) := by decide +kernel
theorem dX12_share_9 : decode cX12_share 9 = .ok (.ireturn, 1) := by decide +kernel
theorem dX12_share_10 : decode cX12_share 10 = .ok (.iconst 0, 1) := by decide +kernel
theorem dX12_share_11 : decode cX12_share 11 = .ok (.istore_n 2, 1) := by decide +kernel
theorem dX12_share_12 : decode cX12_share 12 = .ok (.iconst 0, 1) := by decide +kernel
theorem dX12_share_13 : decode cX12_share 13 = .ok (.istore_n 3, 1) := by decide +kernel
theorem dX12_share_14 : decode cX12_share 14 = .ok (.iload_n 3, 1) := by decide +kernel
theorem dX12_share_15 : decode cX12_share 15 = .ok (.sipush 384, 3) := by decide +kernel
theorem dX12_share_18 : decode cX12_share 18 = .ok (.if_icmp .ge 22, 3) := by decide +kernel
theorem dX12_share_21 : decode cX12_share 21 = .ok (.aload_n 0, 1) := by decide +kernel
theorem dX12_share_22 : decode cX12_share 22 = .ok (.iload_n 3, 1) := by decide +kernel
theorem dX12_share_23 : decode cX12_share 23 = .ok (.invokevirtual 363, 3) := by decide +kernel
theorem dX12_share_26 : decode cX12_share 26 = .ok (.iload_n 1, 1) := by decide +kernel
theorem dX12_share_27 : decode cX12_share 27 = .ok (.if_icmp .ne 7, 3) := by decide +kernel
theorem dX12_share_30 : decode cX12_share 30 = .ok (.iload_n 2, 1) := by decide +kernel
theorem dX12_share_31 : decode cX12_share 31 = .ok (.iconst 1, 1) := by decide +kernel
theorem dX12_share_32 : decode cX12_share 32 = .ok (.iadd, 1) := by decide +kernel
theorem dX12_share_33 : decode cX12_share 33 = .ok (.istore_n 2, 1) := by decide +kernel
theorem dX12_share_34 : decode cX12_share 34 = .ok (.iinc 3 1, 3) := by decide +kernel
theorem dX12_share_37 : decode cX12_share 37 = .ok (.goto (-23), 3) := by decide +kernel
theorem dX12_share_40 : decode cX12_share 40 = .ok (.iload_n 2, 1) := by decide +kernel
theorem dX12_share_41 : decode cX12_share 41 = .ok (.ireturn, 1) := by decide +kernel
def f_X12_share_n14 (S0 : Gr) (x1 : Int32) : Nat → Int32 → Int32 → Option (Int32)
  | 0, _, _ => none
  | n + 1, x2, x3 => if 384 ≤ x3 then (some x2) else ((f_X12_nearestTo S0 x3).bind fun u4 => if u4 = x1 then (lt' ((x2 + 1)) fun v7 => lt' (x3 + 1) fun v8 => f_X12_share_n14 S0 x1 n v7 v8) else (lt' (x3 + 1) fun v6 => f_X12_share_n14 S0 x1 n x2 v6))
def f_X12_share (S0 : Gr) (x1 : Int32) : Option (Int32) := (f_X12_isWeb S0 x1).bind fun u1 => if u1 = 0 then (some (-1)) else (f_X12_share_n14 S0 x1 fu 0 0)
set_option maxHeartbeats 4000000 in
set_option maxRecDepth 100000 in
theorem c_X12_share (l : Launch) (E : Ec) (q0 : Nat → Nat) (sz : Nat) (S0 : Gr) (x1 : Int32) (Rv : Int32) (h : f_X12_share S0 x1 = some Rv) : Met l yX12_share (wsM (.code yX12_share cX12_share 4 (some .int))) ({ frames := 3, cells := 0, slots := 0, locals := 66 } : Room) (va_Pc [.ref (q0 0), .int x1] (ctP E (cw_X12 E q0 S0) sz)) (ctI E (cw_X12 E q0 S0) (cw_X12 E q0 S0) sz Rv) 0 0 (va_A (cw_X12 E q0 S0) sz) := by
  refine ct_metI (by decide) (Nat.le_of_ble_eq_true rfl) ?_
  intro p e s m ar below meth c A QM hx hb hml hown hg X hP hD hS RET ls hl
  have hown : s.vm.findClass RX12 = some m.cls := hown
  have hl : lv_has ls 4 [(0, .ref (q0 0)), (1, .int x1)] := hl
  have RT : ∀ (v : Int32) (H : Heap) (locs : List Loc) (ls : Array Slot) (pc : Nat), some v = some Rv → narrow .int (.int v) = .int v → va_P E.1 vwCl (cw_X12 E q0 S0) H → va_D A (cw_X12 E q0 S0) → va_S A s.heap H locs → decode cX12_share pc = .ok (.ireturn, 1) → W p l e ({ frames := 3, cells := 0, slots := 0, locals := 66 } : Room) s m ar below meth c H locs 0 0 QM (F0 m pc ls [.int v]) := by
    intro v H locs ls pc e hn hP hD hS d
    obtain rfl := sm_e e
    exact RET H locs pc ls hn hP hD hS d
  clear RET
  have N14 : ∀ (n : Nat) (x2 : Int32) (x3 : Int32) (H : Heap) (locs : List Loc) (ls : Array Slot), f_X12_share_n14 S0 x1 n x2 x3 = some Rv → va_P E.1 vwCl (cw_X12 E q0 S0) H → va_D A (cw_X12 E q0 S0) → va_S A s.heap H locs → lv_has ls 4 [(0, .ref (q0 0)), (1, .int x1), (2, .int x2), (3, .int x3)] → W p l e ({ frames := 3, cells := 0, slots := 0, locals := 66 } : Room) s m ar below meth c H locs 0 0 QM (F0 m 14 ls []) := by
    intro n
    induction n with
    | zero => intro x2 x3 H locs ls h; exact nn_el h
    | succ n ih =>
      intro x2 x3 H locs ls h hP hD hS hl
      refine lv_iload_n hx hb dX12_share_14 rfl (lv_at hl 3 rfl) ?_
      refine lv_sipush (v := 384) hx hb dX12_share_15 (by decide) ?_
      refine lv_icmp_ge (tgt := 40) hx hb dX12_share_18 (by decide) (fun c3 => ?_) (fun c3 => ?_)
      · have h := it_t h c3
        refine lv_iload_n hx hb dX12_share_40 rfl (lv_at hl 2 rfl) ?_
        exact RT x2 _ _ _ _ h rfl hP hD hS dX12_share_41
      · have h := it_f h c3
        refine lv_aload_n hx hb dX12_share_21 rfl (lv_at hl 0 rfl) ?_
        refine lv_iload_n hx hb dX12_share_22 rfl (lv_at hl 3 rfl) ?_
        obtain ⟨u4, hc, h⟩ := bd_el h
        refine ct_iA (w1 := cw_X12 E q0 S0) X hP hD hS (va_runV (C := RX12) (As := [.int x3]) (rest := []) ⟨hx, hb, hml, hown, hg⟩ (c_X12_nearestTo l E q0 H.size S0 x3 u4 hc) (cwV 1 hg (gwV wm_X12_363 wi_X12_nearestTo wsl_X12_nearestTo wini_X12 wco_X12_nearestTo) rfl rfl rfl (by decide +kernel) ⟨Nat.le_of_ble_eq_true rfl, Nat.le_of_ble_eq_true rfl⟩) ⟨ct_blind, ct_rv X.1 hP 0 rfl rfl, ct_preA X hP hD hS _⟩ rfl rfl hl.1 rfl (lv_room (Nat.le_of_ble_eq_true rfl)) dX12_share_23 ⟨Nat.zero_le _, Nat.zero_le _⟩) (fun H locs hP hD hS => ?_)
        refine lv_iload_n hx hb dX12_share_26 rfl (lv_at hl 1 rfl) ?_
        refine lv_icmp_ne (tgt := 34) hx hb dX12_share_27 (by decide) (fun c5 => ?_) (fun c5 => ?_)
        · have h := it_f h c5
          obtain ⟨v6, ev6, h⟩ := lt_el h
          refine lv_iinc (v := v6) (lv' := [(3, .int v6), (0, .ref (q0 0)), (1, .int x1), (2, .int x2)]) hx hb dX12_share_34 hl (k := 3) rfl (by rw [ev6]; rfl) (by decide) rfl (fun ls hl => ?_)
          refine lv_goto (tgt := 14) hx hb dX12_share_37 (by decide) ?_
          exact ih x2 v6 _ _ _ h hP hD hS (lv_sub hl [1, 2, 3, 0] rfl)
        · have h := it_t h c5
          refine lv_iload_n hx hb dX12_share_30 rfl (lv_at hl 2 rfl) ?_
          refine lv_iconst (v := 1) hx hb dX12_share_31 (by decide) ?_
          refine lv_iadd hx hb dX12_share_32 ?_
          obtain ⟨v7, ev7, h⟩ := lt_el h
          refine lv_top' ev7 ?_
          refine lv_istore_n (lv' := [(2, .int v7), (0, .ref (q0 0)), (1, .int x1), (3, .int x3)]) hx hb dX12_share_33 rfl hl (by decide) rfl (fun ls hl => ?_)
          obtain ⟨v8, ev8, h⟩ := lt_el h
          refine lv_iinc (v := v8) (lv' := [(3, .int v8), (2, .int v7), (0, .ref (q0 0)), (1, .int x1)]) hx hb dX12_share_34 hl (k := 3) rfl (by rw [ev8]; rfl) (by decide) rfl (fun ls hl => ?_)
          refine lv_goto (tgt := 14) hx hb dX12_share_37 (by decide) ?_
          exact ih v7 v8 _ _ _ h hP hD hS (lv_sub hl [2, 3, 1, 0] rfl)
  obtain ⟨H, eH⟩ : ∃ z, z = s.heap := ⟨_, rfl⟩
  rw [← eH]
  have hP : va_P E.1 vwCl (cw_X12 E q0 S0) H := by rw [eH]; exact hP
  have hS : va_S A s.heap H [] := by rw [eH]; exact hS
  clear eH
  obtain ⟨locs, el⟩ : ∃ z : List Loc, z = [] := ⟨_, rfl⟩
  rw [← el] at hS ⊢
  clear el
  refine lv_aload_n hx hb dX12_share_0 rfl (lv_at hl 0 rfl) ?_
  refine lv_iload_n hx hb dX12_share_1 rfl (lv_at hl 1 rfl) ?_
  obtain ⟨u1, hc, h⟩ := bd_el h
  refine ct_iA (w1 := cw_X12 E q0 S0) X hP hD hS (va_runV (C := RX12) (As := [.int x1]) (rest := []) ⟨hx, hb, hml, hown, hg⟩ (c_X12_isWeb l E q0 H.size S0 x1 u1 hc) (cwV 1 hg (gwV wm_X12_139 wi_X12_isWeb wsl_X12_isWeb wini_X12 wco_X12_isWeb) rfl rfl rfl (by decide +kernel) ⟨Nat.le_of_ble_eq_true rfl, Nat.le_of_ble_eq_true rfl⟩) ⟨ct_blind, ct_rv X.1 hP 0 rfl rfl, ct_preA X hP hD hS _⟩ rfl rfl hl.1 rfl (lv_room (Nat.le_of_ble_eq_true rfl)) dX12_share_2 ⟨Nat.zero_le _, Nat.zero_le _⟩) (fun H locs hP hD hS => ?_)
  refine lv_if_ne (tgt := 10) hx hb dX12_share_5 (by decide) (fun c2 => ?_) (fun c2 => ?_)
  · have h := it_f h c2
    refine lv_iconst (v := 0) hx hb dX12_share_10 (by decide) ?_
    refine lv_istore_n (lv' := [(2, .int 0), (0, .ref (q0 0)), (1, .int x1)]) hx hb dX12_share_11 rfl hl (by decide) rfl (fun ls hl => ?_)
    refine lv_iconst (v := 0) hx hb dX12_share_12 (by decide) ?_
    refine lv_istore_n (lv' := [(3, .int 0), (2, .int 0), (0, .ref (q0 0)), (1, .int x1)]) hx hb dX12_share_13 rfl hl (by decide) rfl (fun ls hl => ?_)
    exact N14 fu 0 0 _ _ _ h hP hD hS (lv_sub hl [2, 3, 1, 0] rfl)
  · have h := it_t h c2
    refine lv_iconst (v := (-1)) hx hb dX12_share_8 (by decide) ?_
    exact RT (-1) _ _ _ _ h rfl hP hD hS dX12_share_9
theorem dX12_middle_0 : decode cX12_middle 0 = .ok (.iload_n 0, 1) := by decide +kernel
theorem dX12_middle_1 : decode cX12_middle 1 = .ok (.iload_n 1, 1) := by decide +kernel
theorem dX12_middle_2 : decode cX12_middle 2 = .ok (.invokestatic 317, 3) := by decide +kernel
theorem dX12_middle_5 : decode cX12_middle 5 = .ok (.iload_n 0, 1) := by decide +kernel
theorem dX12_middle_6 : decode cX12_middle 6 = .ok (.iload_n 1, 1) := by decide +kernel
theorem dX12_middle_7 : decode cX12_middle 7 = .ok (.invokestatic 129, 3) := by decide +kernel
theorem dX12_middle_10 : decode cX12_middle 10 = .ok (.iload_n 2, 1) := by decide +kernel
theorem dX12_middle_11 : decode cX12_middle 11 = .ok (.invokestatic 317, 3) := by decide +kernel
theorem dX12_middle_14 : decode cX12_middle 14 = .ok (.invokestatic 129, 3) := by decide +kernel
theorem dX12_middle_17 : decode cX12_middle 17 = .ok (.ireturn, 1) := by decide +kernel
def f_X12_middle (x0 : Int32) (x1 : Int32) (x2 : Int32) : Option (Int32) := (f_X12_min x0 x1).bind fun u1 => (f_X12_max x0 x1).bind fun u2 => (f_X12_min u2 x2).bind fun u3 => (f_X12_max u1 u3).bind fun u4 => some u4
set_option maxHeartbeats 4000000 in
set_option maxRecDepth 100000 in
theorem c_X12_middle (l : Launch) (E : Ec) (sz : Nat) (x0 : Int32) (x1 : Int32) (x2 : Int32) (Rv : Int32) (h : f_X12_middle x0 x1 x2 = some Rv) : Met l yX12_middle (wsM (.code yX12_middle cX12_middle 3 (some .int))) ({ frames := 1, cells := 0, slots := 0, locals := 21 } : Room) (va_Pc [.int x0, .int x1, .int x2] (ctP E ([]) sz)) (ctI E ([]) ([]) sz Rv) 0 0 (va_A ([]) sz) := by
  refine ct_metI (by decide) (Nat.le_of_ble_eq_true rfl) ?_
  intro p e s m ar below meth c A QM hx hb hml hown hg X hP hD hS RET ls hl
  have hown : s.vm.findClass RX12 = some m.cls := hown
  have hl : lv_has ls 3 [(0, .int x0), (1, .int x1), (2, .int x2)] := hl
  have RT : ∀ (v : Int32) (H : Heap) (locs : List Loc) (ls : Array Slot) (pc : Nat), some v = some Rv → narrow .int (.int v) = .int v → va_P E.1 vwCl ([]) H → va_D A ([]) → va_S A s.heap H locs → decode cX12_middle pc = .ok (.ireturn, 1) → W p l e ({ frames := 1, cells := 0, slots := 0, locals := 21 } : Room) s m ar below meth c H locs 0 0 QM (F0 m pc ls [.int v]) := by
    intro v H locs ls pc e hn hP hD hS d
    obtain rfl := sm_e e
    exact RET H locs pc ls hn hP hD hS d
  clear RET
  obtain ⟨H, eH⟩ : ∃ z, z = s.heap := ⟨_, rfl⟩
  rw [← eH]
  have hP : va_P E.1 vwCl ([]) H := by rw [eH]; exact hP
  have hS : va_S A s.heap H [] := by rw [eH]; exact hS
  clear eH
  obtain ⟨locs, el⟩ : ∃ z : List Loc, z = [] := ⟨_, rfl⟩
  rw [← el] at hS ⊢
  clear el
  refine lv_iload_n hx hb dX12_middle_0 rfl (lv_at hl 0 rfl) ?_
  refine lv_iload_n hx hb dX12_middle_1 rfl (lv_at hl 1 rfl) ?_
  obtain ⟨u1, hc, h⟩ := bd_el h
  refine ct_iN X hP hD hS (va_runS (As := [.int x0, .int x1]) (rest := []) ⟨hx, hb, hml, hown, hg⟩ (c_X12_min l E  H.size x0 x1 u1 hc) (va_cwS 2 hg (gwS wm_X12_317 wst_X12_min wini_X12 wco_X12_min) rfl rfl rfl (by decide +kernel) ⟨Nat.le_of_ble_eq_true rfl, Nat.le_of_ble_eq_true rfl⟩) ⟨ct_blind, ct_preN X hS _⟩ rfl rfl hl.1 rfl (lv_room (Nat.le_of_ble_eq_true rfl)) dX12_middle_2 ⟨Nat.zero_le _, Nat.zero_le _⟩) (fun H locs hP hD hS => ?_)
  refine lv_iload_n hx hb dX12_middle_5 rfl (lv_at hl 0 rfl) ?_
  refine lv_iload_n hx hb dX12_middle_6 rfl (lv_at hl 1 rfl) ?_
  obtain ⟨u2, hc, h⟩ := bd_el h
  refine ct_iN X hP hD hS (va_runS (As := [.int x0, .int x1]) (rest := [.int u1]) ⟨hx, hb, hml, hown, hg⟩ (c_X12_max l E  H.size x0 x1 u2 hc) (va_cwS 2 hg (gwS wm_X12_129 wst_X12_max wini_X12 wco_X12_max) rfl rfl rfl (by decide +kernel) ⟨Nat.le_of_ble_eq_true rfl, Nat.le_of_ble_eq_true rfl⟩) ⟨ct_blind, ct_preN X hS _⟩ rfl rfl hl.1 rfl (lv_room (Nat.le_of_ble_eq_true rfl)) dX12_middle_7 ⟨Nat.zero_le _, Nat.zero_le _⟩) (fun H locs hP hD hS => ?_)
  refine lv_iload_n hx hb dX12_middle_10 rfl (lv_at hl 2 rfl) ?_
  obtain ⟨u3, hc, h⟩ := bd_el h
  refine ct_iN X hP hD hS (va_runS (As := [.int u2, .int x2]) (rest := [.int u1]) ⟨hx, hb, hml, hown, hg⟩ (c_X12_min l E  H.size u2 x2 u3 hc) (va_cwS 2 hg (gwS wm_X12_317 wst_X12_min wini_X12 wco_X12_min) rfl rfl rfl (by decide +kernel) ⟨Nat.le_of_ble_eq_true rfl, Nat.le_of_ble_eq_true rfl⟩) ⟨ct_blind, ct_preN X hS _⟩ rfl rfl hl.1 rfl (lv_room (Nat.le_of_ble_eq_true rfl)) dX12_middle_11 ⟨Nat.zero_le _, Nat.zero_le _⟩) (fun H locs hP hD hS => ?_)
  obtain ⟨u4, hc, h⟩ := bd_el h
  refine ct_iN X hP hD hS (va_runS (As := [.int u1, .int u3]) (rest := []) ⟨hx, hb, hml, hown, hg⟩ (c_X12_max l E  H.size u1 u3 u4 hc) (va_cwS 2 hg (gwS wm_X12_129 wst_X12_max wini_X12 wco_X12_max) rfl rfl rfl (by decide +kernel) ⟨Nat.le_of_ble_eq_true rfl, Nat.le_of_ble_eq_true rfl⟩) ⟨ct_blind, ct_preN X hS _⟩ rfl rfl hl.1 rfl (lv_room (Nat.le_of_ble_eq_true rfl)) dX12_middle_14 ⟨Nat.zero_le _, Nat.zero_le _⟩) (fun H locs hP hD hS => ?_)
  exact RT u4 _ _ _ _ h rfl hP hD hS dX12_middle_17
theorem dX12_smooths_0 : decode cX12_smooths 0 = .ok (.iconst 0, 1) := by decide +kernel
theorem dX12_smooths_1 : decode cX12_smooths 1 = .ok (.istore_n 2, 1) := by decide +kernel
theorem dX12_smooths_2 : decode cX12_smooths 2 = .ok (.iconst 0, 1) := by decide +kernel
theorem dX12_smooths_3 : decode cX12_smooths 3 = .ok (.istore_n 3, 1) := by decide +kernel
theorem dX12_smooths_4 : decode cX12_smooths 4 = .ok (.iload_n 3, 1) := by decide +kernel
theorem dX12_smooths_5 : decode cX12_smooths 5 = .ok (.iload_n 1, 1) := by decide +kernel
theorem dX12_smooths_6 : decode cX12_smooths 6 = .ok (.if_icmp .ge 77, 3) := by decide +kernel
theorem dX12_smooths_9 : decode cX12_smooths 9 = .ok (.aload_n 0, 1) := by decide +kernel
theorem dX12_smooths_10 : decode cX12_smooths 10 = .ok (.getfield 107, 3) := by decide +kernel
theorem dX12_smooths_13 : decode cX12_smooths 13 = .ok (.iload_n 3, 1) := by decide +kernel
theorem dX12_smooths_14 : decode cX12_smooths 14 = .ok (.iload_n 3, 1) := by decide +kernel
theorem dX12_smooths_15 : decode cX12_smooths 15 = .ok (.ifCond .eq 10, 3) := by decide +kernel
theorem dX12_smooths_18 : decode cX12_smooths 18 = .ok (.iload_n 3, 1) := by decide +kernel
theorem dX12_smooths_19 : decode cX12_smooths 19 = .ok (.iload_n 1, 1) := by decide +kernel
theorem dX12_smooths_20 : decode cX12_smooths 20 = .ok (.iconst 1, 1) := by decide +kernel
theorem dX12_smooths_21 : decode cX12_smooths 21 = .ok (.isub, 1) := by decide +kernel
theorem dX12_smooths_22 : decode cX12_smooths 22 = .ok (.if_icmp .ne 12, 3) := by decide +kernel
theorem dX12_smooths_25 : decode cX12_smooths 25 = .ok (.aload_n 0, 1) := by decide +kernel
theorem dX12_smooths_26 : decode cX12_smooths 26 = .ok (.getfield 104, 3) := by decide +kernel
theorem dX12_smooths_29 : decode cX12_smooths 29 = .ok (.iload_n 3, 1) := by decide +kernel
theorem dX12_smooths_30 : decode cX12_smooths 30 = .ok (.iaload, 1) := by decide +kernel
theorem dX12_smooths_31 : decode cX12_smooths 31 = .ok (.goto 28, 3) := by decide +kernel
theorem dX12_smooths_34 : decode cX12_smooths 34 = .ok (.aload_n 0, 1) := by decide +kernel
theorem dX12_smooths_35 : decode cX12_smooths 35 = .ok (.getfield 104, 3) := by decide +kernel
theorem dX12_smooths_38 : decode cX12_smooths 38 = .ok (.iload_n 3, 1) := by decide +kernel
theorem dX12_smooths_39 : decode cX12_smooths 39 = .ok (.iconst 1, 1) := by decide +kernel
theorem dX12_smooths_40 : decode cX12_smooths 40 = .ok (.isub, 1) := by decide +kernel
theorem dX12_smooths_41 : decode cX12_smooths 41 = .ok (.iaload, 1) := by decide +kernel
theorem dX12_smooths_42 : decode cX12_smooths 42 = .ok (.aload_n 0, 1) := by decide +kernel
theorem dX12_smooths_43 : decode cX12_smooths 43 = .ok (.getfield 104, 3) := by decide +kernel
theorem dX12_smooths_46 : decode cX12_smooths 46 = .ok (.iload_n 3, 1) := by decide +kernel
theorem dX12_smooths_47 : decode cX12_smooths 47 = .ok (.iaload, 1) := by decide +kernel
theorem dX12_smooths_48 : decode cX12_smooths 48 = .ok (.aload_n 0, 1) := by decide +kernel
theorem dX12_smooths_49 : decode cX12_smooths 49 = .ok (.getfield 104, 3) := by decide +kernel
theorem dX12_smooths_52 : decode cX12_smooths 52 = .ok (.iload_n 3, 1) := by decide +kernel
theorem dX12_smooths_53 : decode cX12_smooths 53 = .ok (.iconst 1, 1) := by decide +kernel
theorem dX12_smooths_54 : decode cX12_smooths 54 = .ok (.iadd, 1) := by decide +kernel
theorem dX12_smooths_55 : decode cX12_smooths 55 = .ok (.iaload, 1) := by decide +kernel
theorem dX12_smooths_56 : decode cX12_smooths 56 = .ok (.invokestatic 412, 3) := by decide +kernel
theorem dX12_smooths_59 : decode cX12_smooths 59 = .ok (.iastore, 1) := by decide +kernel
theorem dX12_smooths_60 : decode cX12_smooths 60 = .ok (.aload_n 0, 1) := by decide +kernel
theorem dX12_smooths_61 : decode cX12_smooths 61 = .ok (.getfield 107, 3) := by decide +kernel
theorem dX12_smooths_64 : decode cX12_smooths 64 = .ok (.iload_n 3, 1) := by decide +kernel
theorem dX12_smooths_65 : decode cX12_smooths 65 = .ok (.iaload, 1) := by decide +kernel
theorem dX12_smooths_66 : decode cX12_smooths 66 = .ok (.aload_n 0, 1) := by decide +kernel
theorem dX12_smooths_67 : decode cX12_smooths 67 = .ok (.getfield 104, 3) := by decide +kernel
theorem dX12_smooths_70 : decode cX12_smooths 70 = .ok (.iload_n 3, 1) := by decide +kernel
theorem dX12_smooths_71 : decode cX12_smooths 71 = .ok (.iaload, 1) := by decide +kernel
theorem dX12_smooths_72 : decode cX12_smooths 72 = .ok (.if_icmp .eq 5, 3) := by decide +kernel
theorem dX12_smooths_75 : decode cX12_smooths 75 = .ok (.iconst 1, 1) := by decide +kernel
theorem dX12_smooths_76 : decode cX12_smooths 76 = .ok (.istore_n 2, 1) := by decide +kernel
theorem dX12_smooths_77 : decode cX12_smooths 77 = .ok (.iinc 3 1, 3) := by decide +kernel
theorem dX12_smooths_80 : decode cX12_smooths 80 = .ok (.goto (-76), 3) := by decide +kernel
theorem dX12_smooths_83 : decode cX12_smooths 83 = .ok (.iconst 0, 1) := by decide +kernel
theorem dX12_smooths_84 : decode cX12_smooths 84 = .ok (.istore_n 3, 1) := by decide +kernel
theorem dX12_smooths_85 : decode cX12_smooths 85 = .ok (.iload_n 3, 1) := by decide +kernel
theorem dX12_smooths_86 : decode cX12_smooths 86 = .ok (.iload_n 1, 1) := by decide +kernel
theorem dX12_smooths_87 : decode cX12_smooths 87 = .ok (.if_icmp .ge 21, 3) := by decide +kernel
theorem dX12_smooths_90 : decode cX12_smooths 90 = .ok (.aload_n 0, 1) := by decide +kernel
theorem dX12_smooths_91 : decode cX12_smooths 91 = .ok (.getfield 104, 3) := by decide +kernel
theorem dX12_smooths_94 : decode cX12_smooths 94 = .ok (.iload_n 3, 1) := by decide +kernel
theorem dX12_smooths_95 : decode cX12_smooths 95 = .ok (.aload_n 0, 1) := by decide +kernel
theorem dX12_smooths_96 : decode cX12_smooths 96 = .ok (.getfield 107, 3) := by decide +kernel
theorem dX12_smooths_99 : decode cX12_smooths 99 = .ok (.iload_n 3, 1) := by decide +kernel
theorem dX12_smooths_100 : decode cX12_smooths 100 = .ok (.iaload, 1) := by decide +kernel
theorem dX12_smooths_101 : decode cX12_smooths 101 = .ok (.iastore, 1) := by decide +kernel
theorem dX12_smooths_102 : decode cX12_smooths 102 = .ok (.iinc 3 1, 3) := by decide +kernel
theorem dX12_smooths_105 : decode cX12_smooths 105 = .ok (.goto (-20), 3) := by decide +kernel
theorem dX12_smooths_108 : decode cX12_smooths 108 = .ok (.iload_n 2, 1) := by decide +kernel
theorem dX12_smooths_109 : decode cX12_smooths 109 = .ok (.ireturn, 1) := by decide +kernel
def f_X12_smooths_n59 (x1 : Int32) (k4 : Gr → Int32 → Int32 → Option (Int32 × Gr)) (S0 : Gr) (x2 : Int32) (x3 : Int32) (w0 : Int32) (w1 : Int32) : Option (Int32 × Gr) := ck' 30 w1 (lt' (sA S0 53 (Int32.toNatClampNeg w1) w0) fun S0_10 => rd' (S0_10.2 53) 30 x3 fun v11 => rd' (S0_10.2 52) 30 x3 fun v12 => if v11 = v12 then (lt' (x3 + 1) fun v14 => k4 S0_10 x2 v14) else (lt' (x3 + 1) fun v15 => k4 S0_10 1 v15))
def f_X12_smooths_n85 (x1 : Int32) : Nat → Gr → Int32 → Int32 → Option (Int32 × Gr)
  | 0, _, _, _ => none
  | n + 1, S0, x2, x3 => if x1 ≤ x3 then (zb' x2 (some (x2, S0))) else (rd' (S0.2 53) 30 x3 fun v17 => ck' 30 x3 (lt' (sA S0 52 (Int32.toNatClampNeg x3) v17) fun S0_18 => lt' (x3 + 1) fun v19 => f_X12_smooths_n85 x1 n S0_18 x2 v19))
def f_X12_smooths_n4 (x1 : Int32) : Nat → Gr → Int32 → Int32 → Option (Int32 × Gr)
  | 0, _, _, _ => none
  | n + 1, S0, x2, x3 => if x1 ≤ x3 then (f_X12_smooths_n85 x1 fu S0 x2 0) else (if x3 = 0 then (rd' (S0.2 52) 30 x3 fun v3 => f_X12_smooths_n59 x1 (f_X12_smooths_n4 x1 n) S0 x2 x3 v3 x3) else (if x3 = (x1 - 1) then (rd' (S0.2 52) 30 x3 fun v9 => f_X12_smooths_n59 x1 (f_X12_smooths_n4 x1 n) S0 x2 x3 v9 x3) else (rd' (S0.2 52) 30 (x3 - 1) fun v5 => rd' (S0.2 52) 30 x3 fun v6 => rd' (S0.2 52) 30 (x3 + 1) fun v7 => (f_X12_middle v5 v6 v7).bind fun u8 => f_X12_smooths_n59 x1 (f_X12_smooths_n4 x1 n) S0 x2 x3 u8 x3)))
def f_X12_smooths (S0 : Gr) (x1 : Int32) : Option (Int32 × Gr) := f_X12_smooths_n4 x1 fu S0 0 0
set_option maxHeartbeats 4000000 in
set_option maxRecDepth 100000 in
theorem c_X12_smooths (l : Launch) (E : Ec) (q0 : Nat → Nat) (sz : Nat) (S0 : Gr) (x1 : Int32) (Rv : Int32 × Gr) (h : f_X12_smooths S0 x1 = some Rv) : Met l yX12_smooths (wsM (.code yX12_smooths cX12_smooths 4 (some .boolean))) ({ frames := 2, cells := 0, slots := 0, locals := 43 } : Room) (va_Pc [.ref (q0 0), .int x1] (ctP E (cw_X12 E q0 S0) sz)) (ctI E (cw_X12 E q0 S0) (cw_X12 E q0 Rv.2) sz Rv.1) 0 0 (va_A (cw_X12 E q0 S0) sz) := by
  refine ct_metI (by decide) (Nat.le_of_ble_eq_true rfl) ?_
  intro p e s m ar below meth c A QM hx hb hml hown hg X hP hD hS RET ls hl
  have hown : s.vm.findClass RX12 = some m.cls := hown
  have hl : lv_has ls 4 [(0, .ref (q0 0)), (1, .int x1)] := hl
  have RT : ∀ (v : Int32) (S0 : Gr) (H : Heap) (locs : List Loc) (ls : Array Slot) (pc : Nat), some (v, S0) = some Rv → narrow .boolean (.int v) = .int v → va_P E.1 vwCl (cw_X12 E q0 S0) H → va_D A (cw_X12 E q0 S0) → va_S A s.heap H locs → decode cX12_smooths pc = .ok (.ireturn, 1) → W p l e ({ frames := 2, cells := 0, slots := 0, locals := 43 } : Room) s m ar below meth c H locs 0 0 QM (F0 m pc ls [.int v]) := by
    intro v S0 H locs ls pc e hn hP hD hS d
    obtain rfl := sm_e e
    exact RET H locs pc ls hn hP hD hS d
  clear RET
  have N59 : ∀ (k4 : Gr → Int32 → Int32 → Option (Int32 × Gr)) (hk4 : ∀ (S0 : Gr) (x2 : Int32) (x3 : Int32) (H : Heap) (locs : List Loc) (ls : Array Slot), k4 S0 x2 x3 = some Rv → va_P E.1 vwCl (cw_X12 E q0 S0) H → va_D A (cw_X12 E q0 S0) → va_S A s.heap H locs → lv_has ls 4 [(0, .ref (q0 0)), (1, .int x1), (2, .int x2), (3, .int x3)] → W p l e ({ frames := 2, cells := 0, slots := 0, locals := 43 } : Room) s m ar below meth c H locs 0 0 QM (F0 m 4 ls [])) (S0 : Gr) (x2 : Int32) (x3 : Int32) (w0 : Int32) (w1 : Int32) (H : Heap) (locs : List Loc) (ls : Array Slot), f_X12_smooths_n59 x1 k4 S0 x2 x3 w0 w1 = some Rv → va_P E.1 vwCl (cw_X12 E q0 S0) H → va_D A (cw_X12 E q0 S0) → va_S A s.heap H locs → lv_has ls 4 [(0, .ref (q0 0)), (1, .int x1), (2, .int x2), (3, .int x3)] → W p l e ({ frames := 2, cells := 0, slots := 0, locals := 43 } : Room) s m ar below meth c H locs 0 0 QM (F0 m 59 ls [.int w0, .int w1, .ref (q0 33)]) := by
    intro k4 hk4 S0 x2 x3 w0 w1 H locs ls h hP hD hS hl
    obtain ⟨hi, h⟩ := ck_el h
    obtain ⟨S0_10, eS, h⟩ := lt_el h
    refine va_iast hx hb X.1 hP hD hS 33 0 rfl rfl hi dX12_smooths_59 (fun H locs hP hD hS => ?_)
    have hP : va_P E.1 vwCl (cw_X12 E q0 S0_10) H := by rw [eS]; exact hP
    have hD : va_D A (cw_X12 E q0 S0_10) := by rw [eS]; exact hD
    clear eS
    refine lv_aload_n hx hb dX12_smooths_60 rfl (lv_at hl 0 rfl) ?_
    refine va_get (D := E.1) (ci := 11) (v := .ref (q0 33)) (C := RX12) (T := TX12) (N := 57) hx hb hg in_X12 hown X.1 hP 0 rfl rfl 53 (by decide) (hg _ wf_X12_107) (fun _ h9 => h9) rfl dX12_smooths_61 ?_
    refine lv_iload_n hx hb dX12_smooths_64 rfl (lv_at hl 3 rfl) ?_
    obtain ⟨hi, v11, ev11, h⟩ := rd_el h
    refine va_iald hx hb X.1 hP 33 0 rfl rfl hi dX12_smooths_65 ?_
    refine lv_top' ev11 ?_
    refine lv_aload_n hx hb dX12_smooths_66 rfl (lv_at hl 0 rfl) ?_
    refine va_get (D := E.1) (ci := 11) (v := .ref (q0 32)) (C := RX12) (T := TX12) (N := 57) hx hb hg in_X12 hown X.1 hP 0 rfl rfl 52 (by decide) (hg _ wf_X12_104) (fun _ h9 => h9) rfl dX12_smooths_67 ?_
    refine lv_iload_n hx hb dX12_smooths_70 rfl (lv_at hl 3 rfl) ?_
    obtain ⟨hi, v12, ev12, h⟩ := rd_el h
    refine va_iald hx hb X.1 hP 32 0 rfl rfl hi dX12_smooths_71 ?_
    refine lv_top' ev12 ?_
    refine lv_icmp_eq (tgt := 77) hx hb dX12_smooths_72 (by decide) (fun c13 => ?_) (fun c13 => ?_)
    · have h := it_t h c13
      obtain ⟨v14, ev14, h⟩ := lt_el h
      refine lv_iinc (v := v14) (lv' := [(3, .int v14), (0, .ref (q0 0)), (1, .int x1), (2, .int x2)]) hx hb dX12_smooths_77 hl (k := 3) rfl (by rw [ev14]; rfl) (by decide) rfl (fun ls hl => ?_)
      refine lv_goto (tgt := 4) hx hb dX12_smooths_80 (by decide) ?_
      exact hk4 S0_10 x2 v14 _ _ _ h hP hD hS (lv_sub hl [1, 2, 3, 0] rfl)
    · have h := it_f h c13
      refine lv_iconst (v := 1) hx hb dX12_smooths_75 (by decide) ?_
      refine lv_istore_n (lv' := [(2, .int 1), (0, .ref (q0 0)), (1, .int x1), (3, .int x3)]) hx hb dX12_smooths_76 rfl hl (by decide) rfl (fun ls hl => ?_)
      obtain ⟨v15, ev15, h⟩ := lt_el h
      refine lv_iinc (v := v15) (lv' := [(3, .int v15), (2, .int 1), (0, .ref (q0 0)), (1, .int x1)]) hx hb dX12_smooths_77 hl (k := 3) rfl (by rw [ev15]; rfl) (by decide) rfl (fun ls hl => ?_)
      refine lv_goto (tgt := 4) hx hb dX12_smooths_80 (by decide) ?_
      exact hk4 S0_10 1 v15 _ _ _ h hP hD hS (lv_sub hl [2, 3, 1, 0] rfl)
  have N85 : ∀ (n : Nat) (S0 : Gr) (x2 : Int32) (x3 : Int32) (H : Heap) (locs : List Loc) (ls : Array Slot), f_X12_smooths_n85 x1 n S0 x2 x3 = some Rv → va_P E.1 vwCl (cw_X12 E q0 S0) H → va_D A (cw_X12 E q0 S0) → va_S A s.heap H locs → lv_has ls 4 [(0, .ref (q0 0)), (1, .int x1), (2, .int x2), (3, .int x3)] → W p l e ({ frames := 2, cells := 0, slots := 0, locals := 43 } : Room) s m ar below meth c H locs 0 0 QM (F0 m 85 ls []) := by
    intro n
    induction n with
    | zero => intro S0 x2 x3 H locs ls h; exact nn_el h
    | succ n ih =>
      intro S0 x2 x3 H locs ls h hP hD hS hl
      refine lv_iload_n hx hb dX12_smooths_85 rfl (lv_at hl 3 rfl) ?_
      refine lv_iload_n hx hb dX12_smooths_86 rfl (lv_at hl 1 rfl) ?_
      refine lv_icmp_ge (tgt := 108) hx hb dX12_smooths_87 (by decide) (fun c16 => ?_) (fun c16 => ?_)
      · have h := it_t h c16
        refine lv_iload_n hx hb dX12_smooths_108 rfl (lv_at hl 2 rfl) ?_
        obtain ⟨hn1, -, h⟩ := zb_el h
        exact RT x2 S0 _ _ _ _ h hn1 hP hD hS dX12_smooths_109
      · have h := it_f h c16
        refine lv_aload_n hx hb dX12_smooths_90 rfl (lv_at hl 0 rfl) ?_
        refine va_get (D := E.1) (ci := 11) (v := .ref (q0 32)) (C := RX12) (T := TX12) (N := 57) hx hb hg in_X12 hown X.1 hP 0 rfl rfl 52 (by decide) (hg _ wf_X12_104) (fun _ h9 => h9) rfl dX12_smooths_91 ?_
        refine lv_iload_n hx hb dX12_smooths_94 rfl (lv_at hl 3 rfl) ?_
        refine lv_aload_n hx hb dX12_smooths_95 rfl (lv_at hl 0 rfl) ?_
        refine va_get (D := E.1) (ci := 11) (v := .ref (q0 33)) (C := RX12) (T := TX12) (N := 57) hx hb hg in_X12 hown X.1 hP 0 rfl rfl 53 (by decide) (hg _ wf_X12_107) (fun _ h9 => h9) rfl dX12_smooths_96 ?_
        refine lv_iload_n hx hb dX12_smooths_99 rfl (lv_at hl 3 rfl) ?_
        obtain ⟨hi, v17, ev17, h⟩ := rd_el h
        refine va_iald hx hb X.1 hP 33 0 rfl rfl hi dX12_smooths_100 ?_
        refine lv_top' ev17 ?_
        obtain ⟨hi, h⟩ := ck_el h
        obtain ⟨S0_18, eS, h⟩ := lt_el h
        refine va_iast hx hb X.1 hP hD hS 32 0 rfl rfl hi dX12_smooths_101 (fun H locs hP hD hS => ?_)
        have hP : va_P E.1 vwCl (cw_X12 E q0 S0_18) H := by rw [eS]; exact hP
        have hD : va_D A (cw_X12 E q0 S0_18) := by rw [eS]; exact hD
        clear eS
        obtain ⟨v19, ev19, h⟩ := lt_el h
        refine lv_iinc (v := v19) (lv' := [(3, .int v19), (0, .ref (q0 0)), (1, .int x1), (2, .int x2)]) hx hb dX12_smooths_102 hl (k := 3) rfl (by rw [ev19]; rfl) (by decide) rfl (fun ls hl => ?_)
        refine lv_goto (tgt := 85) hx hb dX12_smooths_105 (by decide) ?_
        exact ih S0_18 x2 v19 _ _ _ h hP hD hS (lv_sub hl [1, 2, 3, 0] rfl)
  have N4 : ∀ (n : Nat) (S0 : Gr) (x2 : Int32) (x3 : Int32) (H : Heap) (locs : List Loc) (ls : Array Slot), f_X12_smooths_n4 x1 n S0 x2 x3 = some Rv → va_P E.1 vwCl (cw_X12 E q0 S0) H → va_D A (cw_X12 E q0 S0) → va_S A s.heap H locs → lv_has ls 4 [(0, .ref (q0 0)), (1, .int x1), (2, .int x2), (3, .int x3)] → W p l e ({ frames := 2, cells := 0, slots := 0, locals := 43 } : Room) s m ar below meth c H locs 0 0 QM (F0 m 4 ls []) := by
    intro n
    induction n with
    | zero => intro S0 x2 x3 H locs ls h; exact nn_el h
    | succ n ih =>
      intro S0 x2 x3 H locs ls h hP hD hS hl
      refine lv_iload_n hx hb dX12_smooths_4 rfl (lv_at hl 3 rfl) ?_
      refine lv_iload_n hx hb dX12_smooths_5 rfl (lv_at hl 1 rfl) ?_
      refine lv_icmp_ge (tgt := 83) hx hb dX12_smooths_6 (by decide) (fun c1 => ?_) (fun c1 => ?_)
      · have h := it_t h c1
        refine lv_iconst (v := 0) hx hb dX12_smooths_83 (by decide) ?_
        refine lv_istore_n (lv' := [(3, .int 0), (0, .ref (q0 0)), (1, .int x1), (2, .int x2)]) hx hb dX12_smooths_84 rfl hl (by decide) rfl (fun ls hl => ?_)
        exact N85 fu S0 x2 0 _ _ _ h hP hD hS (lv_sub hl [1, 2, 3, 0] rfl)
      · have h := it_f h c1
        refine lv_aload_n hx hb dX12_smooths_9 rfl (lv_at hl 0 rfl) ?_
        refine va_get (D := E.1) (ci := 11) (v := .ref (q0 33)) (C := RX12) (T := TX12) (N := 57) hx hb hg in_X12 hown X.1 hP 0 rfl rfl 53 (by decide) (hg _ wf_X12_107) (fun _ h9 => h9) rfl dX12_smooths_10 ?_
        refine lv_iload_n hx hb dX12_smooths_13 rfl (lv_at hl 3 rfl) ?_
        refine lv_iload_n hx hb dX12_smooths_14 rfl (lv_at hl 3 rfl) ?_
        refine lv_if_eq (tgt := 25) hx hb dX12_smooths_15 (by decide) (fun c2 => ?_) (fun c2 => ?_)
        · have h := it_t h c2
          refine lv_aload_n hx hb dX12_smooths_25 rfl (lv_at hl 0 rfl) ?_
          refine va_get (D := E.1) (ci := 11) (v := .ref (q0 32)) (C := RX12) (T := TX12) (N := 57) hx hb hg in_X12 hown X.1 hP 0 rfl rfl 52 (by decide) (hg _ wf_X12_104) (fun _ h9 => h9) rfl dX12_smooths_26 ?_
          refine lv_iload_n hx hb dX12_smooths_29 rfl (lv_at hl 3 rfl) ?_
          obtain ⟨hi, v3, ev3, h⟩ := rd_el h
          refine va_iald hx hb X.1 hP 32 0 rfl rfl hi dX12_smooths_30 ?_
          refine lv_top' ev3 ?_
          refine lv_goto (tgt := 59) hx hb dX12_smooths_31 (by decide) ?_
          exact N59 (f_X12_smooths_n4 x1 n) ih S0 x2 x3 v3 x3 _ _ _ h hP hD hS (lv_sub hl [0, 1, 2, 3] rfl)
        · have h := it_f h c2
          refine lv_iload_n hx hb dX12_smooths_18 rfl (lv_at hl 3 rfl) ?_
          refine lv_iload_n hx hb dX12_smooths_19 rfl (lv_at hl 1 rfl) ?_
          refine lv_iconst (v := 1) hx hb dX12_smooths_20 (by decide) ?_
          refine lv_isub hx hb dX12_smooths_21 ?_
          refine lv_icmp_ne (tgt := 34) hx hb dX12_smooths_22 (by decide) (fun c4 => ?_) (fun c4 => ?_)
          · have h := it_f h c4
            refine lv_aload_n hx hb dX12_smooths_34 rfl (lv_at hl 0 rfl) ?_
            refine va_get (D := E.1) (ci := 11) (v := .ref (q0 32)) (C := RX12) (T := TX12) (N := 57) hx hb hg in_X12 hown X.1 hP 0 rfl rfl 52 (by decide) (hg _ wf_X12_104) (fun _ h9 => h9) rfl dX12_smooths_35 ?_
            refine lv_iload_n hx hb dX12_smooths_38 rfl (lv_at hl 3 rfl) ?_
            refine lv_iconst (v := 1) hx hb dX12_smooths_39 (by decide) ?_
            refine lv_isub hx hb dX12_smooths_40 ?_
            obtain ⟨hi, v5, ev5, h⟩ := rd_el h
            refine va_iald hx hb X.1 hP 32 0 rfl rfl hi dX12_smooths_41 ?_
            refine lv_top' ev5 ?_
            refine lv_aload_n hx hb dX12_smooths_42 rfl (lv_at hl 0 rfl) ?_
            refine va_get (D := E.1) (ci := 11) (v := .ref (q0 32)) (C := RX12) (T := TX12) (N := 57) hx hb hg in_X12 hown X.1 hP 0 rfl rfl 52 (by decide) (hg _ wf_X12_104) (fun _ h9 => h9) rfl dX12_smooths_43 ?_
            refine lv_iload_n hx hb dX12_smooths_46 rfl (lv_at hl 3 rfl) ?_
            obtain ⟨hi, v6, ev6, h⟩ := rd_el h
            refine va_iald hx hb X.1 hP 32 0 rfl rfl hi dX12_smooths_47 ?_
            refine lv_top' ev6 ?_
            refine lv_aload_n hx hb dX12_smooths_48 rfl (lv_at hl 0 rfl) ?_
            refine va_get (D := E.1) (ci := 11) (v := .ref (q0 32)) (C := RX12) (T := TX12) (N := 57) hx hb hg in_X12 hown X.1 hP 0 rfl rfl 52 (by decide) (hg _ wf_X12_104) (fun _ h9 => h9) rfl dX12_smooths_49 ?_
            refine lv_iload_n hx hb dX12_smooths_52 rfl (lv_at hl 3 rfl) ?_
            refine lv_iconst (v := 1) hx hb dX12_smooths_53 (by decide) ?_
            refine lv_iadd hx hb dX12_smooths_54 ?_
            obtain ⟨hi, v7, ev7, h⟩ := rd_el h
            refine va_iald hx hb X.1 hP 32 0 rfl rfl hi dX12_smooths_55 ?_
            refine lv_top' ev7 ?_
            obtain ⟨u8, hc, h⟩ := bd_el h
            refine ct_iN X hP hD hS (va_runS (As := [.int v5, .int v6, .int v7]) (rest := [.int x3, .ref (q0 33)]) ⟨hx, hb, hml, hown, hg⟩ (c_X12_middle l E  H.size v5 v6 v7 u8 hc) (va_cwS 3 hg (gwS wm_X12_412 wst_X12_middle wini_X12 wco_X12_middle) rfl rfl rfl (by decide +kernel) ⟨Nat.le_of_ble_eq_true rfl, Nat.le_of_ble_eq_true rfl⟩) ⟨ct_blind, ct_preN X hS _⟩ rfl rfl hl.1 rfl (lv_room (Nat.le_of_ble_eq_true rfl)) dX12_smooths_56 ⟨Nat.zero_le _, Nat.zero_le _⟩) (fun H locs hP hD hS => ?_)
            exact N59 (f_X12_smooths_n4 x1 n) ih S0 x2 x3 u8 x3 _ _ _ h hP hD hS (lv_sub hl [0, 1, 2, 3] rfl)
          · have h := it_t h c4
            refine lv_aload_n hx hb dX12_smooths_25 rfl (lv_at hl 0 rfl) ?_
            refine va_get (D := E.1) (ci := 11) (v := .ref (q0 32)) (C := RX12) (T := TX12) (N := 57) hx hb hg in_X12 hown X.1 hP 0 rfl rfl 52 (by decide) (hg _ wf_X12_104) (fun _ h9 => h9) rfl dX12_smooths_26 ?_
            refine lv_iload_n hx hb dX12_smooths_29 rfl (lv_at hl 3 rfl) ?_
            obtain ⟨hi, v9, ev9, h⟩ := rd_el h
            refine va_iald hx hb X.1 hP 32 0 rfl rfl hi dX12_smooths_30 ?_
            refine lv_top' ev9 ?_
            refine lv_goto (tgt := 59) hx hb dX12_smooths_31 (by decide) ?_
            exact N59 (f_X12_smooths_n4 x1 n) ih S0 x2 x3 v9 x3 _ _ _ h hP hD hS (lv_sub hl [0, 1, 2, 3] rfl)
  obtain ⟨H, eH⟩ : ∃ z, z = s.heap := ⟨_, rfl⟩
  rw [← eH]
  have hP : va_P E.1 vwCl (cw_X12 E q0 S0) H := by rw [eH]; exact hP
  have hS : va_S A s.heap H [] := by rw [eH]; exact hS
  clear eH
  obtain ⟨locs, el⟩ : ∃ z : List Loc, z = [] := ⟨_, rfl⟩
  rw [← el] at hS ⊢
  clear el
  refine lv_iconst (v := 0) hx hb dX12_smooths_0 (by decide) ?_
  refine lv_istore_n (lv' := [(2, .int 0), (0, .ref (q0 0)), (1, .int x1)]) hx hb dX12_smooths_1 rfl hl (by decide) rfl (fun ls hl => ?_)
  refine lv_iconst (v := 0) hx hb dX12_smooths_2 (by decide) ?_
  refine lv_istore_n (lv' := [(3, .int 0), (2, .int 0), (0, .ref (q0 0)), (1, .int x1)]) hx hb dX12_smooths_3 rfl hl (by decide) rfl (fun ls hl => ?_)
  exact N4 fu S0 0 0 _ _ _ h hP hD hS (lv_sub hl [2, 3, 1, 0] rfl)
theorem dX12_smoothed_0 : decode cX12_smoothed 0 = .ok (.iload_n 1, 1) := by decide +kernel
theorem dX12_smoothed_1 : decode cX12_smoothed 1 = .ok (.iconst 3, 1) := by decide +kernel
theorem dX12_smoothed_2 : decode cX12_smoothed 2 = .ok (.bipush 30, 2) := by decide +kernel
theorem dX12_smoothed_4 : decode cX12_smoothed 4 = .ok (.invokestatic 110, 3) := by decide +kernel
theorem dX12_smoothed_7 : decode cX12_smoothed 7 = .ok (.ifCond .eq 20, 3) := by decide +kernel
theorem dX12_smoothed_10 : decode cX12_smoothed 10 = .ok (.iload_n 2, 1) := by decide +kernel
theorem dX12_smoothed_11 : decode cX12_smoothed 11 = .ok (.iconst 0, 1) := by decide +kernel
theorem dX12_smoothed_12 : decode cX12_smoothed 12 = .ok (.iconst 1, 1) := by decide +kernel
theorem dX12_smoothed_13 : decode cX12_smoothed 13 = .ok (.invokestatic 110, 3) := by decide +kernel
theorem dX12_smoothed_16 : decode cX12_smoothed 16 = .ok (.ifCond .eq 11, 3) := by decide +kernel
theorem dX12_smoothed_19 : decode cX12_smoothed 19 = .ok (.iload_n 1, 1) := by decide +kernel
theorem dX12_smoothed_20 : decode cX12_smoothed 20 = .ok (.aload_n 0, 1) := by decide +kernel
theorem dX12_smoothed_21 : decode cX12_smoothed 21 = .ok (.getfield 143, 3) := by decide +kernel
theorem dX12_smoothed_24 : decode cX12_smoothed 24 = .ok (.if_icmp .le 5, 3) := by decide +kernel
theorem dX12_smoothed_27 : decode cX12_smoothed 27 = .ok (.iconst (-1), 1) := by decide +kernel
theorem dX12_smoothed_28 : decode cX12_smoothed 28 = .ok (.ireturn, 1) := by decide +kernel
theorem dX12_smoothed_29 : decode cX12_smoothed 29 = .ok (.aload_n 0, 1) := by decide +kernel
theorem dX12_smoothed_30 : decode cX12_smoothed 30 = .ok (.iconst 0, 1) := by decide +kernel
theorem dX12_smoothed_31 : decode cX12_smoothed 31 = .ok (.putfield 143, 3) := by decide +kernel
theorem dX12_smoothed_34 : decode cX12_smoothed 34 = .ok (.iconst 0, 1) := by decide +kernel
theorem dX12_smoothed_35 : decode cX12_smoothed 35 = .ok (.istore_n 3, 1) := by decide +kernel
theorem dX12_smoothed_36 : decode cX12_smoothed 36 = .ok (.iload_n 3, 1) := by decide +kernel
theorem dX12_smoothed_37 : decode cX12_smoothed 37 = .ok (.iload_n 1, 1) := by decide +kernel
theorem dX12_smoothed_38 : decode cX12_smoothed 38 = .ok (.if_icmp .ge 20, 3) := by decide +kernel
theorem dX12_smoothed_41 : decode cX12_smoothed 41 = .ok (.aload_n 0, 1) := by decide +kernel
theorem dX12_smoothed_42 : decode cX12_smoothed 42 = .ok (.getfield 104, 3) := by decide +kernel
theorem dX12_smoothed_45 : decode cX12_smoothed 45 = .ok (.iload_n 3, 1) := by decide +kernel
theorem dX12_smoothed_46 : decode cX12_smoothed 46 = .ok (.aload_n 0, 1) := by decide +kernel
theorem dX12_smoothed_47 : decode cX12_smoothed 47 = .ok (.iload_n 3, 1) := by decide +kernel
theorem dX12_smoothed_48 : decode cX12_smoothed 48 = .ok (.invokevirtual 351, 3) := by decide +kernel
theorem dX12_smoothed_51 : decode cX12_smoothed 51 = .ok (.iastore, 1) := by decide +kernel
theorem dX12_smoothed_52 : decode cX12_smoothed 52 = .ok (.iinc 3 1, 3) := by decide +kernel
theorem dX12_smoothed_55 : decode cX12_smoothed 55 = .ok (.goto (-19), 3) := by decide +kernel
theorem dX12_smoothed_58 : decode cX12_smoothed 58 = .ok (.iconst 0, 1) := by decide +kernel
theorem dX12_smoothed_59 : decode cX12_smoothed 59 = .ok (.istore_n 3, 1) := by decide +kernel
theorem dX12_smoothed_60 : decode cX12_smoothed 60 = .ok (.aload_n 0, 1) := by decide +kernel
theorem dX12_smoothed_61 : decode cX12_smoothed 61 = .ok (.iload_n 1, 1) := by decide +kernel
theorem dX12_smoothed_62 : decode cX12_smoothed 62 = .ok (.invokevirtual 415, 3) := by decide +kernel
theorem dX12_smoothed_65 : decode cX12_smoothed 65 = .ok (.ifCond .eq 10, 3) := by decide +kernel
theorem dX12_smoothed_68 : decode cX12_smoothed 68 = .ok (.iload_n 3, 1) := by decide +kernel
theorem dX12_smoothed_69 : decode cX12_smoothed 69 = .ok (.iconst 1, 1) := by decide +kernel
theorem dX12_smoothed_70 : decode cX12_smoothed 70 = .ok (.iadd, 1) := by decide +kernel
theorem dX12_smoothed_71 : decode cX12_smoothed 71 = .ok (.istore_n 3, 1) := by decide +kernel
theorem dX12_smoothed_72 : decode cX12_smoothed 72 = .ok (.goto (-12), 3) := by decide +kernel
theorem dX12_smoothed_75 : decode cX12_smoothed 75 = .ok (.iconst 0, 1) := by decide +kernel
theorem dX12_smoothed_76 : decode cX12_smoothed 76 = .ok (.istore 4, 2) := by decide +kernel
theorem dX12_smoothed_78 : decode cX12_smoothed 78 = .ok (.iconst 0, 1) := by decide +kernel
theorem dX12_smoothed_79 : decode cX12_smoothed 79 = .ok (.istore 5, 2) := by decide +kernel
theorem dX12_smoothed_81 : decode cX12_smoothed 81 = .ok (.iload 5, 2) := by decide +kernel
theorem dX12_smoothed_83 : decode cX12_smoothed 83 = .ok (.iload_n 1, 1) := by decide +kernel
theorem dX12_smoothed_84 : decode cX12_smoothed 84 = .ok (.if_icmp .ge 21, 3) := by decide +kernel
theorem dX12_smoothed_87 : decode cX12_smoothed 87 = .ok (.iload 4, 2) := by decide +kernel
theorem dX12_smoothed_89 : decode cX12_smoothed 89 = .ok (.aload_n 0, 1) := by decide +kernel
theorem dX12_smoothed_90 : decode cX12_smoothed 90 = .ok (.getfield 104, 3) := by decide +kernel
theorem dX12_smoothed_93 : decode cX12_smoothed 93 = .ok (.iload 5, 2) := by decide +kernel
theorem dX12_smoothed_95 : decode cX12_smoothed 95 = .ok (.iaload, 1) := by decide +kernel
theorem dX12_smoothed_96 : decode cX12_smoothed 96 = .ok (.iadd, 1) := by decide +kernel
theorem dX12_smoothed_97 : decode cX12_smoothed 97 = .ok (.istore 4, 2) := by decide +kernel
theorem dX12_smoothed_99 : decode cX12_smoothed 99 = .ok (.iinc 5 1, 3) := by decide +kernel
theorem dX12_smoothed_102 : decode cX12_smoothed 102 = .ok (.goto (-21), 3) := by decide +kernel
theorem dX12_smoothed_105 : decode cX12_smoothed 105 = .ok (.iload_n 2, 1) := by decide +kernel
theorem dX12_smoothed_106 : decode cX12_smoothed 106 = .ok (.ifCond .ne 7, 3) := by decide +kernel
theorem dX12_smoothed_109 : decode cX12_smoothed 109 = .ok (.iload_n 3, 1) := by decide +kernel
theorem dX12_smoothed_110 : decode cX12_smoothed 110 = .ok (.goto 5, 3) := by decide +kernel
theorem dX12_smoothed_113 : decode cX12_smoothed 113 = .ok (.iload 4, 2) := by decide +kernel
theorem dX12_smoothed_115 : decode cX12_smoothed 115 = .ok (.ireturn, 1) := by decide +kernel
def f_X12_smoothed_n81 (x1 : Int32) (x2 : Int32) : Nat → Gr → Int32 → Int32 → Int32 → Option (Int32 × Gr)
  | 0, _, _, _, _ => none
  | n + 1, S0, x3, x4, x5 => if x1 ≤ x5 then (if x2 = 0 then (some (x3, S0)) else (some (x4, S0))) else (rd' (S0.2 52) 30 x5 fun v16 => lt' ((x4 + v16)) fun v17 => lt' (x5 + 1) fun v18 => f_X12_smoothed_n81 x1 x2 n S0 x3 v17 v18)
def f_X12_smoothed_n60 (x1 : Int32) (x2 : Int32) : Nat → Gr → Int32 → Option (Int32 × Gr)
  | 0, _, _ => none
  | n + 1, S0, x3 => (f_X12_smooths S0 x1).bind fun u11 => if u11.1 = 0 then (f_X12_smoothed_n81 x1 x2 fu u11.2 x3 0 0) else (lt' ((x3 + 1)) fun v13 => f_X12_smoothed_n60 x1 x2 n u11.2 v13)
def f_X12_smoothed_n36 (x1 : Int32) (x2 : Int32) : Nat → Gr → Int32 → Option (Int32 × Gr)
  | 0, _, _ => none
  | n + 1, S0, x3 => if x1 ≤ x3 then (f_X12_smoothed_n60 x1 x2 fu S0 0) else ((f_X12_octet S0 x3).bind fun u8 => ck' 30 x3 (lt' (sA S0 52 (Int32.toNatClampNeg x3) u8) fun S0_9 => lt' (x3 + 1) fun v10 => f_X12_smoothed_n36 x1 x2 n S0_9 v10))
def f_X12_smoothed (S0 : Gr) (x1 : Int32) (x2 : Int32) : Option (Int32 × Gr) := (f_X12_in x1 3 30).bind fun u1 => if u1 = 0 then (some ((-1), S0)) else ((f_X12_in x2 0 1).bind fun u3 => if u3 = 0 then (some ((-1), S0)) else (if x1 ≤ (S0.1 8) then (lt' (sI S0 8 0) fun S0_6 => f_X12_smoothed_n36 x1 x2 fu S0_6 0) else (some ((-1), S0))))
set_option maxHeartbeats 4000000 in
set_option maxRecDepth 100000 in
theorem c_X12_smoothed (l : Launch) (E : Ec) (q0 : Nat → Nat) (sz : Nat) (S0 : Gr) (x1 : Int32) (x2 : Int32) (Rv : Int32 × Gr) (h : f_X12_smoothed S0 x1 x2 = some Rv) : Met l yX12_smoothed (wsM (.code yX12_smoothed cX12_smoothed 6 (some .int))) ({ frames := 3, cells := 0, slots := 0, locals := 66 } : Room) (va_Pc [.ref (q0 0), .int x1, .int x2] (ctP E (cw_X12 E q0 S0) sz)) (ctI E (cw_X12 E q0 S0) (cw_X12 E q0 Rv.2) sz Rv.1) 0 0 (va_A (cw_X12 E q0 S0) sz) := by
  refine ct_metI (by decide) (Nat.le_of_ble_eq_true rfl) ?_
  intro p e s m ar below meth c A QM hx hb hml hown hg X hP hD hS RET ls hl
  have hown : s.vm.findClass RX12 = some m.cls := hown
  have hl : lv_has ls 6 [(0, .ref (q0 0)), (1, .int x1), (2, .int x2)] := hl
  have RT : ∀ (v : Int32) (S0 : Gr) (H : Heap) (locs : List Loc) (ls : Array Slot) (pc : Nat), some (v, S0) = some Rv → narrow .int (.int v) = .int v → va_P E.1 vwCl (cw_X12 E q0 S0) H → va_D A (cw_X12 E q0 S0) → va_S A s.heap H locs → decode cX12_smoothed pc = .ok (.ireturn, 1) → W p l e ({ frames := 3, cells := 0, slots := 0, locals := 66 } : Room) s m ar below meth c H locs 0 0 QM (F0 m pc ls [.int v]) := by
    intro v S0 H locs ls pc e hn hP hD hS d
    obtain rfl := sm_e e
    exact RET H locs pc ls hn hP hD hS d
  clear RET
  have N81 : ∀ (n : Nat) (S0 : Gr) (x3 : Int32) (x4 : Int32) (x5 : Int32) (H : Heap) (locs : List Loc) (ls : Array Slot), f_X12_smoothed_n81 x1 x2 n S0 x3 x4 x5 = some Rv → va_P E.1 vwCl (cw_X12 E q0 S0) H → va_D A (cw_X12 E q0 S0) → va_S A s.heap H locs → lv_has ls 6 [(0, .ref (q0 0)), (1, .int x1), (2, .int x2), (3, .int x3), (4, .int x4), (5, .int x5)] → W p l e ({ frames := 3, cells := 0, slots := 0, locals := 66 } : Room) s m ar below meth c H locs 0 0 QM (F0 m 81 ls []) := by
    intro n
    induction n with
    | zero => intro S0 x3 x4 x5 H locs ls h; exact nn_el h
    | succ n ih =>
      intro S0 x3 x4 x5 H locs ls h hP hD hS hl
      refine lv_iload hx hb dX12_smoothed_81 (lv_at hl 5 rfl) ?_
      refine lv_iload_n hx hb dX12_smoothed_83 rfl (lv_at hl 1 rfl) ?_
      refine lv_icmp_ge (tgt := 105) hx hb dX12_smoothed_84 (by decide) (fun c14 => ?_) (fun c14 => ?_)
      · have h := it_t h c14
        refine lv_iload_n hx hb dX12_smoothed_105 rfl (lv_at hl 2 rfl) ?_
        refine lv_if_ne (tgt := 113) hx hb dX12_smoothed_106 (by decide) (fun c15 => ?_) (fun c15 => ?_)
        · have h := it_f h c15
          refine lv_iload hx hb dX12_smoothed_113 (lv_at hl 4 rfl) ?_
          exact RT x4 S0 _ _ _ _ h rfl hP hD hS dX12_smoothed_115
        · have h := it_t h c15
          refine lv_iload_n hx hb dX12_smoothed_109 rfl (lv_at hl 3 rfl) ?_
          refine lv_goto (tgt := 115) hx hb dX12_smoothed_110 (by decide) ?_
          exact RT x3 S0 _ _ _ _ h rfl hP hD hS dX12_smoothed_115
      · have h := it_f h c14
        refine lv_iload hx hb dX12_smoothed_87 (lv_at hl 4 rfl) ?_
        refine lv_aload_n hx hb dX12_smoothed_89 rfl (lv_at hl 0 rfl) ?_
        refine va_get (D := E.1) (ci := 11) (v := .ref (q0 32)) (C := RX12) (T := TX12) (N := 57) hx hb hg in_X12 hown X.1 hP 0 rfl rfl 52 (by decide) (hg _ wf_X12_104) (fun _ h9 => h9) rfl dX12_smoothed_90 ?_
        refine lv_iload hx hb dX12_smoothed_93 (lv_at hl 5 rfl) ?_
        obtain ⟨hi, v16, ev16, h⟩ := rd_el h
        refine va_iald hx hb X.1 hP 32 0 rfl rfl hi dX12_smoothed_95 ?_
        refine lv_top' ev16 ?_
        refine lv_iadd hx hb dX12_smoothed_96 ?_
        obtain ⟨v17, ev17, h⟩ := lt_el h
        refine lv_top' ev17 ?_
        refine lv_istore (lv' := [(4, .int v17), (0, .ref (q0 0)), (1, .int x1), (2, .int x2), (3, .int x3), (5, .int x5)]) hx hb dX12_smoothed_97 hl (by decide) rfl (fun ls hl => ?_)
        obtain ⟨v18, ev18, h⟩ := lt_el h
        refine lv_iinc (v := v18) (lv' := [(5, .int v18), (4, .int v17), (0, .ref (q0 0)), (1, .int x1), (2, .int x2), (3, .int x3)]) hx hb dX12_smoothed_99 hl (k := 5) rfl (by rw [ev18]; rfl) (by decide) rfl (fun ls hl => ?_)
        refine lv_goto (tgt := 81) hx hb dX12_smoothed_102 (by decide) ?_
        exact ih S0 x3 v17 v18 _ _ _ h hP hD hS (lv_sub hl [2, 3, 4, 5, 1, 0] rfl)
  have N60 : ∀ (n : Nat) (S0 : Gr) (x3 : Int32) (H : Heap) (locs : List Loc) (ls : Array Slot), f_X12_smoothed_n60 x1 x2 n S0 x3 = some Rv → va_P E.1 vwCl (cw_X12 E q0 S0) H → va_D A (cw_X12 E q0 S0) → va_S A s.heap H locs → lv_has ls 6 [(0, .ref (q0 0)), (1, .int x1), (2, .int x2), (3, .int x3)] → W p l e ({ frames := 3, cells := 0, slots := 0, locals := 66 } : Room) s m ar below meth c H locs 0 0 QM (F0 m 60 ls []) := by
    intro n
    induction n with
    | zero => intro S0 x3 H locs ls h; exact nn_el h
    | succ n ih =>
      intro S0 x3 H locs ls h hP hD hS hl
      refine lv_aload_n hx hb dX12_smoothed_60 rfl (lv_at hl 0 rfl) ?_
      refine lv_iload_n hx hb dX12_smoothed_61 rfl (lv_at hl 1 rfl) ?_
      obtain ⟨u11, hc, h⟩ := bd_el h
      refine ct_iA (w1 := cw_X12 E q0 u11.2) X hP hD hS (va_runV (C := RX12) (As := [.int x1]) (rest := []) ⟨hx, hb, hml, hown, hg⟩ (c_X12_smooths l E q0 H.size S0 x1 u11 hc) (cwV 1 hg (gwV wm_X12_415 wi_X12_smooths wsl_X12_smooths wini_X12 wco_X12_smooths) rfl rfl rfl (by decide +kernel) ⟨Nat.le_of_ble_eq_true rfl, Nat.le_of_ble_eq_true rfl⟩) ⟨ct_blind, ct_rv X.1 hP 0 rfl rfl, ct_preA X hP hD hS _⟩ rfl rfl hl.1 rfl (lv_room (Nat.le_of_ble_eq_true rfl)) dX12_smoothed_62 ⟨Nat.zero_le _, Nat.zero_le _⟩) (fun H locs hP hD hS => ?_)
      refine lv_if_eq (tgt := 75) hx hb dX12_smoothed_65 (by decide) (fun c12 => ?_) (fun c12 => ?_)
      · have h := it_t h c12
        refine lv_iconst (v := 0) hx hb dX12_smoothed_75 (by decide) ?_
        refine lv_istore (lv' := [(4, .int 0), (0, .ref (q0 0)), (1, .int x1), (2, .int x2), (3, .int x3)]) hx hb dX12_smoothed_76 hl (by decide) rfl (fun ls hl => ?_)
        refine lv_iconst (v := 0) hx hb dX12_smoothed_78 (by decide) ?_
        refine lv_istore (lv' := [(5, .int 0), (4, .int 0), (0, .ref (q0 0)), (1, .int x1), (2, .int x2), (3, .int x3)]) hx hb dX12_smoothed_79 hl (by decide) rfl (fun ls hl => ?_)
        exact N81 fu u11.2 x3 0 0 _ _ _ h hP hD hS (lv_sub hl [2, 3, 4, 5, 1, 0] rfl)
      · have h := it_f h c12
        refine lv_iload_n hx hb dX12_smoothed_68 rfl (lv_at hl 3 rfl) ?_
        refine lv_iconst (v := 1) hx hb dX12_smoothed_69 (by decide) ?_
        refine lv_iadd hx hb dX12_smoothed_70 ?_
        obtain ⟨v13, ev13, h⟩ := lt_el h
        refine lv_top' ev13 ?_
        refine lv_istore_n (lv' := [(3, .int v13), (0, .ref (q0 0)), (1, .int x1), (2, .int x2)]) hx hb dX12_smoothed_71 rfl hl (by decide) rfl (fun ls hl => ?_)
        refine lv_goto (tgt := 60) hx hb dX12_smoothed_72 (by decide) ?_
        exact ih u11.2 v13 _ _ _ h hP hD hS (lv_sub hl [1, 2, 3, 0] rfl)
  have N36 : ∀ (n : Nat) (S0 : Gr) (x3 : Int32) (H : Heap) (locs : List Loc) (ls : Array Slot), f_X12_smoothed_n36 x1 x2 n S0 x3 = some Rv → va_P E.1 vwCl (cw_X12 E q0 S0) H → va_D A (cw_X12 E q0 S0) → va_S A s.heap H locs → lv_has ls 6 [(0, .ref (q0 0)), (1, .int x1), (2, .int x2), (3, .int x3)] → W p l e ({ frames := 3, cells := 0, slots := 0, locals := 66 } : Room) s m ar below meth c H locs 0 0 QM (F0 m 36 ls []) := by
    intro n
    induction n with
    | zero => intro S0 x3 H locs ls h; exact nn_el h
    | succ n ih =>
      intro S0 x3 H locs ls h hP hD hS hl
      refine lv_iload_n hx hb dX12_smoothed_36 rfl (lv_at hl 3 rfl) ?_
      refine lv_iload_n hx hb dX12_smoothed_37 rfl (lv_at hl 1 rfl) ?_
      refine lv_icmp_ge (tgt := 58) hx hb dX12_smoothed_38 (by decide) (fun c7 => ?_) (fun c7 => ?_)
      · have h := it_t h c7
        refine lv_iconst (v := 0) hx hb dX12_smoothed_58 (by decide) ?_
        refine lv_istore_n (lv' := [(3, .int 0), (0, .ref (q0 0)), (1, .int x1), (2, .int x2)]) hx hb dX12_smoothed_59 rfl hl (by decide) rfl (fun ls hl => ?_)
        exact N60 fu S0 0 _ _ _ h hP hD hS (lv_sub hl [1, 2, 3, 0] rfl)
      · have h := it_f h c7
        refine lv_aload_n hx hb dX12_smoothed_41 rfl (lv_at hl 0 rfl) ?_
        refine va_get (D := E.1) (ci := 11) (v := .ref (q0 32)) (C := RX12) (T := TX12) (N := 57) hx hb hg in_X12 hown X.1 hP 0 rfl rfl 52 (by decide) (hg _ wf_X12_104) (fun _ h9 => h9) rfl dX12_smoothed_42 ?_
        refine lv_iload_n hx hb dX12_smoothed_45 rfl (lv_at hl 3 rfl) ?_
        refine lv_aload_n hx hb dX12_smoothed_46 rfl (lv_at hl 0 rfl) ?_
        refine lv_iload_n hx hb dX12_smoothed_47 rfl (lv_at hl 3 rfl) ?_
        obtain ⟨u8, hc, h⟩ := bd_el h
        refine ct_iA (w1 := cw_X12 E q0 S0) X hP hD hS (va_runV (C := RX12) (As := [.int x3]) (rest := [.int x3, .ref (q0 32)]) ⟨hx, hb, hml, hown, hg⟩ (c_X12_octet l E q0 H.size S0 x3 u8 hc) (cwV 1 hg (gwV wm_X12_351 wi_X12_octet wsl_X12_octet wini_X12 wco_X12_octet) rfl rfl rfl (by decide +kernel) ⟨Nat.le_of_ble_eq_true rfl, Nat.le_of_ble_eq_true rfl⟩) ⟨ct_blind, ct_rv X.1 hP 0 rfl rfl, ct_preA X hP hD hS _⟩ rfl rfl hl.1 rfl (lv_room (Nat.le_of_ble_eq_true rfl)) dX12_smoothed_48 ⟨Nat.zero_le _, Nat.zero_le _⟩) (fun H locs hP hD hS => ?_)
        obtain ⟨hi, h⟩ := ck_el h
        obtain ⟨S0_9, eS, h⟩ := lt_el h
        refine va_iast hx hb X.1 hP hD hS 32 0 rfl rfl hi dX12_smoothed_51 (fun H locs hP hD hS => ?_)
        have hP : va_P E.1 vwCl (cw_X12 E q0 S0_9) H := by rw [eS]; exact hP
        have hD : va_D A (cw_X12 E q0 S0_9) := by rw [eS]; exact hD
        clear eS
        obtain ⟨v10, ev10, h⟩ := lt_el h
        refine lv_iinc (v := v10) (lv' := [(3, .int v10), (0, .ref (q0 0)), (1, .int x1), (2, .int x2)]) hx hb dX12_smoothed_52 hl (k := 3) rfl (by rw [ev10]; rfl) (by decide) rfl (fun ls hl => ?_)
        refine lv_goto (tgt := 36) hx hb dX12_smoothed_55 (by decide) ?_
        exact ih S0_9 v10 _ _ _ h hP hD hS (lv_sub hl [1, 2, 3, 0] rfl)
  obtain ⟨H, eH⟩ : ∃ z, z = s.heap := ⟨_, rfl⟩
  rw [← eH]
  have hP : va_P E.1 vwCl (cw_X12 E q0 S0) H := by rw [eH]; exact hP
  have hS : va_S A s.heap H [] := by rw [eH]; exact hS
  clear eH
  obtain ⟨locs, el⟩ : ∃ z : List Loc, z = [] := ⟨_, rfl⟩
  rw [← el] at hS ⊢
  clear el
  refine lv_iload_n hx hb dX12_smoothed_0 rfl (lv_at hl 1 rfl) ?_
  refine lv_iconst (v := 3) hx hb dX12_smoothed_1 (by decide) ?_
  refine lv_bipush (v := 30) hx hb dX12_smoothed_2 (by decide) ?_
  obtain ⟨u1, hc, h⟩ := bd_el h
  refine ct_iN X hP hD hS (va_runS (As := [.int x1, .int 3, .int 30]) (rest := []) ⟨hx, hb, hml, hown, hg⟩ (c_X12_in l E  H.size x1 3 30 u1 hc) (va_cwS 3 hg (gwS wm_X12_110 wst_X12_in wini_X12 wco_X12_in) rfl rfl rfl (by decide +kernel) ⟨Nat.le_of_ble_eq_true rfl, Nat.le_of_ble_eq_true rfl⟩) ⟨ct_blind, ct_preN X hS _⟩ rfl rfl hl.1 rfl (lv_room (Nat.le_of_ble_eq_true rfl)) dX12_smoothed_4 ⟨Nat.zero_le _, Nat.zero_le _⟩) (fun H locs hP hD hS => ?_)
  refine lv_if_eq (tgt := 27) hx hb dX12_smoothed_7 (by decide) (fun c2 => ?_) (fun c2 => ?_)
  · have h := it_t h c2
    refine lv_iconst (v := (-1)) hx hb dX12_smoothed_27 (by decide) ?_
    exact RT (-1) S0 _ _ _ _ h rfl hP hD hS dX12_smoothed_28
  · have h := it_f h c2
    refine lv_iload_n hx hb dX12_smoothed_10 rfl (lv_at hl 2 rfl) ?_
    refine lv_iconst (v := 0) hx hb dX12_smoothed_11 (by decide) ?_
    refine lv_iconst (v := 1) hx hb dX12_smoothed_12 (by decide) ?_
    obtain ⟨u3, hc, h⟩ := bd_el h
    refine ct_iN X hP hD hS (va_runS (As := [.int x2, .int 0, .int 1]) (rest := []) ⟨hx, hb, hml, hown, hg⟩ (c_X12_in l E  H.size x2 0 1 u3 hc) (va_cwS 3 hg (gwS wm_X12_110 wst_X12_in wini_X12 wco_X12_in) rfl rfl rfl (by decide +kernel) ⟨Nat.le_of_ble_eq_true rfl, Nat.le_of_ble_eq_true rfl⟩) ⟨ct_blind, ct_preN X hS _⟩ rfl rfl hl.1 rfl (lv_room (Nat.le_of_ble_eq_true rfl)) dX12_smoothed_13 ⟨Nat.zero_le _, Nat.zero_le _⟩) (fun H locs hP hD hS => ?_)
    refine lv_if_eq (tgt := 27) hx hb dX12_smoothed_16 (by decide) (fun c4 => ?_) (fun c4 => ?_)
    · have h := it_t h c4
      refine lv_iconst (v := (-1)) hx hb dX12_smoothed_27 (by decide) ?_
      exact RT (-1) S0 _ _ _ _ h rfl hP hD hS dX12_smoothed_28
    · have h := it_f h c4
      refine lv_iload_n hx hb dX12_smoothed_19 rfl (lv_at hl 1 rfl) ?_
      refine lv_aload_n hx hb dX12_smoothed_20 rfl (lv_at hl 0 rfl) ?_
      refine va_get (D := E.1) (ci := 11) (v := .int (S0.1 8)) (C := RX12) (T := TX12) (N := 57) hx hb hg in_X12 hown X.1 hP 0 rfl rfl 8 (by decide) (hg _ wf_X12_143) (fun _ h9 => h9) rfl dX12_smoothed_21 ?_
      refine lv_icmp_le (tgt := 29) hx hb dX12_smoothed_24 (by decide) (fun c5 => ?_) (fun c5 => ?_)
      · have h := it_t h c5
        refine lv_aload_n hx hb dX12_smoothed_29 rfl (lv_at hl 0 rfl) ?_
        refine lv_iconst (v := 0) hx hb dX12_smoothed_30 (by decide) ?_
        obtain ⟨S0_6, eS, h⟩ := lt_el h
        refine va_put (D := E.1) (ci := 11) (v := .int 0) (ty := .int) (C := RX12) (T := TX12) (N := 57) hx hb hg in_X12 tyX12 tyX12_ok nmX12 hown X.1 hP hD hS 0 rfl rfl 8 (by decide) (hg _ wf_X12_143) (fun _ h9 => h9) rfl (by decide +kernel) rfl rfl (Nat.le_of_ble_eq_true rfl) dX12_smoothed_31 (fun H locs hP hD hS => ?_)
        have hP : va_P E.1 vwCl (cw_X12 E q0 S0_6) H := by rw [eS]; exact hP
        have hD : va_D A (cw_X12 E q0 S0_6) := by rw [eS]; exact hD
        clear eS
        refine lv_iconst (v := 0) hx hb dX12_smoothed_34 (by decide) ?_
        refine lv_istore_n (lv' := [(3, .int 0), (0, .ref (q0 0)), (1, .int x1), (2, .int x2)]) hx hb dX12_smoothed_35 rfl hl (by decide) rfl (fun ls hl => ?_)
        exact N36 fu S0_6 0 _ _ _ h hP hD hS (lv_sub hl [1, 2, 3, 0] rfl)
      · have h := it_f h c5
        refine lv_iconst (v := (-1)) hx hb dX12_smoothed_27 (by decide) ?_
        exact RT (-1) S0 _ _ _ _ h rfl hP hD hS dX12_smoothed_28
theorem dX12_spell_0 : decode cX12_spell 0 = .ok (.iload_n 1, 1) := by decide +kernel
theorem dX12_spell_1 : decode cX12_spell 1 = .ok (.iconst 1, 1) := by decide +kernel
theorem dX12_spell_2 : decode cX12_spell 2 = .ok (.bipush 40, 2) := by decide +kernel
theorem dX12_spell_4 : decode cX12_spell 4 = .ok (.invokestatic 110, 3) := by decide +kernel
theorem dX12_spell_7 : decode cX12_spell 7 = .ok (.ifCond .eq 20, 3) := by decide +kernel
theorem dX12_spell_10 : decode cX12_spell 10 = .ok (.iload_n 2, 1) := by decide +kernel
theorem dX12_spell_11 : decode cX12_spell 11 = .ok (.iconst 0, 1) := by decide +kernel
theorem dX12_spell_12 : decode cX12_spell 12 = .ok (.iconst 2, 1) := by decide +kernel
theorem dX12_spell_13 : decode cX12_spell 13 = .ok (.invokestatic 110, 3) := by decide +kernel
theorem dX12_spell_16 : decode cX12_spell 16 = .ok (.ifCond .eq 11, 3) := by decide +kernel
theorem dX12_spell_19 : decode cX12_spell 19 = .ok (.iload_n 1, 1) := by decide +kernel
theorem dX12_spell_20 : decode cX12_spell 20 = .ok (.aload_n 0, 1) := by decide +kernel
theorem dX12_spell_21 : decode cX12_spell 21 = .ok (.getfield 143, 3) := by decide +kernel
theorem dX12_spell_24 : decode cX12_spell 24 = .ok (.if_icmp .le 7, 3) := by decide +kernel
theorem dX12_spell_27 : decode cX12_spell 27 = .ok (.ldc_w 418, 3) := by decide +kernel
theorem dX12_spell_30 : decode cX12_spell 30 = .ok (.ireturn, 1) := by decide +kernel
theorem dX12_spell_31 : decode cX12_spell 31 = .ok (.aload_n 0, 1) := by decide +kernel
theorem dX12_spell_32 : decode cX12_spell 32 = .ok (.iconst 0, 1) := by decide +kernel
theorem dX12_spell_33 : decode cX12_spell 33 = .ok (.putfield 143, 3) := by decide +kernel
theorem dX12_spell_36 : decode cX12_spell 36 = .ok (.ldc_w 418, 3) := by decide +kernel
theorem dX12_spell_39 : decode cX12_spell 39 = .ok (.istore_n 3, 1) := by decide +kernel
theorem dX12_spell_40 : decode cX12_spell 40 = .ok (.iconst 0, 1) := by decide +kernel
theorem dX12_spell_41 : decode cX12_spell 41 = .ok (.istore 4, 2) := by decide +kernel
theorem dX12_spell_43 : decode cX12_spell 43 = .ok (.iconst 0, 1) := by decide +kernel
theorem dX12_spell_44 : decode cX12_spell 44 = .ok (.istore 5, 2) := by decide +kernel
theorem dX12_spell_46 : decode cX12_spell 46 = .ok (.iconst 0, 1) := by decide +kernel
theorem dX12_spell_47 : decode cX12_spell 47 = .ok (.istore 6, 2) := by decide +kernel
theorem dX12_spell_49 : decode cX12_spell 49 = .ok (.iload 6, 2) := by decide +kernel
theorem dX12_spell_51 : decode cX12_spell 51 = .ok (.iload_n 1, 1) := by decide +kernel
theorem dX12_spell_52 : decode cX12_spell 52 = .ok (.if_icmp .ge 68, 3) := by decide +kernel
theorem dX12_spell_55 : decode cX12_spell 55 = .ok (.iconst 0, 1) := by decide +kernel
theorem dX12_spell_56 : decode cX12_spell 56 = .ok (.istore 7, 2) := by decide +kernel
theorem dX12_spell_58 : decode cX12_spell 58 = .ok (.iload 6, 2) := by decide +kernel
theorem dX12_spell_60 : decode cX12_spell 60 = .ok (.istore 8, 2) := by decide +kernel
theorem dX12_spell_62 : decode cX12_spell 62 = .ok (.iload 8, 2) := by decide +kernel
theorem dX12_spell_64 : decode cX12_spell 64 = .ok (.iload_n 1, 1) := by decide +kernel
theorem dX12_spell_65 : decode cX12_spell 65 = .ok (.if_icmp .ge 49, 3) := by decide +kernel
theorem dX12_spell_68 : decode cX12_spell 68 = .ok (.iload 7, 2) := by decide +kernel
theorem dX12_spell_70 : decode cX12_spell 70 = .ok (.aload_n 0, 1) := by decide +kernel
theorem dX12_spell_71 : decode cX12_spell 71 = .ok (.iload 8, 2) := by decide +kernel
theorem dX12_spell_73 : decode cX12_spell 73 = .ok (.invokevirtual 351, 3) := by decide +kernel
theorem dX12_spell_76 : decode cX12_spell 76 = .ok (.iadd, 1) := by decide +kernel
theorem dX12_spell_77 : decode cX12_spell 77 = .ok (.sipush 128, 3) := by decide +kernel
theorem dX12_spell_80 : decode cX12_spell 80 = .ok (.isub, 1) := by decide +kernel
theorem dX12_spell_81 : decode cX12_spell 81 = .ok (.istore 7, 2) := by decide +kernel
theorem dX12_spell_83 : decode cX12_spell 83 = .ok (.iload 7, 2) := by decide +kernel
theorem dX12_spell_85 : decode cX12_spell 85 = .ok (.iload_n 3, 1) := by decide +kernel
theorem dX12_spell_86 : decode cX12_spell 86 = .ok (.if_icmp .gt 6, 3) := by decide +kernel
theorem dX12_spell_89 : decode cX12_spell 89 = .ok (.goto 19, 3) := by decide +kernel
theorem dX12_spell_92 : decode cX12_spell 92 = .ok (.iload 7, 2) := by decide +kernel
theorem dX12_spell_94 : decode cX12_spell 94 = .ok (.istore_n 3, 1) := by decide +kernel
theorem dX12_spell_95 : decode cX12_spell 95 = .ok (.iload 6, 2) := by decide +kernel
theorem dX12_spell_97 : decode cX12_spell 97 = .ok (.istore 4, 2) := by decide +kernel
theorem dX12_spell_99 : decode cX12_spell 99 = .ok (.iload 8, 2) := by decide +kernel
theorem dX12_spell_101 : decode cX12_spell 101 = .ok (.iload 6, 2) := by decide +kernel
theorem dX12_spell_103 : decode cX12_spell 103 = .ok (.isub, 1) := by decide +kernel
theorem dX12_spell_104 : decode cX12_spell 104 = .ok (.iconst 1, 1) := by decide +kernel
theorem dX12_spell_105 : decode cX12_spell 105 = .ok (.iadd, 1) := by decide +kernel
theorem dX12_spell_106 : decode cX12_spell 106 = .ok (.istore 5, 2) := by decide +kernel
theorem dX12_spell_108 : decode cX12_spell 108 = .ok (.iinc 8 1, 3) := by decide +kernel
theorem dX12_spell_111 : decode cX12_spell 111 = .ok (.goto (-49), 3) := by decide +kernel
theorem dX12_spell_114 : decode cX12_spell 114 = .ok (.iinc 6 1, 3) := by decide +kernel
theorem dX12_spell_117 : decode cX12_spell 117 = .ok (.goto (-68), 3) := by decide +kernel
theorem dX12_spell_120 : decode cX12_spell 120 = .ok (.iload_n 2, 1) := by decide +kernel
theorem dX12_spell_121 : decode cX12_spell 121 = .ok (.ifCond .ne 7, 3) := by decide +kernel
theorem dX12_spell_124 : decode cX12_spell 124 = .ok (.iload_n 3, 1) := by decide +kernel
theorem dX12_spell_125 : decode cX12_spell 125 = .ok (.goto 15, 3) := by decide +kernel
theorem dX12_spell_128 : decode cX12_spell 128 = .ok (.iload_n 2, 1) := by decide +kernel
theorem dX12_spell_129 : decode cX12_spell 129 = .ok (.iconst 1, 1) := by decide +kernel
theorem dX12_spell_130 : decode cX12_spell 130 = .ok (.if_icmp .ne 8, 3) := by decide +kernel
theorem dX12_spell_133 : decode cX12_spell 133 = .ok (.iload 4, 2) := by decide +kernel
theorem dX12_spell_135 : decode cX12_spell 135 = .ok (.goto 5, 3) := by decide +kernel
theorem dX12_spell_138 : decode cX12_spell 138 = .ok (.iload 5, 2) := by decide +kernel
theorem dX12_spell_140 : decode cX12_spell 140 = .ok (.ireturn, 1) := by decide +kernel
def f_X12_spell_n62 (x1 : Int32) (x2 : Int32) (k49 : Gr → Int32 → Int32 → Int32 → Int32 → Option (Int32 × Gr)) : Nat → Gr → Int32 → Int32 → Int32 → Int32 → Int32 → Int32 → Option (Int32 × Gr)
  | 0, _, _, _, _, _, _, _ => none
  | n + 1, S0, x3, x4, x5, x6, x7, x8 => if x1 ≤ x8 then (lt' (x6 + 1) fun v11 => k49 S0 x3 x4 x5 v11) else ((f_X12_octet S0 x8).bind fun u12 => lt' (((x7 + u12) - 128)) fun v13 => if x3 < v13 then (lt' (((x8 - x6) + 1)) fun v15 => lt' (x8 + 1) fun v16 => f_X12_spell_n62 x1 x2 k49 n S0 v13 x6 v15 x6 v13 v16) else (lt' (x8 + 1) fun v17 => f_X12_spell_n62 x1 x2 k49 n S0 x3 x4 x5 x6 v13 v17))
def f_X12_spell_n49 (x1 : Int32) (x2 : Int32) : Nat → Gr → Int32 → Int32 → Int32 → Int32 → Option (Int32 × Gr)
  | 0, _, _, _, _, _ => none
  | n + 1, S0, x3, x4, x5, x6 => if x1 ≤ x6 then (if x2 = 0 then (some (x3, S0)) else (if x2 = 1 then (some (x4, S0)) else (some (x5, S0)))) else (f_X12_spell_n62 x1 x2 (f_X12_spell_n49 x1 x2 n) fu S0 x3 x4 x5 x6 0 x6)
def f_X12_spell (S0 : Gr) (x1 : Int32) (x2 : Int32) : Option (Int32 × Gr) := (f_X12_in x1 1 40).bind fun u1 => if u1 = 0 then (some ((-1000000), S0)) else ((f_X12_in x2 0 2).bind fun u3 => if u3 = 0 then (some ((-1000000), S0)) else (if x1 ≤ (S0.1 8) then (lt' (sI S0 8 0) fun S0_6 => f_X12_spell_n49 x1 x2 fu S0_6 (-1000000) 0 0 0) else (some ((-1000000), S0))))
set_option maxHeartbeats 4000000 in
set_option maxRecDepth 100000 in
theorem c_X12_spell (l : Launch) (E : Ec) (q0 : Nat → Nat) (sz : Nat) (S0 : Gr) (x1 : Int32) (x2 : Int32) (Rv : Int32 × Gr) (h : f_X12_spell S0 x1 x2 = some Rv) : Met l yX12_spell (wsM (.code yX12_spell cX12_spell 9 (some .int))) ({ frames := 1, cells := 0, slots := 0, locals := 22 } : Room) (va_Pc [.ref (q0 0), .int x1, .int x2] (ctP E (cw_X12 E q0 S0) sz)) (ctI E (cw_X12 E q0 S0) (cw_X12 E q0 Rv.2) sz Rv.1) 0 0 (va_A (cw_X12 E q0 S0) sz) := by
  refine ct_metI (by decide) (Nat.le_of_ble_eq_true rfl) ?_
  intro p e s m ar below meth c A QM hx hb hml hown hg X hP hD hS RET ls hl
  have hown : s.vm.findClass RX12 = some m.cls := hown
  have hl : lv_has ls 9 [(0, .ref (q0 0)), (1, .int x1), (2, .int x2)] := hl
  have RT : ∀ (v : Int32) (S0 : Gr) (H : Heap) (locs : List Loc) (ls : Array Slot) (pc : Nat), some (v, S0) = some Rv → narrow .int (.int v) = .int v → va_P E.1 vwCl (cw_X12 E q0 S0) H → va_D A (cw_X12 E q0 S0) → va_S A s.heap H locs → decode cX12_spell pc = .ok (.ireturn, 1) → W p l e ({ frames := 1, cells := 0, slots := 0, locals := 22 } : Room) s m ar below meth c H locs 0 0 QM (F0 m pc ls [.int v]) := by
    intro v S0 H locs ls pc e hn hP hD hS d
    obtain rfl := sm_e e
    exact RET H locs pc ls hn hP hD hS d
  clear RET
  have N62 : ∀ (k49 : Gr → Int32 → Int32 → Int32 → Int32 → Option (Int32 × Gr)) (hk49 : ∀ (S0 : Gr) (x3 : Int32) (x4 : Int32) (x5 : Int32) (x6 : Int32) (H : Heap) (locs : List Loc) (ls : Array Slot), k49 S0 x3 x4 x5 x6 = some Rv → va_P E.1 vwCl (cw_X12 E q0 S0) H → va_D A (cw_X12 E q0 S0) → va_S A s.heap H locs → lv_has ls 9 [(0, .ref (q0 0)), (1, .int x1), (2, .int x2), (3, .int x3), (4, .int x4), (5, .int x5), (6, .int x6)] → W p l e ({ frames := 1, cells := 0, slots := 0, locals := 22 } : Room) s m ar below meth c H locs 0 0 QM (F0 m 49 ls [])) (n : Nat) (S0 : Gr) (x3 : Int32) (x4 : Int32) (x5 : Int32) (x6 : Int32) (x7 : Int32) (x8 : Int32) (H : Heap) (locs : List Loc) (ls : Array Slot), f_X12_spell_n62 x1 x2 k49 n S0 x3 x4 x5 x6 x7 x8 = some Rv → va_P E.1 vwCl (cw_X12 E q0 S0) H → va_D A (cw_X12 E q0 S0) → va_S A s.heap H locs → lv_has ls 9 [(0, .ref (q0 0)), (1, .int x1), (2, .int x2), (3, .int x3), (4, .int x4), (5, .int x5), (6, .int x6), (7, .int x7), (8, .int x8)] → W p l e ({ frames := 1, cells := 0, slots := 0, locals := 22 } : Room) s m ar below meth c H locs 0 0 QM (F0 m 62 ls []) := by
    intro k49 hk49 n
    induction n with
    | zero => intro S0 x3 x4 x5 x6 x7 x8 H locs ls h; exact nn_el h
    | succ n ih =>
      intro S0 x3 x4 x5 x6 x7 x8 H locs ls h hP hD hS hl
      refine lv_iload hx hb dX12_spell_62 (lv_at hl 8 rfl) ?_
      refine lv_iload_n hx hb dX12_spell_64 rfl (lv_at hl 1 rfl) ?_
      refine lv_icmp_ge (tgt := 114) hx hb dX12_spell_65 (by decide) (fun c10 => ?_) (fun c10 => ?_)
      · have h := it_t h c10
        obtain ⟨v11, ev11, h⟩ := lt_el h
        refine lv_iinc (v := v11) (lv' := [(6, .int v11), (0, .ref (q0 0)), (1, .int x1), (2, .int x2), (3, .int x3), (4, .int x4), (5, .int x5), (7, .int x7), (8, .int x8)]) hx hb dX12_spell_114 hl (k := 6) rfl (by rw [ev11]; rfl) (by decide) rfl (fun ls hl => ?_)
        refine lv_goto (tgt := 49) hx hb dX12_spell_117 (by decide) ?_
        exact hk49 S0 x3 x4 x5 v11 _ _ _ h hP hD hS (lv_sub hl [1, 2, 3, 4, 5, 6, 0] rfl)
      · have h := it_f h c10
        refine lv_iload hx hb dX12_spell_68 (lv_at hl 7 rfl) ?_
        refine lv_aload_n hx hb dX12_spell_70 rfl (lv_at hl 0 rfl) ?_
        refine lv_iload hx hb dX12_spell_71 (lv_at hl 8 rfl) ?_
        obtain ⟨u12, hc, h⟩ := bd_el h
        refine ct_iA (w1 := cw_X12 E q0 S0) X hP hD hS (va_runV (C := RX12) (As := [.int x8]) (rest := [.int x7]) ⟨hx, hb, hml, hown, hg⟩ (c_X12_octet l E q0 H.size S0 x8 u12 hc) (cwV 1 hg (gwV wm_X12_351 wi_X12_octet wsl_X12_octet wini_X12 wco_X12_octet) rfl rfl rfl (by decide +kernel) ⟨Nat.le_of_ble_eq_true rfl, Nat.le_of_ble_eq_true rfl⟩) ⟨ct_blind, ct_rv X.1 hP 0 rfl rfl, ct_preA X hP hD hS _⟩ rfl rfl hl.1 rfl (lv_room (Nat.le_of_ble_eq_true rfl)) dX12_spell_73 ⟨Nat.zero_le _, Nat.zero_le _⟩) (fun H locs hP hD hS => ?_)
        refine lv_iadd hx hb dX12_spell_76 ?_
        refine lv_sipush (v := 128) hx hb dX12_spell_77 (by decide) ?_
        refine lv_isub hx hb dX12_spell_80 ?_
        obtain ⟨v13, ev13, h⟩ := lt_el h
        refine lv_top' ev13 ?_
        refine lv_istore (lv' := [(7, .int v13), (0, .ref (q0 0)), (1, .int x1), (2, .int x2), (3, .int x3), (4, .int x4), (5, .int x5), (6, .int x6), (8, .int x8)]) hx hb dX12_spell_81 hl (by decide) rfl (fun ls hl => ?_)
        refine lv_iload hx hb dX12_spell_83 (lv_at hl 0 rfl) ?_
        refine lv_iload_n hx hb dX12_spell_85 rfl (lv_at hl 4 rfl) ?_
        refine lv_icmp_gt (tgt := 92) hx hb dX12_spell_86 (by decide) (fun c14 => ?_) (fun c14 => ?_)
        · have h := it_t h c14
          refine lv_iload hx hb dX12_spell_92 (lv_at hl 0 rfl) ?_
          refine lv_istore_n (lv' := [(3, .int v13), (7, .int v13), (0, .ref (q0 0)), (1, .int x1), (2, .int x2), (4, .int x4), (5, .int x5), (6, .int x6), (8, .int x8)]) hx hb dX12_spell_94 rfl hl (by decide) rfl (fun ls hl => ?_)
          refine lv_iload hx hb dX12_spell_95 (lv_at hl 7 rfl) ?_
          refine lv_istore (lv' := [(4, .int x6), (3, .int v13), (7, .int v13), (0, .ref (q0 0)), (1, .int x1), (2, .int x2), (5, .int x5), (6, .int x6), (8, .int x8)]) hx hb dX12_spell_97 hl (by decide) rfl (fun ls hl => ?_)
          refine lv_iload hx hb dX12_spell_99 (lv_at hl 8 rfl) ?_
          refine lv_iload hx hb dX12_spell_101 (lv_at hl 7 rfl) ?_
          refine lv_isub hx hb dX12_spell_103 ?_
          refine lv_iconst (v := 1) hx hb dX12_spell_104 (by decide) ?_
          refine lv_iadd hx hb dX12_spell_105 ?_
          obtain ⟨v15, ev15, h⟩ := lt_el h
          refine lv_top' ev15 ?_
          refine lv_istore (lv' := [(5, .int v15), (4, .int x6), (3, .int v13), (7, .int v13), (0, .ref (q0 0)), (1, .int x1), (2, .int x2), (6, .int x6), (8, .int x8)]) hx hb dX12_spell_106 hl (by decide) rfl (fun ls hl => ?_)
          obtain ⟨v16, ev16, h⟩ := lt_el h
          refine lv_iinc (v := v16) (lv' := [(8, .int v16), (5, .int v15), (4, .int x6), (3, .int v13), (7, .int v13), (0, .ref (q0 0)), (1, .int x1), (2, .int x2), (6, .int x6)]) hx hb dX12_spell_108 hl (k := 8) rfl (by rw [ev16]; rfl) (by decide) rfl (fun ls hl => ?_)
          refine lv_goto (tgt := 62) hx hb dX12_spell_111 (by decide) ?_
          exact ih S0 v13 x6 v15 x6 v13 v16 _ _ _ h hP hD hS (lv_sub hl [5, 6, 7, 3, 2, 1, 8, 4, 0] rfl)
        · have h := it_f h c14
          refine lv_goto (tgt := 108) hx hb dX12_spell_89 (by decide) ?_
          obtain ⟨v17, ev17, h⟩ := lt_el h
          refine lv_iinc (v := v17) (lv' := [(8, .int v17), (7, .int v13), (0, .ref (q0 0)), (1, .int x1), (2, .int x2), (3, .int x3), (4, .int x4), (5, .int x5), (6, .int x6)]) hx hb dX12_spell_108 hl (k := 8) rfl (by rw [ev17]; rfl) (by decide) rfl (fun ls hl => ?_)
          refine lv_goto (tgt := 62) hx hb dX12_spell_111 (by decide) ?_
          exact ih S0 x3 x4 x5 x6 v13 v17 _ _ _ h hP hD hS (lv_sub hl [2, 3, 4, 5, 6, 7, 8, 1, 0] rfl)
  have N49 : ∀ (n : Nat) (S0 : Gr) (x3 : Int32) (x4 : Int32) (x5 : Int32) (x6 : Int32) (H : Heap) (locs : List Loc) (ls : Array Slot), f_X12_spell_n49 x1 x2 n S0 x3 x4 x5 x6 = some Rv → va_P E.1 vwCl (cw_X12 E q0 S0) H → va_D A (cw_X12 E q0 S0) → va_S A s.heap H locs → lv_has ls 9 [(0, .ref (q0 0)), (1, .int x1), (2, .int x2), (3, .int x3), (4, .int x4), (5, .int x5), (6, .int x6)] → W p l e ({ frames := 1, cells := 0, slots := 0, locals := 22 } : Room) s m ar below meth c H locs 0 0 QM (F0 m 49 ls []) := by
    intro n
    induction n with
    | zero => intro S0 x3 x4 x5 x6 H locs ls h; exact nn_el h
    | succ n ih =>
      intro S0 x3 x4 x5 x6 H locs ls h hP hD hS hl
      refine lv_iload hx hb dX12_spell_49 (lv_at hl 6 rfl) ?_
      refine lv_iload_n hx hb dX12_spell_51 rfl (lv_at hl 1 rfl) ?_
      refine lv_icmp_ge (tgt := 120) hx hb dX12_spell_52 (by decide) (fun c7 => ?_) (fun c7 => ?_)
      · have h := it_t h c7
        refine lv_iload_n hx hb dX12_spell_120 rfl (lv_at hl 2 rfl) ?_
        refine lv_if_ne (tgt := 128) hx hb dX12_spell_121 (by decide) (fun c8 => ?_) (fun c8 => ?_)
        · have h := it_f h c8
          refine lv_iload_n hx hb dX12_spell_128 rfl (lv_at hl 2 rfl) ?_
          refine lv_iconst (v := 1) hx hb dX12_spell_129 (by decide) ?_
          refine lv_icmp_ne (tgt := 138) hx hb dX12_spell_130 (by decide) (fun c9 => ?_) (fun c9 => ?_)
          · have h := it_f h c9
            refine lv_iload hx hb dX12_spell_138 (lv_at hl 5 rfl) ?_
            exact RT x5 S0 _ _ _ _ h rfl hP hD hS dX12_spell_140
          · have h := it_t h c9
            refine lv_iload hx hb dX12_spell_133 (lv_at hl 4 rfl) ?_
            refine lv_goto (tgt := 140) hx hb dX12_spell_135 (by decide) ?_
            exact RT x4 S0 _ _ _ _ h rfl hP hD hS dX12_spell_140
        · have h := it_t h c8
          refine lv_iload_n hx hb dX12_spell_124 rfl (lv_at hl 3 rfl) ?_
          refine lv_goto (tgt := 140) hx hb dX12_spell_125 (by decide) ?_
          exact RT x3 S0 _ _ _ _ h rfl hP hD hS dX12_spell_140
      · have h := it_f h c7
        refine lv_iconst (v := 0) hx hb dX12_spell_55 (by decide) ?_
        refine lv_istore (lv' := [(7, .int 0), (0, .ref (q0 0)), (1, .int x1), (2, .int x2), (3, .int x3), (4, .int x4), (5, .int x5), (6, .int x6)]) hx hb dX12_spell_56 hl (by decide) rfl (fun ls hl => ?_)
        refine lv_iload hx hb dX12_spell_58 (lv_at hl 7 rfl) ?_
        refine lv_istore (lv' := [(8, .int x6), (7, .int 0), (0, .ref (q0 0)), (1, .int x1), (2, .int x2), (3, .int x3), (4, .int x4), (5, .int x5), (6, .int x6)]) hx hb dX12_spell_60 hl (by decide) rfl (fun ls hl => ?_)
        exact N62 (f_X12_spell_n49 x1 x2 n) ih fu S0 x3 x4 x5 x6 0 x6 _ _ _ h hP hD hS (lv_sub hl [2, 3, 4, 5, 6, 7, 8, 1, 0] rfl)
  obtain ⟨H, eH⟩ : ∃ z, z = s.heap := ⟨_, rfl⟩
  rw [← eH]
  have hP : va_P E.1 vwCl (cw_X12 E q0 S0) H := by rw [eH]; exact hP
  have hS : va_S A s.heap H [] := by rw [eH]; exact hS
  clear eH
  obtain ⟨locs, el⟩ : ∃ z : List Loc, z = [] := ⟨_, rfl⟩
  rw [← el] at hS ⊢
  clear el
  refine lv_iload_n hx hb dX12_spell_0 rfl (lv_at hl 1 rfl) ?_
  refine lv_iconst (v := 1) hx hb dX12_spell_1 (by decide) ?_
  refine lv_bipush (v := 40) hx hb dX12_spell_2 (by decide) ?_
  obtain ⟨u1, hc, h⟩ := bd_el h
  refine ct_iN X hP hD hS (va_runS (As := [.int x1, .int 1, .int 40]) (rest := []) ⟨hx, hb, hml, hown, hg⟩ (c_X12_in l E  H.size x1 1 40 u1 hc) (va_cwS 3 hg (gwS wm_X12_110 wst_X12_in wini_X12 wco_X12_in) rfl rfl rfl (by decide +kernel) ⟨Nat.le_of_ble_eq_true rfl, Nat.le_of_ble_eq_true rfl⟩) ⟨ct_blind, ct_preN X hS _⟩ rfl rfl hl.1 rfl (lv_room (Nat.le_of_ble_eq_true rfl)) dX12_spell_4 ⟨Nat.zero_le _, Nat.zero_le _⟩) (fun H locs hP hD hS => ?_)
  refine lv_if_eq (tgt := 27) hx hb dX12_spell_7 (by decide) (fun c2 => ?_) (fun c2 => ?_)
  · have h := it_t h c2
    refine lv_ldcw hx hb hown (hg _ wcn_X12_418) dX12_spell_27 ?_
    exact RT (-1000000) S0 _ _ _ _ h rfl hP hD hS dX12_spell_30
  · have h := it_f h c2
    refine lv_iload_n hx hb dX12_spell_10 rfl (lv_at hl 2 rfl) ?_
    refine lv_iconst (v := 0) hx hb dX12_spell_11 (by decide) ?_
    refine lv_iconst (v := 2) hx hb dX12_spell_12 (by decide) ?_
    obtain ⟨u3, hc, h⟩ := bd_el h
    refine ct_iN X hP hD hS (va_runS (As := [.int x2, .int 0, .int 2]) (rest := []) ⟨hx, hb, hml, hown, hg⟩ (c_X12_in l E  H.size x2 0 2 u3 hc) (va_cwS 3 hg (gwS wm_X12_110 wst_X12_in wini_X12 wco_X12_in) rfl rfl rfl (by decide +kernel) ⟨Nat.le_of_ble_eq_true rfl, Nat.le_of_ble_eq_true rfl⟩) ⟨ct_blind, ct_preN X hS _⟩ rfl rfl hl.1 rfl (lv_room (Nat.le_of_ble_eq_true rfl)) dX12_spell_13 ⟨Nat.zero_le _, Nat.zero_le _⟩) (fun H locs hP hD hS => ?_)
    refine lv_if_eq (tgt := 27) hx hb dX12_spell_16 (by decide) (fun c4 => ?_) (fun c4 => ?_)
    · have h := it_t h c4
      refine lv_ldcw hx hb hown (hg _ wcn_X12_418) dX12_spell_27 ?_
      exact RT (-1000000) S0 _ _ _ _ h rfl hP hD hS dX12_spell_30
    · have h := it_f h c4
      refine lv_iload_n hx hb dX12_spell_19 rfl (lv_at hl 1 rfl) ?_
      refine lv_aload_n hx hb dX12_spell_20 rfl (lv_at hl 0 rfl) ?_
      refine va_get (D := E.1) (ci := 11) (v := .int (S0.1 8)) (C := RX12) (T := TX12) (N := 57) hx hb hg in_X12 hown X.1 hP 0 rfl rfl 8 (by decide) (hg _ wf_X12_143) (fun _ h9 => h9) rfl dX12_spell_21 ?_
      refine lv_icmp_le (tgt := 31) hx hb dX12_spell_24 (by decide) (fun c5 => ?_) (fun c5 => ?_)
      · have h := it_t h c5
        refine lv_aload_n hx hb dX12_spell_31 rfl (lv_at hl 0 rfl) ?_
        refine lv_iconst (v := 0) hx hb dX12_spell_32 (by decide) ?_
        obtain ⟨S0_6, eS, h⟩ := lt_el h
        refine va_put (D := E.1) (ci := 11) (v := .int 0) (ty := .int) (C := RX12) (T := TX12) (N := 57) hx hb hg in_X12 tyX12 tyX12_ok nmX12 hown X.1 hP hD hS 0 rfl rfl 8 (by decide) (hg _ wf_X12_143) (fun _ h9 => h9) rfl (by decide +kernel) rfl rfl (Nat.le_of_ble_eq_true rfl) dX12_spell_33 (fun H locs hP hD hS => ?_)
        have hP : va_P E.1 vwCl (cw_X12 E q0 S0_6) H := by rw [eS]; exact hP
        have hD : va_D A (cw_X12 E q0 S0_6) := by rw [eS]; exact hD
        clear eS
        refine lv_ldcw hx hb hown (hg _ wcn_X12_418) dX12_spell_36 ?_
        refine lv_istore_n (lv' := [(3, .int (-1000000)), (0, .ref (q0 0)), (1, .int x1), (2, .int x2)]) hx hb dX12_spell_39 rfl hl (by decide) rfl (fun ls hl => ?_)
        refine lv_iconst (v := 0) hx hb dX12_spell_40 (by decide) ?_
        refine lv_istore (lv' := [(4, .int 0), (3, .int (-1000000)), (0, .ref (q0 0)), (1, .int x1), (2, .int x2)]) hx hb dX12_spell_41 hl (by decide) rfl (fun ls hl => ?_)
        refine lv_iconst (v := 0) hx hb dX12_spell_43 (by decide) ?_
        refine lv_istore (lv' := [(5, .int 0), (4, .int 0), (3, .int (-1000000)), (0, .ref (q0 0)), (1, .int x1), (2, .int x2)]) hx hb dX12_spell_44 hl (by decide) rfl (fun ls hl => ?_)
        refine lv_iconst (v := 0) hx hb dX12_spell_46 (by decide) ?_
        refine lv_istore (lv' := [(6, .int 0), (5, .int 0), (4, .int 0), (3, .int (-1000000)), (0, .ref (q0 0)), (1, .int x1), (2, .int x2)]) hx hb dX12_spell_47 hl (by decide) rfl (fun ls hl => ?_)
        exact N49 fu S0_6 (-1000000) 0 0 0 _ _ _ h hP hD hS (lv_sub hl [4, 5, 6, 3, 2, 1, 0] rfl)
      · have h := it_f h c5
        refine lv_ldcw hx hb hown (hg _ wcn_X12_418) dX12_spell_27 ?_
        exact RT (-1000000) S0 _ _ _ _ h rfl hP hD hS dX12_spell_30
theorem dX12_tension_0 : decode cX12_tension 0 = .ok (.aload_n 0, 1) := by decide +kernel
theorem dX12_tension_1 : decode cX12_tension 1 = .ok (.iload_n 1, 1) := by decide +kernel
theorem dX12_tension_2 : decode cX12_tension 2 = .ok (.invokevirtual 139, 3) := by decide +kernel
theorem dX12_tension_5 : decode cX12_tension 5 = .ok (.ifCond .eq 23, 3) := by decide +kernel
theorem dX12_tension_8 : decode cX12_tension 8 = .ok (.iload_n 2, 1) := by decide +kernel
theorem dX12_tension_9 : decode cX12_tension 9 = .ok (.iconst 0, 1) := by decide +kernel
theorem dX12_tension_10 : decode cX12_tension 10 = .ok (.bipush 7, 2) := by decide +kernel
theorem dX12_tension_12 : decode cX12_tension 12 = .ok (.invokestatic 110, 3) := by decide +kernel
theorem dX12_tension_15 : decode cX12_tension 15 = .ok (.ifCond .eq 13, 3) := by decide +kernel
theorem dX12_tension_18 : decode cX12_tension 18 = .ok (.iload_n 3, 1) := by decide +kernel
theorem dX12_tension_19 : decode cX12_tension 19 = .ok (.iconst 0, 1) := by decide +kernel
theorem dX12_tension_20 : decode cX12_tension 20 = .ok (.bipush 99, 2) := by decide +kernel
theorem dX12_tension_22 : decode cX12_tension 22 = .ok (.invokestatic 110, 3) := by decide +kernel
theorem dX12_tension_25 : decode cX12_tension 25 = .ok (.ifCond .ne 5, 3) := by decide +kernel
theorem dX12_tension_28 : decode cX12_tension 28 = .ok (.iconst 0, 1) := by decide +kernel
theorem dX12_tension_29 : decode cX12_tension 29 = .ok (.ireturn, 1) := by decide +kernel
theorem dX12_tension_30 : decode cX12_tension 30 = .ok (.aload_n 0, 1) := by decide +kernel
theorem dX12_tension_31 : decode cX12_tension 31 = .ok (.getfield 7, 3) := by decide +kernel
theorem dX12_tension_34 : decode cX12_tension 34 = .ok (.iconst 0, 1) := by decide +kernel
theorem dX12_tension_35 : decode cX12_tension 35 = .ok (.bipush 8, 2) := by decide +kernel
theorem dX12_tension_37 : decode cX12_tension 37 = .ok (.iload_n 1, 1) := by decide +kernel
theorem dX12_tension_38 : decode cX12_tension 38 = .ok (.imul, 1) := by decide +kernel
theorem dX12_tension_39 : decode cX12_tension 39 = .ok (.iadd, 1) := by decide +kernel
theorem dX12_tension_40 : decode cX12_tension 40 = .ok (.iload_n 2, 1) := by decide +kernel
theorem dX12_tension_41 : decode cX12_tension 41 = .ok (.iadd, 1) := by decide +kernel
theorem dX12_tension_42 : decode cX12_tension 42 = .ok (.iload_n 3, 1) := by decide +kernel
theorem dX12_tension_43 : decode cX12_tension 43 = .ok (.iastore, 1) := by decide +kernel
theorem dX12_tension_44 : decode cX12_tension 44 = .ok (.iconst 1, 1) := by decide +kernel
theorem dX12_tension_45 : decode cX12_tension 45 = .ok (.ireturn, 1) := by decide +kernel
def f_X12_tension (S0 : Gr) (x1 : Int32) (x2 : Int32) (x3 : Int32) : Option (Int32 × Gr) := (f_X12_isWeb S0 x1).bind fun u1 => if u1 = 0 then (some (0, S0)) else ((f_X12_in x2 0 7).bind fun u3 => if u3 = 0 then (some (0, S0)) else ((f_X12_in x3 0 99).bind fun u5 => if u5 = 0 then (some (0, S0)) else (ck' 82 ((0 + (8 * x1)) + x2) (lt' (sA S0 0 (Int32.toNatClampNeg ((0 + (8 * x1)) + x2)) x3) fun S0_7 => some (1, S0_7)))))
set_option maxHeartbeats 4000000 in
set_option maxRecDepth 100000 in
theorem c_X12_tension (l : Launch) (E : Ec) (q0 : Nat → Nat) (sz : Nat) (S0 : Gr) (x1 : Int32) (x2 : Int32) (x3 : Int32) (Rv : Int32 × Gr) (h : f_X12_tension S0 x1 x2 x3 = some Rv) : Met l yX12_tension (wsM (.code yX12_tension cX12_tension 4 (some .boolean))) ({ frames := 2, cells := 0, slots := 0, locals := 43 } : Room) (va_Pc [.ref (q0 0), .int x1, .int x2, .int x3] (ctP E (cw_X12 E q0 S0) sz)) (ctI E (cw_X12 E q0 S0) (cw_X12 E q0 Rv.2) sz Rv.1) 0 0 (va_A (cw_X12 E q0 S0) sz) := by
  refine ct_metI (by decide) (Nat.le_of_ble_eq_true rfl) ?_
  intro p e s m ar below meth c A QM hx hb hml hown hg X hP hD hS RET ls hl
  have hown : s.vm.findClass RX12 = some m.cls := hown
  have hl : lv_has ls 4 [(0, .ref (q0 0)), (1, .int x1), (2, .int x2), (3, .int x3)] := hl
  have RT : ∀ (v : Int32) (S0 : Gr) (H : Heap) (locs : List Loc) (ls : Array Slot) (pc : Nat), some (v, S0) = some Rv → narrow .boolean (.int v) = .int v → va_P E.1 vwCl (cw_X12 E q0 S0) H → va_D A (cw_X12 E q0 S0) → va_S A s.heap H locs → decode cX12_tension pc = .ok (.ireturn, 1) → W p l e ({ frames := 2, cells := 0, slots := 0, locals := 43 } : Room) s m ar below meth c H locs 0 0 QM (F0 m pc ls [.int v]) := by
    intro v S0 H locs ls pc e hn hP hD hS d
    obtain rfl := sm_e e
    exact RET H locs pc ls hn hP hD hS d
  clear RET
  obtain ⟨H, eH⟩ : ∃ z, z = s.heap := ⟨_, rfl⟩
  rw [← eH]
  have hP : va_P E.1 vwCl (cw_X12 E q0 S0) H := by rw [eH]; exact hP
  have hS : va_S A s.heap H [] := by rw [eH]; exact hS
  clear eH
  obtain ⟨locs, el⟩ : ∃ z : List Loc, z = [] := ⟨_, rfl⟩
  rw [← el] at hS ⊢
  clear el
  refine lv_aload_n hx hb dX12_tension_0 rfl (lv_at hl 0 rfl) ?_
  refine lv_iload_n hx hb dX12_tension_1 rfl (lv_at hl 1 rfl) ?_
  obtain ⟨u1, hc, h⟩ := bd_el h
  refine ct_iA (w1 := cw_X12 E q0 S0) X hP hD hS (va_runV (C := RX12) (As := [.int x1]) (rest := []) ⟨hx, hb, hml, hown, hg⟩ (c_X12_isWeb l E q0 H.size S0 x1 u1 hc) (cwV 1 hg (gwV wm_X12_139 wi_X12_isWeb wsl_X12_isWeb wini_X12 wco_X12_isWeb) rfl rfl rfl (by decide +kernel) ⟨Nat.le_of_ble_eq_true rfl, Nat.le_of_ble_eq_true rfl⟩) ⟨ct_blind, ct_rv X.1 hP 0 rfl rfl, ct_preA X hP hD hS _⟩ rfl rfl hl.1 rfl (lv_room (Nat.le_of_ble_eq_true rfl)) dX12_tension_2 ⟨Nat.zero_le _, Nat.zero_le _⟩) (fun H locs hP hD hS => ?_)
  refine lv_if_eq (tgt := 28) hx hb dX12_tension_5 (by decide) (fun c2 => ?_) (fun c2 => ?_)
  · have h := it_t h c2
    refine lv_iconst (v := 0) hx hb dX12_tension_28 (by decide) ?_
    exact RT 0 S0 _ _ _ _ h (by decide +kernel) hP hD hS dX12_tension_29
  · have h := it_f h c2
    refine lv_iload_n hx hb dX12_tension_8 rfl (lv_at hl 2 rfl) ?_
    refine lv_iconst (v := 0) hx hb dX12_tension_9 (by decide) ?_
    refine lv_bipush (v := 7) hx hb dX12_tension_10 (by decide) ?_
    obtain ⟨u3, hc, h⟩ := bd_el h
    refine ct_iN X hP hD hS (va_runS (As := [.int x2, .int 0, .int 7]) (rest := []) ⟨hx, hb, hml, hown, hg⟩ (c_X12_in l E  H.size x2 0 7 u3 hc) (va_cwS 3 hg (gwS wm_X12_110 wst_X12_in wini_X12 wco_X12_in) rfl rfl rfl (by decide +kernel) ⟨Nat.le_of_ble_eq_true rfl, Nat.le_of_ble_eq_true rfl⟩) ⟨ct_blind, ct_preN X hS _⟩ rfl rfl hl.1 rfl (lv_room (Nat.le_of_ble_eq_true rfl)) dX12_tension_12 ⟨Nat.zero_le _, Nat.zero_le _⟩) (fun H locs hP hD hS => ?_)
    refine lv_if_eq (tgt := 28) hx hb dX12_tension_15 (by decide) (fun c4 => ?_) (fun c4 => ?_)
    · have h := it_t h c4
      refine lv_iconst (v := 0) hx hb dX12_tension_28 (by decide) ?_
      exact RT 0 S0 _ _ _ _ h (by decide +kernel) hP hD hS dX12_tension_29
    · have h := it_f h c4
      refine lv_iload_n hx hb dX12_tension_18 rfl (lv_at hl 3 rfl) ?_
      refine lv_iconst (v := 0) hx hb dX12_tension_19 (by decide) ?_
      refine lv_bipush (v := 99) hx hb dX12_tension_20 (by decide) ?_
      obtain ⟨u5, hc, h⟩ := bd_el h
      refine ct_iN X hP hD hS (va_runS (As := [.int x3, .int 0, .int 99]) (rest := []) ⟨hx, hb, hml, hown, hg⟩ (c_X12_in l E  H.size x3 0 99 u5 hc) (va_cwS 3 hg (gwS wm_X12_110 wst_X12_in wini_X12 wco_X12_in) rfl rfl rfl (by decide +kernel) ⟨Nat.le_of_ble_eq_true rfl, Nat.le_of_ble_eq_true rfl⟩) ⟨ct_blind, ct_preN X hS _⟩ rfl rfl hl.1 rfl (lv_room (Nat.le_of_ble_eq_true rfl)) dX12_tension_22 ⟨Nat.zero_le _, Nat.zero_le _⟩) (fun H locs hP hD hS => ?_)
      refine lv_if_ne (tgt := 30) hx hb dX12_tension_25 (by decide) (fun c6 => ?_) (fun c6 => ?_)
      · have h := it_f h c6
        refine lv_aload_n hx hb dX12_tension_30 rfl (lv_at hl 0 rfl) ?_
        refine va_get (D := E.1) (ci := 11) (v := .ref (q0 1)) (C := RX12) (T := TX12) (N := 57) hx hb hg in_X12 hown X.1 hP 0 rfl rfl 0 (by decide) (hg _ wf_X12_7) (fun _ h9 => h9) rfl dX12_tension_31 ?_
        refine lv_iconst (v := 0) hx hb dX12_tension_34 (by decide) ?_
        refine lv_bipush (v := 8) hx hb dX12_tension_35 (by decide) ?_
        refine lv_iload_n hx hb dX12_tension_37 rfl (lv_at hl 1 rfl) ?_
        refine lv_imul hx hb dX12_tension_38 ?_
        refine lv_iadd hx hb dX12_tension_39 ?_
        refine lv_iload_n hx hb dX12_tension_40 rfl (lv_at hl 2 rfl) ?_
        refine lv_iadd hx hb dX12_tension_41 ?_
        refine lv_iload_n hx hb dX12_tension_42 rfl (lv_at hl 3 rfl) ?_
        obtain ⟨hi, h⟩ := ck_el h
        obtain ⟨S0_7, eS, h⟩ := lt_el h
        refine va_iast hx hb X.1 hP hD hS 1 0 rfl rfl hi dX12_tension_43 (fun H locs hP hD hS => ?_)
        have hP : va_P E.1 vwCl (cw_X12 E q0 S0_7) H := by rw [eS]; exact hP
        have hD : va_D A (cw_X12 E q0 S0_7) := by rw [eS]; exact hD
        clear eS
        refine lv_iconst (v := 1) hx hb dX12_tension_44 (by decide) ?_
        exact RT 1 S0_7 _ _ _ _ h (by decide +kernel) hP hD hS dX12_tension_45
      · have h := it_t h c6
        refine lv_iconst (v := 0) hx hb dX12_tension_28 (by decide) ?_
        exact RT 0 S0 _ _ _ _ h (by decide +kernel) hP hD hS dX12_tension_29
theorem dX12_copies_0 : decode cX12_copies 0 = .ok (.iconst 0, 1) := by decide +kernel
theorem dX12_copies_1 : decode cX12_copies 1 = .ok (.istore_n 2, 1) := by decide +kernel
theorem dX12_copies_2 : decode cX12_copies 2 = .ok (.iload_n 2, 1) := by decide +kernel
theorem dX12_copies_3 : decode cX12_copies 3 = .ok (.bipush 82, 2) := by decide +kernel
theorem dX12_copies_5 : decode cX12_copies 5 = .ok (.if_icmp .ge 15, 3) := by decide +kernel
theorem dX12_copies_8 : decode cX12_copies 8 = .ok (.aload_n 1, 1) := by decide +kernel
theorem dX12_copies_9 : decode cX12_copies 9 = .ok (.iload_n 2, 1) := by decide +kernel
theorem dX12_copies_10 : decode cX12_copies 10 = .ok (.aload_n 0, 1) := by decide +kernel
theorem dX12_copies_11 : decode cX12_copies 11 = .ok (.iload_n 2, 1) := by decide +kernel
theorem dX12_copies_12 : decode cX12_copies 12 = .ok (.iaload, 1) := by decide +kernel
theorem dX12_copies_13 : decode cX12_copies 13 = .ok (.iastore, 1) := by decide +kernel
theorem dX12_copies_14 : decode cX12_copies 14 = .ok (.iinc 2 1, 3) := by decide +kernel
theorem dX12_copies_17 : decode cX12_copies 17 = .ok (.goto (-15), 3) := by decide +kernel
theorem dX12_copies_20 : decode cX12_copies 20 = .ok (.return_, 1) := by decide +kernel
def f_X12_copies_n2 (S0 : Gr) : Nat → Gr → Int32 → Option (Gr)
  | 0, _, _ => none
  | n + 1, S1, x2 => if 82 ≤ x2 then (some S1) else (rd' (S0.2 0) 82 x2 fun v2 => ck' 82 x2 (lt' (sA S1 0 (Int32.toNatClampNeg x2) v2) fun S1_3 => lt' (x2 + 1) fun v4 => f_X12_copies_n2 S0 n S1_3 v4))
def f_X12_copies (S0 : Gr) (S1 : Gr) : Option (Gr) := f_X12_copies_n2 S0 fu S1 0
set_option maxHeartbeats 4000000 in
set_option maxRecDepth 100000 in
theorem c_X12_copies (l : Launch) (E : Ec) (q0 q1 : Nat → Nat) (sz : Nat) (S0 : Gr) (S1 : Gr) (Rv : Gr) (h : f_X12_copies S0 S1 = some Rv) : Met l yX12_copies (wsM (.code yX12_copies cX12_copies 3 none)) ({ frames := 0, cells := 0, slots := 0, locals := 0 } : Room) (va_Pc [.ref (q0 0), .ref (q1 0)] (ctP E (cw_XA E q0 S0 ++ (cw_XA E q1 S1)) sz)) (ctV E (cw_XA E q0 S0 ++ (cw_XA E q1 S1)) (cw_XA E q0 S0 ++ (cw_XA E q1 Rv)) sz) 0 0 (va_A (cw_XA E q0 S0 ++ (cw_XA E q1 S1)) sz) := by
  refine ct_metV (by decide) (Nat.le_of_ble_eq_true rfl) ?_
  intro p e s m ar below meth c A QM hx hb hml hown hg X hP hD hS RET ls hl
  have hown : s.vm.findClass RX12 = some m.cls := hown
  have hl : lv_has ls 3 [(0, .ref (q0 0)), (1, .ref (q1 0))] := hl
  have RT : ∀ (S1 : Gr) (H : Heap) (locs : List Loc) (ls : Array Slot) (pc : Nat), some S1 = some Rv → va_P E.1 vwCl (cw_XA E q0 S0 ++ (cw_XA E q1 S1)) H → va_D A (cw_XA E q0 S0 ++ (cw_XA E q1 S1)) → va_S A s.heap H locs → decode cX12_copies pc = .ok (.return_, 1) → W p l e ({ frames := 0, cells := 0, slots := 0, locals := 0 } : Room) s m ar below meth c H locs 0 0 QM (F0 m pc ls []) := by
    intro S1 H locs ls pc e hP hD hS d
    obtain rfl := sm_e e
    exact RET H locs pc ls hP hD hS d
  clear RET
  have N2 : ∀ (n : Nat) (S1 : Gr) (x2 : Int32) (H : Heap) (locs : List Loc) (ls : Array Slot), f_X12_copies_n2 S0 n S1 x2 = some Rv → va_P E.1 vwCl (cw_XA E q0 S0 ++ (cw_XA E q1 S1)) H → va_D A (cw_XA E q0 S0 ++ (cw_XA E q1 S1)) → va_S A s.heap H locs → lv_has ls 3 [(0, .ref (q0 0)), (1, .ref (q1 0)), (2, .int x2)] → W p l e ({ frames := 0, cells := 0, slots := 0, locals := 0 } : Room) s m ar below meth c H locs 0 0 QM (F0 m 2 ls []) := by
    intro n
    induction n with
    | zero => intro S1 x2 H locs ls h; exact nn_el h
    | succ n ih =>
      intro S1 x2 H locs ls h hP hD hS hl
      refine lv_iload_n hx hb dX12_copies_2 rfl (lv_at hl 2 rfl) ?_
      refine lv_bipush (v := 82) hx hb dX12_copies_3 (by decide) ?_
      refine lv_icmp_ge (tgt := 20) hx hb dX12_copies_5 (by decide) (fun c1 => ?_) (fun c1 => ?_)
      · have h := it_t h c1
        exact RT S1 _ _ _ _ h hP hD hS dX12_copies_20
      · have h := it_f h c1
        refine lv_aload_n hx hb dX12_copies_8 rfl (lv_at hl 1 rfl) ?_
        refine lv_iload_n hx hb dX12_copies_9 rfl (lv_at hl 2 rfl) ?_
        refine lv_aload_n hx hb dX12_copies_10 rfl (lv_at hl 0 rfl) ?_
        refine lv_iload_n hx hb dX12_copies_11 rfl (lv_at hl 2 rfl) ?_
        obtain ⟨hi, v2, ev2, h⟩ := rd_el h
        refine va_iald hx hb X.1 hP 0 0 rfl rfl hi dX12_copies_12 ?_
        refine lv_top' ev2 ?_
        obtain ⟨hi, h⟩ := ck_el h
        obtain ⟨S1_3, eS, h⟩ := lt_el h
        refine va_iast hx hb X.1 hP hD hS 1 0 rfl rfl hi dX12_copies_13 (fun H locs hP hD hS => ?_)
        have hP : va_P E.1 vwCl (cw_XA E q0 S0 ++ (cw_XA E q1 S1_3)) H := by rw [eS]; exact hP
        have hD : va_D A (cw_XA E q0 S0 ++ (cw_XA E q1 S1_3)) := by rw [eS]; exact hD
        clear eS
        obtain ⟨v4, ev4, h⟩ := lt_el h
        refine lv_iinc (v := v4) (lv' := [(2, .int v4), (0, .ref (q0 0)), (1, .ref (q1 0))]) hx hb dX12_copies_14 hl (k := 2) rfl (by rw [ev4]; rfl) (by decide) rfl (fun ls hl => ?_)
        refine lv_goto (tgt := 2) hx hb dX12_copies_17 (by decide) ?_
        exact ih S1_3 v4 _ _ _ h hP hD hS (lv_sub hl [1, 2, 0] rfl)
  obtain ⟨H, eH⟩ : ∃ z, z = s.heap := ⟨_, rfl⟩
  rw [← eH]
  have hP : va_P E.1 vwCl (cw_XA E q0 S0 ++ (cw_XA E q1 S1)) H := by rw [eH]; exact hP
  have hS : va_S A s.heap H [] := by rw [eH]; exact hS
  clear eH
  obtain ⟨locs, el⟩ : ∃ z : List Loc, z = [] := ⟨_, rfl⟩
  rw [← el] at hS ⊢
  clear el
  refine lv_iconst (v := 0) hx hb dX12_copies_0 (by decide) ?_
  refine lv_istore_n (lv' := [(2, .int 0), (0, .ref (q0 0)), (1, .ref (q1 0))]) hx hb dX12_copies_1 rfl hl (by decide) rfl (fun ls hl => ?_)
  exact N2 fu S1 0 _ _ _ h hP hD hS (lv_sub hl [1, 2, 0] rfl)
theorem dX12_slackOfAll_0 : decode cX12_slackOfAll 0 = .ok (.iconst 0, 1) := by decide +kernel
theorem dX12_slackOfAll_1 : decode cX12_slackOfAll 1 = .ok (.istore_n 1, 1) := by decide +kernel
theorem dX12_slackOfAll_2 : decode cX12_slackOfAll 2 = .ok (.iconst 0, 1) := by decide +kernel
theorem dX12_slackOfAll_3 : decode cX12_slackOfAll 3 = .ok (.istore_n 2, 1) := by decide +kernel
theorem dX12_slackOfAll_4 : decode cX12_slackOfAll 4 = .ok (.iload_n 2, 1) := by decide +kernel
theorem dX12_slackOfAll_5 : decode cX12_slackOfAll 5 = .ok (.bipush 8, 2) := by decide +kernel
theorem dX12_slackOfAll_7 : decode cX12_slackOfAll 7 = .ok (.if_icmp .ge 28, 3) := by decide +kernel
theorem dX12_slackOfAll_10 : decode cX12_slackOfAll 10 = .ok (.aload_n 0, 1) := by decide +kernel
theorem dX12_slackOfAll_11 : decode cX12_slackOfAll 11 = .ok (.iload_n 2, 1) := by decide +kernel
theorem dX12_slackOfAll_12 : decode cX12_slackOfAll 12 = .ok (.invokevirtual 139, 3) := by decide +kernel
theorem dX12_slackOfAll_15 : decode cX12_slackOfAll 15 = .ok (.ifCond .eq 14, 3) := by decide +kernel
theorem dX12_slackOfAll_18 : decode cX12_slackOfAll 18 = .ok (.iload_n 1, 1) := by decide +kernel
theorem dX12_slackOfAll_19 : decode cX12_slackOfAll 19 = .ok (.aload_n 0, 1) := by decide +kernel
theorem dX12_slackOfAll_20 : decode cX12_slackOfAll 20 = .ok (.iload_n 2, 1) := by decide +kernel
theorem dX12_slackOfAll_21 : decode cX12_slackOfAll 21 = .ok (.invokevirtual 288, 3) := by decide +kernel
theorem dX12_slackOfAll_24 : decode cX12_slackOfAll 24 = .ok (.invokestatic 291, 3) := by decide +kernel
theorem dX12_slackOfAll_27 : decode cX12_slackOfAll 27 = .ok (.iadd, 1) := by decide +kernel
theorem dX12_slackOfAll_28 : decode cX12_slackOfAll 28 = .ok (.istore_n 1, 1) := by decide +kernel
theorem dX12_slackOfAll_29 : decode cX12_slackOfAll 29 = .ok (.iinc 2 1, 3) := by decide +kernel
theorem dX12_slackOfAll_32 : decode cX12_slackOfAll 32 = .ok (.goto (-28), 3) := by decide +kernel
theorem dX12_slackOfAll_35 : decode cX12_slackOfAll 35 = .ok (.iload_n 1, 1) := by decide +kernel
theorem dX12_slackOfAll_36 : decode cX12_slackOfAll 36 = .ok (.ireturn, 1) := by decide +kernel
def f_X12_slackOfAll_n4 (S0 : Gr) : Nat → Int32 → Int32 → Option (Int32)
  | 0, _, _ => none
  | n + 1, x1, x2 => if 8 ≤ x2 then (some x1) else ((f_X12_isWeb S0 x2).bind fun u2 => if u2 = 0 then (lt' (x2 + 1) fun v4 => f_X12_slackOfAll_n4 S0 n x1 v4) else ((f_X12_slackOf S0 x2).bind fun u5 => (f_X12_bits u5).bind fun u6 => lt' ((x1 + u6)) fun v7 => lt' (x2 + 1) fun v8 => f_X12_slackOfAll_n4 S0 n v7 v8))
def f_X12_slackOfAll (S0 : Gr) : Option (Int32) := f_X12_slackOfAll_n4 S0 fu 0 0
set_option maxHeartbeats 4000000 in
set_option maxRecDepth 100000 in
theorem c_X12_slackOfAll (l : Launch) (E : Ec) (q0 : Nat → Nat) (sz : Nat) (S0 : Gr) (Rv : Int32) (h : f_X12_slackOfAll S0 = some Rv) : Met l yX12_slackOfAll (wsM (.code yX12_slackOfAll cX12_slackOfAll 3 (some .int))) ({ frames := 2, cells := 0, slots := 0, locals := 43 } : Room) (va_Pc [.ref (q0 0)] (ctP E (cw_X12 E q0 S0) sz)) (ctI E (cw_X12 E q0 S0) (cw_X12 E q0 S0) sz Rv) 0 0 (va_A (cw_X12 E q0 S0) sz) := by
  refine ct_metI (by decide) (Nat.le_of_ble_eq_true rfl) ?_
  intro p e s m ar below meth c A QM hx hb hml hown hg X hP hD hS RET ls hl
  have hown : s.vm.findClass RX12 = some m.cls := hown
  have hl : lv_has ls 3 [(0, .ref (q0 0))] := hl
  have RT : ∀ (v : Int32) (H : Heap) (locs : List Loc) (ls : Array Slot) (pc : Nat), some v = some Rv → narrow .int (.int v) = .int v → va_P E.1 vwCl (cw_X12 E q0 S0) H → va_D A (cw_X12 E q0 S0) → va_S A s.heap H locs → decode cX12_slackOfAll pc = .ok (.ireturn, 1) → W p l e ({ frames := 2, cells := 0, slots := 0, locals := 43 } : Room) s m ar below meth c H locs 0 0 QM (F0 m pc ls [.int v]) := by
    intro v H locs ls pc e hn hP hD hS d
    obtain rfl := sm_e e
    exact RET H locs pc ls hn hP hD hS d
  clear RET
  have N4 : ∀ (n : Nat) (x1 : Int32) (x2 : Int32) (H : Heap) (locs : List Loc) (ls : Array Slot), f_X12_slackOfAll_n4 S0 n x1 x2 = some Rv → va_P E.1 vwCl (cw_X12 E q0 S0) H → va_D A (cw_X12 E q0 S0) → va_S A s.heap H locs → lv_has ls 3 [(0, .ref (q0 0)), (1, .int x1), (2, .int x2)] → W p l e ({ frames := 2, cells := 0, slots := 0, locals := 43 } : Room) s m ar below meth c H locs 0 0 QM (F0 m 4 ls []) := by
    intro n
    induction n with
    | zero => intro x1 x2 H locs ls h; exact nn_el h
    | succ n ih =>
      intro x1 x2 H locs ls h hP hD hS hl
      refine lv_iload_n hx hb dX12_slackOfAll_4 rfl (lv_at hl 2 rfl) ?_
      refine lv_bipush (v := 8) hx hb dX12_slackOfAll_5 (by decide) ?_
      refine lv_icmp_ge (tgt := 35) hx hb dX12_slackOfAll_7 (by decide) (fun c1 => ?_) (fun c1 => ?_)
      · have h := it_t h c1
        refine lv_iload_n hx hb dX12_slackOfAll_35 rfl (lv_at hl 1 rfl) ?_
        exact RT x1 _ _ _ _ h rfl hP hD hS dX12_slackOfAll_36
      · have h := it_f h c1
        refine lv_aload_n hx hb dX12_slackOfAll_10 rfl (lv_at hl 0 rfl) ?_
        refine lv_iload_n hx hb dX12_slackOfAll_11 rfl (lv_at hl 2 rfl) ?_
        obtain ⟨u2, hc, h⟩ := bd_el h
        refine ct_iA (w1 := cw_X12 E q0 S0) X hP hD hS (va_runV (C := RX12) (As := [.int x2]) (rest := []) ⟨hx, hb, hml, hown, hg⟩ (c_X12_isWeb l E q0 H.size S0 x2 u2 hc) (cwV 1 hg (gwV wm_X12_139 wi_X12_isWeb wsl_X12_isWeb wini_X12 wco_X12_isWeb) rfl rfl rfl (by decide +kernel) ⟨Nat.le_of_ble_eq_true rfl, Nat.le_of_ble_eq_true rfl⟩) ⟨ct_blind, ct_rv X.1 hP 0 rfl rfl, ct_preA X hP hD hS _⟩ rfl rfl hl.1 rfl (lv_room (Nat.le_of_ble_eq_true rfl)) dX12_slackOfAll_12 ⟨Nat.zero_le _, Nat.zero_le _⟩) (fun H locs hP hD hS => ?_)
        refine lv_if_eq (tgt := 29) hx hb dX12_slackOfAll_15 (by decide) (fun c3 => ?_) (fun c3 => ?_)
        · have h := it_t h c3
          obtain ⟨v4, ev4, h⟩ := lt_el h
          refine lv_iinc (v := v4) (lv' := [(2, .int v4), (0, .ref (q0 0)), (1, .int x1)]) hx hb dX12_slackOfAll_29 hl (k := 2) rfl (by rw [ev4]; rfl) (by decide) rfl (fun ls hl => ?_)
          refine lv_goto (tgt := 4) hx hb dX12_slackOfAll_32 (by decide) ?_
          exact ih x1 v4 _ _ _ h hP hD hS (lv_sub hl [1, 2, 0] rfl)
        · have h := it_f h c3
          refine lv_iload_n hx hb dX12_slackOfAll_18 rfl (lv_at hl 1 rfl) ?_
          refine lv_aload_n hx hb dX12_slackOfAll_19 rfl (lv_at hl 0 rfl) ?_
          refine lv_iload_n hx hb dX12_slackOfAll_20 rfl (lv_at hl 2 rfl) ?_
          obtain ⟨u5, hc, h⟩ := bd_el h
          refine ct_iA (w1 := cw_X12 E q0 S0) X hP hD hS (va_runV (C := RX12) (As := [.int x2]) (rest := [.int x1]) ⟨hx, hb, hml, hown, hg⟩ (c_X12_slackOf l E q0 H.size S0 x2 u5 hc) (cwV 1 hg (gwV wm_X12_288 wi_X12_slackOf wsl_X12_slackOf wini_X12 wco_X12_slackOf) rfl rfl rfl (by decide +kernel) ⟨Nat.le_of_ble_eq_true rfl, Nat.le_of_ble_eq_true rfl⟩) ⟨ct_blind, ct_rv X.1 hP 0 rfl rfl, ct_preA X hP hD hS _⟩ rfl rfl hl.1 rfl (lv_room (Nat.le_of_ble_eq_true rfl)) dX12_slackOfAll_21 ⟨Nat.zero_le _, Nat.zero_le _⟩) (fun H locs hP hD hS => ?_)
          obtain ⟨u6, hc, h⟩ := bd_el h
          refine ct_iN X hP hD hS (va_runS (As := [.int u5]) (rest := [.int x1]) ⟨hx, hb, hml, hown, hg⟩ (c_X12_bits l E  H.size u5 u6 hc) (va_cwS 1 hg (gwS wm_X12_291 wst_X12_bits wini_X12 wco_X12_bits) rfl rfl rfl (by decide +kernel) ⟨Nat.le_of_ble_eq_true rfl, Nat.le_of_ble_eq_true rfl⟩) ⟨ct_blind, ct_preN X hS _⟩ rfl rfl hl.1 rfl (lv_room (Nat.le_of_ble_eq_true rfl)) dX12_slackOfAll_24 ⟨Nat.zero_le _, Nat.zero_le _⟩) (fun H locs hP hD hS => ?_)
          refine lv_iadd hx hb dX12_slackOfAll_27 ?_
          obtain ⟨v7, ev7, h⟩ := lt_el h
          refine lv_top' ev7 ?_
          refine lv_istore_n (lv' := [(1, .int v7), (0, .ref (q0 0)), (2, .int x2)]) hx hb dX12_slackOfAll_28 rfl hl (by decide) rfl (fun ls hl => ?_)
          obtain ⟨v8, ev8, h⟩ := lt_el h
          refine lv_iinc (v := v8) (lv' := [(2, .int v8), (1, .int v7), (0, .ref (q0 0))]) hx hb dX12_slackOfAll_29 hl (k := 2) rfl (by rw [ev8]; rfl) (by decide) rfl (fun ls hl => ?_)
          refine lv_goto (tgt := 4) hx hb dX12_slackOfAll_32 (by decide) ?_
          exact ih v7 v8 _ _ _ h hP hD hS (lv_sub hl [2, 1, 0] rfl)
  obtain ⟨H, eH⟩ : ∃ z, z = s.heap := ⟨_, rfl⟩
  rw [← eH]
  have hP : va_P E.1 vwCl (cw_X12 E q0 S0) H := by rw [eH]; exact hP
  have hS : va_S A s.heap H [] := by rw [eH]; exact hS
  clear eH
  obtain ⟨locs, el⟩ : ∃ z : List Loc, z = [] := ⟨_, rfl⟩
  rw [← el] at hS ⊢
  clear el
  refine lv_iconst (v := 0) hx hb dX12_slackOfAll_0 (by decide) ?_
  refine lv_istore_n (lv' := [(1, .int 0), (0, .ref (q0 0))]) hx hb dX12_slackOfAll_1 rfl hl (by decide) rfl (fun ls hl => ?_)
  refine lv_iconst (v := 0) hx hb dX12_slackOfAll_2 (by decide) ?_
  refine lv_istore_n (lv' := [(2, .int 0), (1, .int 0), (0, .ref (q0 0))]) hx hb dX12_slackOfAll_3 rfl hl (by decide) rfl (fun ls hl => ?_)
  exact N4 fu 0 0 _ _ _ h hP hD hS (lv_sub hl [2, 1, 0] rfl)
theorem dX12_tensionsOf_0 : decode cX12_tensionsOf 0 = .ok (.iconst 0, 1) := by decide +kernel
theorem dX12_tensionsOf_1 : decode cX12_tensionsOf 1 = .ok (.istore_n 2, 1) := by decide +kernel
theorem dX12_tensionsOf_2 : decode cX12_tensionsOf 2 = .ok (.iconst 0, 1) := by decide +kernel
theorem dX12_tensionsOf_3 : decode cX12_tensionsOf 3 = .ok (.istore_n 3, 1) := by decide +kernel
theorem dX12_tensionsOf_4 : decode cX12_tensionsOf 4 = .ok (.iload_n 3, 1) := by decide +kernel
theorem dX12_tensionsOf_5 : decode cX12_tensionsOf 5 = .ok (.bipush 8, 2) := by decide +kernel
theorem dX12_tensionsOf_7 : decode cX12_tensionsOf 7 = .ok (.if_icmp .ge 25, 3) := by decide +kernel
theorem dX12_tensionsOf_10 : decode cX12_tensionsOf 10 = .ok (.iload_n 2, 1) := by decide +kernel
theorem dX12_tensionsOf_11 : decode cX12_tensionsOf 11 = .ok (.aload_n 0, 1) := by decide +kernel
theorem dX12_tensionsOf_12 : decode cX12_tensionsOf 12 = .ok (.getfield 7, 3) := by decide +kernel
theorem dX12_tensionsOf_15 : decode cX12_tensionsOf 15 = .ok (.iconst 0, 1) := by decide +kernel
theorem dX12_tensionsOf_16 : decode cX12_tensionsOf 16 = .ok (.bipush 8, 2) := by decide +kernel
theorem dX12_tensionsOf_18 : decode cX12_tensionsOf 18 = .ok (.iload_n 1, 1) := by decide +kernel
theorem dX12_tensionsOf_19 : decode cX12_tensionsOf 19 = .ok (.imul, 1) := by decide +kernel
theorem dX12_tensionsOf_20 : decode cX12_tensionsOf 20 = .ok (.iadd, 1) := by decide +kernel
theorem dX12_tensionsOf_21 : decode cX12_tensionsOf 21 = .ok (.iload_n 3, 1) := by decide +kernel
theorem dX12_tensionsOf_22 : decode cX12_tensionsOf 22 = .ok (.iadd, 1) := by decide +kernel
theorem dX12_tensionsOf_23 : decode cX12_tensionsOf 23 = .ok (.iaload, 1) := by decide +kernel
theorem dX12_tensionsOf_24 : decode cX12_tensionsOf 24 = .ok (.iadd, 1) := by decide +kernel
theorem dX12_tensionsOf_25 : decode cX12_tensionsOf 25 = .ok (.istore_n 2, 1) := by decide +kernel
theorem dX12_tensionsOf_26 : decode cX12_tensionsOf 26 = .ok (.iinc 3 1, 3) := by decide +kernel
theorem dX12_tensionsOf_29 : decode cX12_tensionsOf 29 = .ok (.goto (-25), 3) := by decide +kernel
theorem dX12_tensionsOf_32 : decode cX12_tensionsOf 32 = .ok (.iload_n 2, 1) := by decide +kernel
theorem dX12_tensionsOf_33 : decode cX12_tensionsOf 33 = .ok (.ireturn, 1) := by decide +kernel
def f_X12_tensionsOf_n4 (S0 : Gr) (x1 : Int32) : Nat → Int32 → Int32 → Option (Int32)
  | 0, _, _ => none
  | n + 1, x2, x3 => if 8 ≤ x3 then (some x2) else (rd' (S0.2 0) 82 ((0 + (8 * x1)) + x3) fun v2 => lt' ((x2 + v2)) fun v3 => lt' (x3 + 1) fun v4 => f_X12_tensionsOf_n4 S0 x1 n v3 v4)
def f_X12_tensionsOf (S0 : Gr) (x1 : Int32) : Option (Int32) := f_X12_tensionsOf_n4 S0 x1 fu 0 0
set_option maxHeartbeats 4000000 in
set_option maxRecDepth 100000 in
theorem c_X12_tensionsOf (l : Launch) (E : Ec) (q0 : Nat → Nat) (sz : Nat) (S0 : Gr) (x1 : Int32) (Rv : Int32) (h : f_X12_tensionsOf S0 x1 = some Rv) : Met l yX12_tensionsOf (wsM (.code yX12_tensionsOf cX12_tensionsOf 4 (some .int))) ({ frames := 0, cells := 0, slots := 0, locals := 0 } : Room) (va_Pc [.ref (q0 0), .int x1] (ctP E (cw_X12 E q0 S0) sz)) (ctI E (cw_X12 E q0 S0) (cw_X12 E q0 S0) sz Rv) 0 0 (va_A (cw_X12 E q0 S0) sz) := by
  refine ct_metI (by decide) (Nat.le_of_ble_eq_true rfl) ?_
  intro p e s m ar below meth c A QM hx hb hml hown hg X hP hD hS RET ls hl
  have hown : s.vm.findClass RX12 = some m.cls := hown
  have hl : lv_has ls 4 [(0, .ref (q0 0)), (1, .int x1)] := hl
  have RT : ∀ (v : Int32) (H : Heap) (locs : List Loc) (ls : Array Slot) (pc : Nat), some v = some Rv → narrow .int (.int v) = .int v → va_P E.1 vwCl (cw_X12 E q0 S0) H → va_D A (cw_X12 E q0 S0) → va_S A s.heap H locs → decode cX12_tensionsOf pc = .ok (.ireturn, 1) → W p l e ({ frames := 0, cells := 0, slots := 0, locals := 0 } : Room) s m ar below meth c H locs 0 0 QM (F0 m pc ls [.int v]) := by
    intro v H locs ls pc e hn hP hD hS d
    obtain rfl := sm_e e
    exact RET H locs pc ls hn hP hD hS d
  clear RET
  have N4 : ∀ (n : Nat) (x2 : Int32) (x3 : Int32) (H : Heap) (locs : List Loc) (ls : Array Slot), f_X12_tensionsOf_n4 S0 x1 n x2 x3 = some Rv → va_P E.1 vwCl (cw_X12 E q0 S0) H → va_D A (cw_X12 E q0 S0) → va_S A s.heap H locs → lv_has ls 4 [(0, .ref (q0 0)), (1, .int x1), (2, .int x2), (3, .int x3)] → W p l e ({ frames := 0, cells := 0, slots := 0, locals := 0 } : Room) s m ar below meth c H locs 0 0 QM (F0 m 4 ls []) := by
    intro n
    induction n with
    | zero => intro x2 x3 H locs ls h; exact nn_el h
    | succ n ih =>
      intro x2 x3 H locs ls h hP hD hS hl
      refine lv_iload_n hx hb dX12_tensionsOf_4 rfl (lv_at hl 3 rfl) ?_
      refine lv_bipush (v := 8) hx hb dX12_tensionsOf_5 (by decide) ?_
      refine lv_icmp_ge (tgt := 32) hx hb dX12_tensionsOf_7 (by decide) (fun c1 => ?_) (fun c1 => ?_)
      · have h := it_t h c1
        refine lv_iload_n hx hb dX12_tensionsOf_32 rfl (lv_at hl 2 rfl) ?_
        exact RT x2 _ _ _ _ h rfl hP hD hS dX12_tensionsOf_33
      · have h := it_f h c1
        refine lv_iload_n hx hb dX12_tensionsOf_10 rfl (lv_at hl 2 rfl) ?_
        refine lv_aload_n hx hb dX12_tensionsOf_11 rfl (lv_at hl 0 rfl) ?_
        refine va_get (D := E.1) (ci := 11) (v := .ref (q0 1)) (C := RX12) (T := TX12) (N := 57) hx hb hg in_X12 hown X.1 hP 0 rfl rfl 0 (by decide) (hg _ wf_X12_7) (fun _ h9 => h9) rfl dX12_tensionsOf_12 ?_
        refine lv_iconst (v := 0) hx hb dX12_tensionsOf_15 (by decide) ?_
        refine lv_bipush (v := 8) hx hb dX12_tensionsOf_16 (by decide) ?_
        refine lv_iload_n hx hb dX12_tensionsOf_18 rfl (lv_at hl 1 rfl) ?_
        refine lv_imul hx hb dX12_tensionsOf_19 ?_
        refine lv_iadd hx hb dX12_tensionsOf_20 ?_
        refine lv_iload_n hx hb dX12_tensionsOf_21 rfl (lv_at hl 3 rfl) ?_
        refine lv_iadd hx hb dX12_tensionsOf_22 ?_
        obtain ⟨hi, v2, ev2, h⟩ := rd_el h
        refine va_iald hx hb X.1 hP 1 0 rfl rfl hi dX12_tensionsOf_23 ?_
        refine lv_top' ev2 ?_
        refine lv_iadd hx hb dX12_tensionsOf_24 ?_
        obtain ⟨v3, ev3, h⟩ := lt_el h
        refine lv_top' ev3 ?_
        refine lv_istore_n (lv' := [(2, .int v3), (0, .ref (q0 0)), (1, .int x1), (3, .int x3)]) hx hb dX12_tensionsOf_25 rfl hl (by decide) rfl (fun ls hl => ?_)
        obtain ⟨v4, ev4, h⟩ := lt_el h
        refine lv_iinc (v := v4) (lv' := [(3, .int v4), (2, .int v3), (0, .ref (q0 0)), (1, .int x1)]) hx hb dX12_tensionsOf_26 hl (k := 3) rfl (by rw [ev4]; rfl) (by decide) rfl (fun ls hl => ?_)
        refine lv_goto (tgt := 4) hx hb dX12_tensionsOf_29 (by decide) ?_
        exact ih v3 v4 _ _ _ h hP hD hS (lv_sub hl [2, 3, 1, 0] rfl)
  obtain ⟨H, eH⟩ : ∃ z, z = s.heap := ⟨_, rfl⟩
  rw [← eH]
  have hP : va_P E.1 vwCl (cw_X12 E q0 S0) H := by rw [eH]; exact hP
  have hS : va_S A s.heap H [] := by rw [eH]; exact hS
  clear eH
  obtain ⟨locs, el⟩ : ∃ z : List Loc, z = [] := ⟨_, rfl⟩
  rw [← el] at hS ⊢
  clear el
  refine lv_iconst (v := 0) hx hb dX12_tensionsOf_0 (by decide) ?_
  refine lv_istore_n (lv' := [(2, .int 0), (0, .ref (q0 0)), (1, .int x1)]) hx hb dX12_tensionsOf_1 rfl hl (by decide) rfl (fun ls hl => ?_)
  refine lv_iconst (v := 0) hx hb dX12_tensionsOf_2 (by decide) ?_
  refine lv_istore_n (lv' := [(3, .int 0), (2, .int 0), (0, .ref (q0 0)), (1, .int x1)]) hx hb dX12_tensionsOf_3 rfl hl (by decide) rfl (fun ls hl => ?_)
  exact N4 fu 0 0 _ _ _ h hP hD hS (lv_sub hl [2, 3, 1, 0] rfl)
theorem dX12_tried_0 : decode cX12_tried 0 = .ok (.iload_n 1, 1) := by decide +kernel
theorem dX12_tried_1 : decode cX12_tried 1 = .ok (.iconst 1, 1) := by decide +kernel
theorem dX12_tried_2 : decode cX12_tried 2 = .ok (.bipush 100, 2) := by decide +kernel
theorem dX12_tried_4 : decode cX12_tried 4 = .ok (.invokestatic 110, 3) := by decide +kernel
theorem dX12_tried_7 : decode cX12_tried 7 = .ok (.ifCond .eq 45, 3) := by decide +kernel
theorem dX12_tried_10 : decode cX12_tried 10 = .ok (.iload_n 2, 1) := by decide +kernel
theorem dX12_tried_11 : decode cX12_tried 11 = .ok (.iconst 0, 1) := by decide +kernel
theorem dX12_tried_12 : decode cX12_tried 12 = .ok (.iconst 1, 1) := by decide +kernel
theorem dX12_tried_13 : decode cX12_tried 13 = .ok (.invokestatic 110, 3) := by decide +kernel
theorem dX12_tried_16 : decode cX12_tried 16 = .ok (.ifCond .ne 38, 3) := by decide +kernel
theorem dX12_tried_19 : decode cX12_tried 19 = .ok (.aload_n 0, 1) := by decide +kernel
theorem dX12_tried_20 : decode cX12_tried 20 = .ok (.iload_n 2, 1) := by decide +kernel
theorem dX12_tried_21 : decode cX12_tried 21 = .ok (.bipush 10, 2) := by decide +kernel
theorem dX12_tried_23 : decode cX12_tried 23 = .ok (.isub, 1) := by decide +kernel
theorem dX12_tried_24 : decode cX12_tried 24 = .ok (.invokevirtual 139, 3) := by decide +kernel
theorem dX12_tried_27 : decode cX12_tried 27 = .ok (.ifCond .ne 27, 3) := by decide +kernel
theorem dX12_tried_30 : decode cX12_tried 30 = .ok (.aload_n 0, 1) := by decide +kernel
theorem dX12_tried_31 : decode cX12_tried 31 = .ok (.iload_n 2, 1) := by decide +kernel
theorem dX12_tried_32 : decode cX12_tried 32 = .ok (.bipush 20, 2) := by decide +kernel
theorem dX12_tried_34 : decode cX12_tried 34 = .ok (.isub, 1) := by decide +kernel
theorem dX12_tried_35 : decode cX12_tried 35 = .ok (.invokevirtual 282, 3) := by decide +kernel
theorem dX12_tried_38 : decode cX12_tried 38 = .ok (.ifCond .ne 16, 3) := by decide +kernel
theorem dX12_tried_41 : decode cX12_tried 41 = .ok (.aload_n 0, 1) := by decide +kernel
theorem dX12_tried_42 : decode cX12_tried 42 = .ok (.iload_n 2, 1) := by decide +kernel
theorem dX12_tried_43 : decode cX12_tried 43 = .ok (.bipush 30, 2) := by decide +kernel
theorem dX12_tried_45 : decode cX12_tried 45 = .ok (.isub, 1) := by decide +kernel
theorem dX12_tried_46 : decode cX12_tried 46 = .ok (.invokevirtual 282, 3) := by decide +kernel
theorem dX12_tried_49 : decode cX12_tried 49 = .ok (.ifCond .ne 5, 3) := by decide +kernel
theorem dX12_tried_52 : decode cX12_tried 52 = .ok (.iconst (-1), 1) := by decide +kernel
theorem dX12_tried_53 : decode cX12_tried 53 = .ok (.ireturn, 1) := by decide +kernel
theorem dX12_tried_54 : decode cX12_tried 54 = .ok (.aload_n 0, 1) := by decide +kernel
theorem dX12_tried_55 : decode cX12_tried 55 = .ok (.getfield 7, 3) := by decide +kernel
theorem dX12_tried_58 : decode cX12_tried 58 = .ok (.aload_n 0, 1) := by decide +kernel
theorem dX12_tried_59 : decode cX12_tried 59 = .ok (.getfield 13, 3) := by decide +kernel
theorem dX12_tried_62 : decode cX12_tried 62 = .ok (.invokestatic 335, 3) := by decide +kernel
theorem dX12_tried_65 : decode cX12_tried 65 = .ok (.aload_n 0, 1) := by decide +kernel
theorem dX12_tried_66 : decode cX12_tried 66 = .ok (.iload_n 1, 1) := by decide +kernel
theorem dX12_tried_67 : decode cX12_tried 67 = .ok (.invokevirtual 332, 3) := by decide +kernel
theorem dX12_tried_70 : decode cX12_tried 70 = .ok (.iload_n 2, 1) := by decide +kernel
theorem dX12_tried_71 : decode cX12_tried 71 = .ok (.lookupswitch 41 #[(0, 25), (1, 33)], 25) := by decide +kernel
theorem dX12_tried_96 : decode cX12_tried 96 = .ok (.aload_n 0, 1) := by decide +kernel
theorem dX12_tried_97 : decode cX12_tried 97 = .ok (.getfield 314, 3) := by decide +kernel
theorem dX12_tried_100 : decode cX12_tried 100 = .ok (.istore_n 3, 1) := by decide +kernel
theorem dX12_tried_101 : decode cX12_tried 101 = .ok (.goto 65, 3) := by decide +kernel
theorem dX12_tried_104 : decode cX12_tried 104 = .ok (.aload_n 0, 1) := by decide +kernel
theorem dX12_tried_105 : decode cX12_tried 105 = .ok (.invokevirtual 339, 3) := by decide +kernel
theorem dX12_tried_108 : decode cX12_tried 108 = .ok (.istore_n 3, 1) := by decide +kernel
theorem dX12_tried_109 : decode cX12_tried 109 = .ok (.goto 57, 3) := by decide +kernel
theorem dX12_tried_112 : decode cX12_tried 112 = .ok (.iload_n 2, 1) := by decide +kernel
theorem dX12_tried_113 : decode cX12_tried 113 = .ok (.bipush 20, 2) := by decide +kernel
theorem dX12_tried_115 : decode cX12_tried 115 = .ok (.if_icmp .ge 14, 3) := by decide +kernel
theorem dX12_tried_118 : decode cX12_tried 118 = .ok (.aload_n 0, 1) := by decide +kernel
theorem dX12_tried_119 : decode cX12_tried 119 = .ok (.iload_n 2, 1) := by decide +kernel
theorem dX12_tried_120 : decode cX12_tried 120 = .ok (.bipush 10, 2) := by decide +kernel
theorem dX12_tried_122 : decode cX12_tried 122 = .ok (.isub, 1) := by decide +kernel
theorem dX12_tried_123 : decode cX12_tried 123 = .ok (.invokevirtual 342, 3) := by decide +kernel
theorem dX12_tried_126 : decode cX12_tried 126 = .ok (.goto 39, 3) := by decide +kernel
theorem dX12_tried_129 : decode cX12_tried 129 = .ok (.iload_n 2, 1) := by decide +kernel
theorem dX12_tried_130 : decode cX12_tried 130 = .ok (.bipush 30, 2) := by decide +kernel
theorem dX12_tried_132 : decode cX12_tried 132 = .ok (.if_icmp .ge 18, 3) := by decide +kernel
theorem dX12_tried_135 : decode cX12_tried 135 = .ok (.aload_n 0, 1) := by decide +kernel
theorem dX12_tried_136 : decode cX12_tried 136 = .ok (.getfield 7, 3) := by decide +kernel
theorem dX12_tried_139 : decode cX12_tried 139 = .ok (.bipush 64, 2) := by decide +kernel
theorem dX12_tried_141 : decode cX12_tried 141 = .ok (.iload_n 2, 1) := by decide +kernel
theorem dX12_tried_142 : decode cX12_tried 142 = .ok (.iadd, 1) := by decide +kernel
theorem dX12_tried_143 : decode cX12_tried 143 = .ok (.bipush 20, 2) := by decide +kernel
theorem dX12_tried_145 : decode cX12_tried 145 = .ok (.isub, 1) := by decide +kernel
theorem dX12_tried_146 : decode cX12_tried 146 = .ok (.iaload, 1) := by decide +kernel
theorem dX12_tried_147 : decode cX12_tried 147 = .ok (.goto 18, 3) := by decide +kernel
theorem dX12_tried_150 : decode cX12_tried 150 = .ok (.aload_n 0, 1) := by decide +kernel
theorem dX12_tried_151 : decode cX12_tried 151 = .ok (.getfield 7, 3) := by decide +kernel
theorem dX12_tried_154 : decode cX12_tried 154 = .ok (.bipush 72, 2) := by decide +kernel
theorem dX12_tried_156 : decode cX12_tried 156 = .ok (.iload_n 2, 1) := by decide +kernel
theorem dX12_tried_157 : decode cX12_tried 157 = .ok (.iadd, 1) := by decide +kernel
theorem dX12_tried_158 : decode cX12_tried 158 = .ok (.bipush 30, 2) := by decide +kernel
theorem dX12_tried_160 : decode cX12_tried 160 = .ok (.isub, 1) := by decide +kernel
theorem dX12_tried_161 : decode cX12_tried 161 = .ok (.iaload, 1) := by decide +kernel
theorem dX12_tried_162 : decode cX12_tried 162 = .ok (.invokestatic 345, 3) := by decide +kernel
theorem dX12_tried_165 : decode cX12_tried 165 = .ok (.istore_n 3, 1) := by decide +kernel
theorem dX12_tried_166 : decode cX12_tried 166 = .ok (.aload_n 0, 1) := by decide +kernel
theorem dX12_tried_167 : decode cX12_tried 167 = .ok (.getfield 13, 3) := by decide +kernel
theorem dX12_tried_170 : decode cX12_tried 170 = .ok (.aload_n 0, 1) := by decide +kernel
theorem dX12_tried_171 : decode cX12_tried 171 = .ok (.getfield 7, 3) := by decide +kernel
theorem dX12_tried_174 : decode cX12_tried 174 = .ok (.invokestatic 335, 3) := by decide +kernel
theorem dX12_tried_177 : decode cX12_tried 177 = .ok (.iload_n 3, 1) := by decide +kernel
theorem dX12_tried_178 : decode cX12_tried 178 = .ok (.ireturn, 1) := by decide +kernel
def f_X12_tried_n165 (x1 : Int32) (x2 : Int32) (S0 : Gr) (w0 : Int32) : Option (Int32 × Gr) := (f_X12_copies ((fun _ => 0, fun _ => S0.2 1) : Gr) ((fun _ => 0, fun _ => S0.2 0) : Gr)).bind fun u28 => lt' (sR S0 0 (u28.2 0)) fun S0_29 => some (w0, S0_29)
def f_X12_tried_n54 (x1 : Int32) (x2 : Int32) (S0 : Gr) : Option (Int32 × Gr) := (f_X12_copies ((fun _ => 0, fun _ => S0.2 0) : Gr) ((fun _ => 0, fun _ => S0.2 1) : Gr)).bind fun u11 => lt' (sR S0 1 (u11.2 0)) fun S0_12 => (f_X12_hoursGo S0_12 x1).bind fun u13 => if x2 = 0 then (lt' ((u13.1 39)) fun v15 => (f_X12_copies ((fun _ => 0, fun _ => u13.2 1) : Gr) ((fun _ => 0, fun _ => u13.2 0) : Gr)).bind fun u16 => lt' (sR u13 0 (u16.2 0)) fun S0_17 => some (v15, S0_17)) else if x2 = 1 then ((f_X12_slackOfAll u13).bind fun u19 => (f_X12_copies ((fun _ => 0, fun _ => u13.2 1) : Gr) ((fun _ => 0, fun _ => u13.2 0) : Gr)).bind fun u20 => lt' (sR u13 0 (u20.2 0)) fun S0_21 => some (u19, S0_21)) else (if 20 ≤ x2 then (if 30 ≤ x2 then (rd' (u13.2 0) 82 ((72 + x2) - 30) fun v24 => (f_X12_orNone v24).bind fun u25 => f_X12_tried_n165 x1 x2 u13 u25) else (rd' (u13.2 0) 82 ((64 + x2) - 20) fun v26 => f_X12_tried_n165 x1 x2 u13 v26)) else ((f_X12_tensionsOf u13 (x2 - 10)).bind fun u27 => f_X12_tried_n165 x1 x2 u13 u27))
def f_X12_tried (S0 : Gr) (x1 : Int32) (x2 : Int32) : Option (Int32 × Gr) := (f_X12_in x1 1 100).bind fun u1 => if u1 = 0 then (some ((-1), S0)) else ((f_X12_in x2 0 1).bind fun u3 => if u3 = 0 then ((f_X12_isWeb S0 (x2 - 10)).bind fun u5 => if u5 = 0 then ((f_X12_isFleet S0 (x2 - 20)).bind fun u7 => if u7 = 0 then ((f_X12_isFleet S0 (x2 - 30)).bind fun u9 => if u9 = 0 then (some ((-1), S0)) else (f_X12_tried_n54 x1 x2 S0)) else (f_X12_tried_n54 x1 x2 S0)) else (f_X12_tried_n54 x1 x2 S0)) else (f_X12_tried_n54 x1 x2 S0))
set_option maxHeartbeats 4000000 in
set_option maxRecDepth 100000 in
theorem c_X12_tried (l : Launch) (E : Ec) (q0 : Nat → Nat) (sz : Nat) (S0 : Gr) (x1 : Int32) (x2 : Int32) (Rv : Int32 × Gr) (h : f_X12_tried S0 x1 x2 = some Rv) : Met l yX12_tried (wsM (.code yX12_tried cX12_tried 4 (some .int))) ({ frames := 6, cells := 0, slots := 0, locals := 141 } : Room) (va_Pc [.ref (q0 0), .int x1, .int x2] (ctP E (cw_X12 E q0 S0) sz)) (ctI E (cw_X12 E q0 S0) (cw_X12 E q0 Rv.2) sz Rv.1) 0 0 (va_A (cw_X12 E q0 S0) sz) := by
  refine ct_metI (by decide) (Nat.le_of_ble_eq_true rfl) ?_
  intro p e s m ar below meth c A QM hx hb hml hown hg X hP hD hS RET ls hl
  have hown : s.vm.findClass RX12 = some m.cls := hown
  have hl : lv_has ls 4 [(0, .ref (q0 0)), (1, .int x1), (2, .int x2)] := hl
  have RT : ∀ (v : Int32) (S0 : Gr) (H : Heap) (locs : List Loc) (ls : Array Slot) (pc : Nat), some (v, S0) = some Rv → narrow .int (.int v) = .int v → va_P E.1 vwCl (cw_X12 E q0 S0) H → va_D A (cw_X12 E q0 S0) → va_S A s.heap H locs → decode cX12_tried pc = .ok (.ireturn, 1) → W p l e ({ frames := 6, cells := 0, slots := 0, locals := 141 } : Room) s m ar below meth c H locs 0 0 QM (F0 m pc ls [.int v]) := by
    intro v S0 H locs ls pc e hn hP hD hS d
    obtain rfl := sm_e e
    exact RET H locs pc ls hn hP hD hS d
  clear RET
  have N165 : ∀ (S0 : Gr) (w0 : Int32) (H : Heap) (locs : List Loc) (ls : Array Slot), f_X12_tried_n165 x1 x2 S0 w0 = some Rv → va_P E.1 vwCl (cw_X12 E q0 S0) H → va_D A (cw_X12 E q0 S0) → va_S A s.heap H locs → lv_has ls 4 [(0, .ref (q0 0))] → W p l e ({ frames := 6, cells := 0, slots := 0, locals := 141 } : Room) s m ar below meth c H locs 0 0 QM (F0 m 165 ls [.int w0]) := by
    intro S0 w0 H locs ls h hP hD hS hl
    refine lv_istore_n (lv' := [(3, .int w0), (0, .ref (q0 0))]) hx hb dX12_tried_165 rfl hl (by decide) rfl (fun ls hl => ?_)
    refine lv_aload_n hx hb dX12_tried_166 rfl (lv_at hl 1 rfl) ?_
    refine va_get (D := E.1) (ci := 11) (v := .ref (q0 2)) (C := RX12) (T := TX12) (N := 57) hx hb hg in_X12 hown X.1 hP 0 rfl rfl 1 (by decide) (hg _ wf_X12_13) (fun _ h9 => h9) rfl dX12_tried_167 ?_
    refine lv_aload_n hx hb dX12_tried_170 rfl (lv_at hl 1 rfl) ?_
    refine va_get (D := E.1) (ci := 11) (v := .ref (q0 1)) (C := RX12) (T := TX12) (N := 57) hx hb hg in_X12 hown X.1 hP 0 rfl rfl 0 (by decide) (hg _ wf_X12_7) (fun _ h9 => h9) rfl dX12_tried_171 ?_
    obtain ⟨u28, hc, h⟩ := bd_el h
    obtain ⟨S0_29, eS, h⟩ := lt_el h
    refine ct_v (ws' := cw_X12 E q0 (sR S0 0 (u28.2 0))) X hP hD hS [2, 1] (va_runS (As := [.ref (q0 2), .ref (q0 1)]) (rest := []) ⟨hx, hb, hml, hown, hg⟩ (c_X12_copies l E (fun _ => q0 2) (fun _ => q0 1) H.size ((fun _ => 0, fun _ => S0.2 1) : Gr) ((fun _ => 0, fun _ => S0.2 0) : Gr) u28 hc) (va_cwS 2 hg (gwS wm_X12_335 wst_X12_copies wini_X12 wco_X12_copies) rfl rfl rfl (by decide +kernel) ⟨Nat.le_of_ble_eq_true rfl, Nat.le_of_ble_eq_true rfl⟩) ⟨ct_blind, ct_pre X hP hD hS [2, 1] (by decide) rfl _⟩ rfl rfl hl.1 rfl (lv_room (Nat.le_of_ble_eq_true rfl)) dX12_tried_174 ⟨Nat.zero_le _, Nat.zero_le _⟩) rfl rfl rfl (fun H locs hP hD hS => ?_)
    have hP : va_P E.1 vwCl (cw_X12 E q0 S0_29) H := by rw [eS]; exact hP
    have hD : va_D A (cw_X12 E q0 S0_29) := by rw [eS]; exact hD
    clear eS
    refine lv_iload_n hx hb dX12_tried_177 rfl (lv_at hl 0 rfl) ?_
    exact RT w0 S0_29 _ _ _ _ h rfl hP hD hS dX12_tried_178
  have N54 : ∀ (S0 : Gr) (H : Heap) (locs : List Loc) (ls : Array Slot), f_X12_tried_n54 x1 x2 S0 = some Rv → va_P E.1 vwCl (cw_X12 E q0 S0) H → va_D A (cw_X12 E q0 S0) → va_S A s.heap H locs → lv_has ls 4 [(0, .ref (q0 0)), (1, .int x1), (2, .int x2)] → W p l e ({ frames := 6, cells := 0, slots := 0, locals := 141 } : Room) s m ar below meth c H locs 0 0 QM (F0 m 54 ls []) := by
    intro S0 H locs ls h hP hD hS hl
    refine lv_aload_n hx hb dX12_tried_54 rfl (lv_at hl 0 rfl) ?_
    refine va_get (D := E.1) (ci := 11) (v := .ref (q0 1)) (C := RX12) (T := TX12) (N := 57) hx hb hg in_X12 hown X.1 hP 0 rfl rfl 0 (by decide) (hg _ wf_X12_7) (fun _ h9 => h9) rfl dX12_tried_55 ?_
    refine lv_aload_n hx hb dX12_tried_58 rfl (lv_at hl 0 rfl) ?_
    refine va_get (D := E.1) (ci := 11) (v := .ref (q0 2)) (C := RX12) (T := TX12) (N := 57) hx hb hg in_X12 hown X.1 hP 0 rfl rfl 1 (by decide) (hg _ wf_X12_13) (fun _ h9 => h9) rfl dX12_tried_59 ?_
    obtain ⟨u11, hc, h⟩ := bd_el h
    obtain ⟨S0_12, eS, h⟩ := lt_el h
    refine ct_v (ws' := cw_X12 E q0 (sR S0 1 (u11.2 0))) X hP hD hS [1, 2] (va_runS (As := [.ref (q0 1), .ref (q0 2)]) (rest := []) ⟨hx, hb, hml, hown, hg⟩ (c_X12_copies l E (fun _ => q0 1) (fun _ => q0 2) H.size ((fun _ => 0, fun _ => S0.2 0) : Gr) ((fun _ => 0, fun _ => S0.2 1) : Gr) u11 hc) (va_cwS 2 hg (gwS wm_X12_335 wst_X12_copies wini_X12 wco_X12_copies) rfl rfl rfl (by decide +kernel) ⟨Nat.le_of_ble_eq_true rfl, Nat.le_of_ble_eq_true rfl⟩) ⟨ct_blind, ct_pre X hP hD hS [1, 2] (by decide) rfl _⟩ rfl rfl hl.1 rfl (lv_room (Nat.le_of_ble_eq_true rfl)) dX12_tried_62 ⟨Nat.zero_le _, Nat.zero_le _⟩) rfl rfl rfl (fun H locs hP hD hS => ?_)
    have hP : va_P E.1 vwCl (cw_X12 E q0 S0_12) H := by rw [eS]; exact hP
    have hD : va_D A (cw_X12 E q0 S0_12) := by rw [eS]; exact hD
    clear eS
    refine lv_aload_n hx hb dX12_tried_65 rfl (lv_at hl 0 rfl) ?_
    refine lv_iload_n hx hb dX12_tried_66 rfl (lv_at hl 1 rfl) ?_
    obtain ⟨u13, hc, h⟩ := bd_el h
    refine ct_vA (w1 := cw_X12 E q0 u13) X hP hD hS (va_runV (C := RX12) (As := [.int x1]) (rest := []) ⟨hx, hb, hml, hown, hg⟩ (c_X12_hoursGo l E q0 H.size S0_12 x1 u13 hc) (cwV 1 hg (gwV wm_X12_332 wi_X12_hoursGo wsl_X12_hoursGo wini_X12 wco_X12_hoursGo) rfl rfl rfl (by decide +kernel) ⟨Nat.le_of_ble_eq_true rfl, Nat.le_of_ble_eq_true rfl⟩) ⟨ct_blind, ct_rv X.1 hP 0 rfl rfl, ct_preA X hP hD hS _⟩ rfl rfl hl.1 rfl (lv_room (Nat.le_of_ble_eq_true rfl)) dX12_tried_67 ⟨Nat.zero_le _, Nat.zero_le _⟩) (fun H locs hP hD hS => ?_)
    refine lv_iload_n hx hb dX12_tried_70 rfl (lv_at hl 2 rfl) ?_
    by_cases c14 : x2 = 0
    · have h := it_t h c14
      refine lv_lookup (tgt := 96) hx hb dX12_tried_71 (by decide) (by rw [c14] <;> rfl) (by decide) ?_
      refine lv_aload_n hx hb dX12_tried_96 rfl (lv_at hl 0 rfl) ?_
      refine va_get (D := E.1) (ci := 11) (v := .int (u13.1 39)) (C := RX12) (T := TX12) (N := 57) hx hb hg in_X12 hown X.1 hP 0 rfl rfl 39 (by decide) (hg _ wf_X12_314) (fun _ h9 => h9) rfl dX12_tried_97 ?_
      obtain ⟨v15, ev15, h⟩ := lt_el h
      refine lv_top' ev15 ?_
      refine lv_istore_n (lv' := [(3, .int v15), (0, .ref (q0 0)), (1, .int x1), (2, .int x2)]) hx hb dX12_tried_100 rfl hl (by decide) rfl (fun ls hl => ?_)
      refine lv_goto (tgt := 166) hx hb dX12_tried_101 (by decide) ?_
      refine lv_aload_n hx hb dX12_tried_166 rfl (lv_at hl 1 rfl) ?_
      refine va_get (D := E.1) (ci := 11) (v := .ref (q0 2)) (C := RX12) (T := TX12) (N := 57) hx hb hg in_X12 hown X.1 hP 0 rfl rfl 1 (by decide) (hg _ wf_X12_13) (fun _ h9 => h9) rfl dX12_tried_167 ?_
      refine lv_aload_n hx hb dX12_tried_170 rfl (lv_at hl 1 rfl) ?_
      refine va_get (D := E.1) (ci := 11) (v := .ref (q0 1)) (C := RX12) (T := TX12) (N := 57) hx hb hg in_X12 hown X.1 hP 0 rfl rfl 0 (by decide) (hg _ wf_X12_7) (fun _ h9 => h9) rfl dX12_tried_171 ?_
      obtain ⟨u16, hc, h⟩ := bd_el h
      obtain ⟨S0_17, eS, h⟩ := lt_el h
      refine ct_v (ws' := cw_X12 E q0 (sR u13 0 (u16.2 0))) X hP hD hS [2, 1] (va_runS (As := [.ref (q0 2), .ref (q0 1)]) (rest := []) ⟨hx, hb, hml, hown, hg⟩ (c_X12_copies l E (fun _ => q0 2) (fun _ => q0 1) H.size ((fun _ => 0, fun _ => u13.2 1) : Gr) ((fun _ => 0, fun _ => u13.2 0) : Gr) u16 hc) (va_cwS 2 hg (gwS wm_X12_335 wst_X12_copies wini_X12 wco_X12_copies) rfl rfl rfl (by decide +kernel) ⟨Nat.le_of_ble_eq_true rfl, Nat.le_of_ble_eq_true rfl⟩) ⟨ct_blind, ct_pre X hP hD hS [2, 1] (by decide) rfl _⟩ rfl rfl hl.1 rfl (lv_room (Nat.le_of_ble_eq_true rfl)) dX12_tried_174 ⟨Nat.zero_le _, Nat.zero_le _⟩) rfl rfl rfl (fun H locs hP hD hS => ?_)
      have hP : va_P E.1 vwCl (cw_X12 E q0 S0_17) H := by rw [eS]; exact hP
      have hD : va_D A (cw_X12 E q0 S0_17) := by rw [eS]; exact hD
      clear eS
      refine lv_iload_n hx hb dX12_tried_177 rfl (lv_at hl 0 rfl) ?_
      exact RT v15 S0_17 _ _ _ _ h rfl hP hD hS dX12_tried_178
    · have h := it_f h c14
      by_cases c18 : x2 = 1
      · have h := it_t h c18
        refine lv_lookup (tgt := 104) hx hb dX12_tried_71 (by decide) (by rw [c18] <;> rfl) (by decide) ?_
        refine lv_aload_n hx hb dX12_tried_104 rfl (lv_at hl 0 rfl) ?_
        obtain ⟨u19, hc, h⟩ := bd_el h
        refine ct_iA (w1 := cw_X12 E q0 u13) X hP hD hS (va_runV (C := RX12) (As := []) (rest := []) ⟨hx, hb, hml, hown, hg⟩ (c_X12_slackOfAll l E q0 H.size u13 u19 hc) (cwV 0 hg (gwV wm_X12_339 wi_X12_slackOfAll wsl_X12_slackOfAll wini_X12 wco_X12_slackOfAll) rfl rfl rfl (by decide +kernel) ⟨Nat.le_of_ble_eq_true rfl, Nat.le_of_ble_eq_true rfl⟩) ⟨ct_blind, ct_rv X.1 hP 0 rfl rfl, ct_preA X hP hD hS _⟩ rfl rfl hl.1 rfl (lv_room (Nat.le_of_ble_eq_true rfl)) dX12_tried_105 ⟨Nat.zero_le _, Nat.zero_le _⟩) (fun H locs hP hD hS => ?_)
        refine lv_istore_n (lv' := [(3, .int u19), (0, .ref (q0 0)), (1, .int x1), (2, .int x2)]) hx hb dX12_tried_108 rfl hl (by decide) rfl (fun ls hl => ?_)
        refine lv_goto (tgt := 166) hx hb dX12_tried_109 (by decide) ?_
        refine lv_aload_n hx hb dX12_tried_166 rfl (lv_at hl 1 rfl) ?_
        refine va_get (D := E.1) (ci := 11) (v := .ref (q0 2)) (C := RX12) (T := TX12) (N := 57) hx hb hg in_X12 hown X.1 hP 0 rfl rfl 1 (by decide) (hg _ wf_X12_13) (fun _ h9 => h9) rfl dX12_tried_167 ?_
        refine lv_aload_n hx hb dX12_tried_170 rfl (lv_at hl 1 rfl) ?_
        refine va_get (D := E.1) (ci := 11) (v := .ref (q0 1)) (C := RX12) (T := TX12) (N := 57) hx hb hg in_X12 hown X.1 hP 0 rfl rfl 0 (by decide) (hg _ wf_X12_7) (fun _ h9 => h9) rfl dX12_tried_171 ?_
        obtain ⟨u20, hc, h⟩ := bd_el h
        obtain ⟨S0_21, eS, h⟩ := lt_el h
        refine ct_v (ws' := cw_X12 E q0 (sR u13 0 (u20.2 0))) X hP hD hS [2, 1] (va_runS (As := [.ref (q0 2), .ref (q0 1)]) (rest := []) ⟨hx, hb, hml, hown, hg⟩ (c_X12_copies l E (fun _ => q0 2) (fun _ => q0 1) H.size ((fun _ => 0, fun _ => u13.2 1) : Gr) ((fun _ => 0, fun _ => u13.2 0) : Gr) u20 hc) (va_cwS 2 hg (gwS wm_X12_335 wst_X12_copies wini_X12 wco_X12_copies) rfl rfl rfl (by decide +kernel) ⟨Nat.le_of_ble_eq_true rfl, Nat.le_of_ble_eq_true rfl⟩) ⟨ct_blind, ct_pre X hP hD hS [2, 1] (by decide) rfl _⟩ rfl rfl hl.1 rfl (lv_room (Nat.le_of_ble_eq_true rfl)) dX12_tried_174 ⟨Nat.zero_le _, Nat.zero_le _⟩) rfl rfl rfl (fun H locs hP hD hS => ?_)
        have hP : va_P E.1 vwCl (cw_X12 E q0 S0_21) H := by rw [eS]; exact hP
        have hD : va_D A (cw_X12 E q0 S0_21) := by rw [eS]; exact hD
        clear eS
        refine lv_iload_n hx hb dX12_tried_177 rfl (lv_at hl 0 rfl) ?_
        exact RT u19 S0_21 _ _ _ _ h rfl hP hD hS dX12_tried_178
      · have h := it_f h c18
        refine lv_lookup (tgt := 112) hx hb dX12_tried_71 (by decide) (lk_out _ _ _ (by intro q hq; simp at hq; rcases hq with hq | hq <;> (subst hq; intro hh; first | exact absurd (Int32.toInt_inj.mp (hh.symm.trans (by decide))) c14 | exact absurd (Int32.toInt_inj.mp (hh.symm.trans (by decide))) c18))) (by decide) ?_
        refine lv_iload_n hx hb dX12_tried_112 rfl (lv_at hl 2 rfl) ?_
        refine lv_bipush (v := 20) hx hb dX12_tried_113 (by decide) ?_
        refine lv_icmp_ge (tgt := 129) hx hb dX12_tried_115 (by decide) (fun c22 => ?_) (fun c22 => ?_)
        · have h := it_t h c22
          refine lv_iload_n hx hb dX12_tried_129 rfl (lv_at hl 2 rfl) ?_
          refine lv_bipush (v := 30) hx hb dX12_tried_130 (by decide) ?_
          refine lv_icmp_ge (tgt := 150) hx hb dX12_tried_132 (by decide) (fun c23 => ?_) (fun c23 => ?_)
          · have h := it_t h c23
            refine lv_aload_n hx hb dX12_tried_150 rfl (lv_at hl 0 rfl) ?_
            refine va_get (D := E.1) (ci := 11) (v := .ref (q0 1)) (C := RX12) (T := TX12) (N := 57) hx hb hg in_X12 hown X.1 hP 0 rfl rfl 0 (by decide) (hg _ wf_X12_7) (fun _ h9 => h9) rfl dX12_tried_151 ?_
            refine lv_bipush (v := 72) hx hb dX12_tried_154 (by decide) ?_
            refine lv_iload_n hx hb dX12_tried_156 rfl (lv_at hl 2 rfl) ?_
            refine lv_iadd hx hb dX12_tried_157 ?_
            refine lv_bipush (v := 30) hx hb dX12_tried_158 (by decide) ?_
            refine lv_isub hx hb dX12_tried_160 ?_
            obtain ⟨hi, v24, ev24, h⟩ := rd_el h
            refine va_iald hx hb X.1 hP 1 0 rfl rfl hi dX12_tried_161 ?_
            refine lv_top' ev24 ?_
            obtain ⟨u25, hc, h⟩ := bd_el h
            refine ct_iN X hP hD hS (va_runS (As := [.int v24]) (rest := []) ⟨hx, hb, hml, hown, hg⟩ (c_X12_orNone l E  H.size v24 u25 hc) (va_cwS 1 hg (gwS wm_X12_345 wst_X12_orNone wini_X12 wco_X12_orNone) rfl rfl rfl (by decide +kernel) ⟨Nat.le_of_ble_eq_true rfl, Nat.le_of_ble_eq_true rfl⟩) ⟨ct_blind, ct_preN X hS _⟩ rfl rfl hl.1 rfl (lv_room (Nat.le_of_ble_eq_true rfl)) dX12_tried_162 ⟨Nat.zero_le _, Nat.zero_le _⟩) (fun H locs hP hD hS => ?_)
            exact N165  u13 u25 _ _ _ h hP hD hS (lv_sub hl [0] rfl)
          · have h := it_f h c23
            refine lv_aload_n hx hb dX12_tried_135 rfl (lv_at hl 0 rfl) ?_
            refine va_get (D := E.1) (ci := 11) (v := .ref (q0 1)) (C := RX12) (T := TX12) (N := 57) hx hb hg in_X12 hown X.1 hP 0 rfl rfl 0 (by decide) (hg _ wf_X12_7) (fun _ h9 => h9) rfl dX12_tried_136 ?_
            refine lv_bipush (v := 64) hx hb dX12_tried_139 (by decide) ?_
            refine lv_iload_n hx hb dX12_tried_141 rfl (lv_at hl 2 rfl) ?_
            refine lv_iadd hx hb dX12_tried_142 ?_
            refine lv_bipush (v := 20) hx hb dX12_tried_143 (by decide) ?_
            refine lv_isub hx hb dX12_tried_145 ?_
            obtain ⟨hi, v26, ev26, h⟩ := rd_el h
            refine va_iald hx hb X.1 hP 1 0 rfl rfl hi dX12_tried_146 ?_
            refine lv_top' ev26 ?_
            refine lv_goto (tgt := 165) hx hb dX12_tried_147 (by decide) ?_
            exact N165  u13 v26 _ _ _ h hP hD hS (lv_sub hl [0] rfl)
        · have h := it_f h c22
          refine lv_aload_n hx hb dX12_tried_118 rfl (lv_at hl 0 rfl) ?_
          refine lv_iload_n hx hb dX12_tried_119 rfl (lv_at hl 2 rfl) ?_
          refine lv_bipush (v := 10) hx hb dX12_tried_120 (by decide) ?_
          refine lv_isub hx hb dX12_tried_122 ?_
          obtain ⟨u27, hc, h⟩ := bd_el h
          refine ct_iA (w1 := cw_X12 E q0 u13) X hP hD hS (va_runV (C := RX12) (As := [.int (x2 - 10)]) (rest := []) ⟨hx, hb, hml, hown, hg⟩ (c_X12_tensionsOf l E q0 H.size u13 (x2 - 10) u27 hc) (cwV 1 hg (gwV wm_X12_342 wi_X12_tensionsOf wsl_X12_tensionsOf wini_X12 wco_X12_tensionsOf) rfl rfl rfl (by decide +kernel) ⟨Nat.le_of_ble_eq_true rfl, Nat.le_of_ble_eq_true rfl⟩) ⟨ct_blind, ct_rv X.1 hP 0 rfl rfl, ct_preA X hP hD hS _⟩ rfl rfl hl.1 rfl (lv_room (Nat.le_of_ble_eq_true rfl)) dX12_tried_123 ⟨Nat.zero_le _, Nat.zero_le _⟩) (fun H locs hP hD hS => ?_)
          refine lv_goto (tgt := 165) hx hb dX12_tried_126 (by decide) ?_
          exact N165  u13 u27 _ _ _ h hP hD hS (lv_sub hl [0] rfl)
  obtain ⟨H, eH⟩ : ∃ z, z = s.heap := ⟨_, rfl⟩
  rw [← eH]
  have hP : va_P E.1 vwCl (cw_X12 E q0 S0) H := by rw [eH]; exact hP
  have hS : va_S A s.heap H [] := by rw [eH]; exact hS
  clear eH
  obtain ⟨locs, el⟩ : ∃ z : List Loc, z = [] := ⟨_, rfl⟩
  rw [← el] at hS ⊢
  clear el
  refine lv_iload_n hx hb dX12_tried_0 rfl (lv_at hl 1 rfl) ?_
  refine lv_iconst (v := 1) hx hb dX12_tried_1 (by decide) ?_
  refine lv_bipush (v := 100) hx hb dX12_tried_2 (by decide) ?_
  obtain ⟨u1, hc, h⟩ := bd_el h
  refine ct_iN X hP hD hS (va_runS (As := [.int x1, .int 1, .int 100]) (rest := []) ⟨hx, hb, hml, hown, hg⟩ (c_X12_in l E  H.size x1 1 100 u1 hc) (va_cwS 3 hg (gwS wm_X12_110 wst_X12_in wini_X12 wco_X12_in) rfl rfl rfl (by decide +kernel) ⟨Nat.le_of_ble_eq_true rfl, Nat.le_of_ble_eq_true rfl⟩) ⟨ct_blind, ct_preN X hS _⟩ rfl rfl hl.1 rfl (lv_room (Nat.le_of_ble_eq_true rfl)) dX12_tried_4 ⟨Nat.zero_le _, Nat.zero_le _⟩) (fun H locs hP hD hS => ?_)
  refine lv_if_eq (tgt := 52) hx hb dX12_tried_7 (by decide) (fun c2 => ?_) (fun c2 => ?_)
  · have h := it_t h c2
    refine lv_iconst (v := (-1)) hx hb dX12_tried_52 (by decide) ?_
    exact RT (-1) S0 _ _ _ _ h rfl hP hD hS dX12_tried_53
  · have h := it_f h c2
    refine lv_iload_n hx hb dX12_tried_10 rfl (lv_at hl 2 rfl) ?_
    refine lv_iconst (v := 0) hx hb dX12_tried_11 (by decide) ?_
    refine lv_iconst (v := 1) hx hb dX12_tried_12 (by decide) ?_
    obtain ⟨u3, hc, h⟩ := bd_el h
    refine ct_iN X hP hD hS (va_runS (As := [.int x2, .int 0, .int 1]) (rest := []) ⟨hx, hb, hml, hown, hg⟩ (c_X12_in l E  H.size x2 0 1 u3 hc) (va_cwS 3 hg (gwS wm_X12_110 wst_X12_in wini_X12 wco_X12_in) rfl rfl rfl (by decide +kernel) ⟨Nat.le_of_ble_eq_true rfl, Nat.le_of_ble_eq_true rfl⟩) ⟨ct_blind, ct_preN X hS _⟩ rfl rfl hl.1 rfl (lv_room (Nat.le_of_ble_eq_true rfl)) dX12_tried_13 ⟨Nat.zero_le _, Nat.zero_le _⟩) (fun H locs hP hD hS => ?_)
    refine lv_if_ne (tgt := 54) hx hb dX12_tried_16 (by decide) (fun c4 => ?_) (fun c4 => ?_)
    · have h := it_f h c4
      exact N54  S0 _ _ _ h hP hD hS (lv_sub hl [0, 1, 2] rfl)
    · have h := it_t h c4
      refine lv_aload_n hx hb dX12_tried_19 rfl (lv_at hl 0 rfl) ?_
      refine lv_iload_n hx hb dX12_tried_20 rfl (lv_at hl 2 rfl) ?_
      refine lv_bipush (v := 10) hx hb dX12_tried_21 (by decide) ?_
      refine lv_isub hx hb dX12_tried_23 ?_
      obtain ⟨u5, hc, h⟩ := bd_el h
      refine ct_iA (w1 := cw_X12 E q0 S0) X hP hD hS (va_runV (C := RX12) (As := [.int (x2 - 10)]) (rest := []) ⟨hx, hb, hml, hown, hg⟩ (c_X12_isWeb l E q0 H.size S0 (x2 - 10) u5 hc) (cwV 1 hg (gwV wm_X12_139 wi_X12_isWeb wsl_X12_isWeb wini_X12 wco_X12_isWeb) rfl rfl rfl (by decide +kernel) ⟨Nat.le_of_ble_eq_true rfl, Nat.le_of_ble_eq_true rfl⟩) ⟨ct_blind, ct_rv X.1 hP 0 rfl rfl, ct_preA X hP hD hS _⟩ rfl rfl hl.1 rfl (lv_room (Nat.le_of_ble_eq_true rfl)) dX12_tried_24 ⟨Nat.zero_le _, Nat.zero_le _⟩) (fun H locs hP hD hS => ?_)
      refine lv_if_ne (tgt := 54) hx hb dX12_tried_27 (by decide) (fun c6 => ?_) (fun c6 => ?_)
      · have h := it_f h c6
        exact N54  S0 _ _ _ h hP hD hS (lv_sub hl [0, 1, 2] rfl)
      · have h := it_t h c6
        refine lv_aload_n hx hb dX12_tried_30 rfl (lv_at hl 0 rfl) ?_
        refine lv_iload_n hx hb dX12_tried_31 rfl (lv_at hl 2 rfl) ?_
        refine lv_bipush (v := 20) hx hb dX12_tried_32 (by decide) ?_
        refine lv_isub hx hb dX12_tried_34 ?_
        obtain ⟨u7, hc, h⟩ := bd_el h
        refine ct_iA (w1 := cw_X12 E q0 S0) X hP hD hS (va_runV (C := RX12) (As := [.int (x2 - 20)]) (rest := []) ⟨hx, hb, hml, hown, hg⟩ (c_X12_isFleet l E q0 H.size S0 (x2 - 20) u7 hc) (cwV 1 hg (gwV wm_X12_282 wi_X12_isFleet wsl_X12_isFleet wini_X12 wco_X12_isFleet) rfl rfl rfl (by decide +kernel) ⟨Nat.le_of_ble_eq_true rfl, Nat.le_of_ble_eq_true rfl⟩) ⟨ct_blind, ct_rv X.1 hP 0 rfl rfl, ct_preA X hP hD hS _⟩ rfl rfl hl.1 rfl (lv_room (Nat.le_of_ble_eq_true rfl)) dX12_tried_35 ⟨Nat.zero_le _, Nat.zero_le _⟩) (fun H locs hP hD hS => ?_)
        refine lv_if_ne (tgt := 54) hx hb dX12_tried_38 (by decide) (fun c8 => ?_) (fun c8 => ?_)
        · have h := it_f h c8
          exact N54  S0 _ _ _ h hP hD hS (lv_sub hl [0, 1, 2] rfl)
        · have h := it_t h c8
          refine lv_aload_n hx hb dX12_tried_41 rfl (lv_at hl 0 rfl) ?_
          refine lv_iload_n hx hb dX12_tried_42 rfl (lv_at hl 2 rfl) ?_
          refine lv_bipush (v := 30) hx hb dX12_tried_43 (by decide) ?_
          refine lv_isub hx hb dX12_tried_45 ?_
          obtain ⟨u9, hc, h⟩ := bd_el h
          refine ct_iA (w1 := cw_X12 E q0 S0) X hP hD hS (va_runV (C := RX12) (As := [.int (x2 - 30)]) (rest := []) ⟨hx, hb, hml, hown, hg⟩ (c_X12_isFleet l E q0 H.size S0 (x2 - 30) u9 hc) (cwV 1 hg (gwV wm_X12_282 wi_X12_isFleet wsl_X12_isFleet wini_X12 wco_X12_isFleet) rfl rfl rfl (by decide +kernel) ⟨Nat.le_of_ble_eq_true rfl, Nat.le_of_ble_eq_true rfl⟩) ⟨ct_blind, ct_rv X.1 hP 0 rfl rfl, ct_preA X hP hD hS _⟩ rfl rfl hl.1 rfl (lv_room (Nat.le_of_ble_eq_true rfl)) dX12_tried_46 ⟨Nat.zero_le _, Nat.zero_le _⟩) (fun H locs hP hD hS => ?_)
          refine lv_if_ne (tgt := 54) hx hb dX12_tried_49 (by decide) (fun c10 => ?_) (fun c10 => ?_)
          · have h := it_f h c10
            exact N54  S0 _ _ _ h hP hD hS (lv_sub hl [0, 1, 2] rfl)
          · have h := it_t h c10
            refine lv_iconst (v := (-1)) hx hb dX12_tried_52 (by decide) ?_
            exact RT (-1) S0 _ _ _ _ h rfl hP hD hS dX12_tried_53
theorem dX12_webIs_0 : decode cX12_webIs 0 = .ok (.aload_n 0, 1) := by decide +kernel
theorem dX12_webIs_1 : decode cX12_webIs 1 = .ok (.iload_n 1, 1) := by decide +kernel
theorem dX12_webIs_2 : decode cX12_webIs 2 = .ok (.invokevirtual 139, 3) := by decide +kernel
theorem dX12_webIs_5 : decode cX12_webIs 5 = .ok (.ifCond .ne 5, 3) := by decide +kernel
theorem dX12_webIs_8 : decode cX12_webIs 8 = .ok (.iconst (-1), 1) := by decide +kernel
theorem dX12_webIs_9 : decode cX12_webIs 9 = .ok (.ireturn, 1) := by decide +kernel
theorem dX12_webIs_10 : decode cX12_webIs 10 = .ok (.iload_n 2, 1) := by decide +kernel
theorem dX12_webIs_11 : decode cX12_webIs 11 = .ok (.iconst 0, 1) := by decide +kernel
theorem dX12_webIs_12 : decode cX12_webIs 12 = .ok (.bipush 7, 2) := by decide +kernel
theorem dX12_webIs_14 : decode cX12_webIs 14 = .ok (.invokestatic 110, 3) := by decide +kernel
theorem dX12_webIs_17 : decode cX12_webIs 17 = .ok (.ifCond .eq 17, 3) := by decide +kernel
theorem dX12_webIs_20 : decode cX12_webIs 20 = .ok (.aload_n 0, 1) := by decide +kernel
theorem dX12_webIs_21 : decode cX12_webIs 21 = .ok (.getfield 7, 3) := by decide +kernel
theorem dX12_webIs_24 : decode cX12_webIs 24 = .ok (.iconst 0, 1) := by decide +kernel
theorem dX12_webIs_25 : decode cX12_webIs 25 = .ok (.bipush 8, 2) := by decide +kernel
theorem dX12_webIs_27 : decode cX12_webIs 27 = .ok (.iload_n 1, 1) := by decide +kernel
theorem dX12_webIs_28 : decode cX12_webIs 28 = .ok (.imul, 1) := by decide +kernel
theorem dX12_webIs_29 : decode cX12_webIs 29 = .ok (.iadd, 1) := by decide +kernel
theorem dX12_webIs_30 : decode cX12_webIs 30 = .ok (.iload_n 2, 1) := by decide +kernel
theorem dX12_webIs_31 : decode cX12_webIs 31 = .ok (.iadd, 1) := by decide +kernel
theorem dX12_webIs_32 : decode cX12_webIs 32 = .ok (.iaload, 1) := by decide +kernel
theorem dX12_webIs_33 : decode cX12_webIs 33 = .ok (.ireturn, 1) := by decide +kernel
theorem dX12_webIs_34 : decode cX12_webIs 34 = .ok (.iload_n 2, 1) := by decide +kernel
theorem dX12_webIs_35 : decode cX12_webIs 35 = .ok (.bipush 10, 2) := by decide +kernel
theorem dX12_webIs_37 : decode cX12_webIs 37 = .ok (.if_icmp .ne 12, 3) := by decide +kernel
theorem dX12_webIs_40 : decode cX12_webIs 40 = .ok (.aload_n 0, 1) := by decide +kernel
theorem dX12_webIs_41 : decode cX12_webIs 41 = .ok (.getfield 19, 3) := by decide +kernel
theorem dX12_webIs_44 : decode cX12_webIs 44 = .ok (.iload_n 1, 1) := by decide +kernel
theorem dX12_webIs_45 : decode cX12_webIs 45 = .ok (.iaload, 1) := by decide +kernel
theorem dX12_webIs_46 : decode cX12_webIs 46 = .ok (.goto 18, 3) := by decide +kernel
theorem dX12_webIs_49 : decode cX12_webIs 49 = .ok (.iload_n 2, 1) := by decide +kernel
theorem dX12_webIs_50 : decode cX12_webIs 50 = .ok (.bipush 11, 2) := by decide +kernel
theorem dX12_webIs_52 : decode cX12_webIs 52 = .ok (.if_icmp .ne 11, 3) := by decide +kernel
theorem dX12_webIs_55 : decode cX12_webIs 55 = .ok (.aload_n 0, 1) := by decide +kernel
theorem dX12_webIs_56 : decode cX12_webIs 56 = .ok (.iload_n 1, 1) := by decide +kernel
theorem dX12_webIs_57 : decode cX12_webIs 57 = .ok (.invokevirtual 288, 3) := by decide +kernel
theorem dX12_webIs_60 : decode cX12_webIs 60 = .ok (.goto 4, 3) := by decide +kernel
theorem dX12_webIs_63 : decode cX12_webIs 63 = .ok (.iconst (-1), 1) := by decide +kernel
theorem dX12_webIs_64 : decode cX12_webIs 64 = .ok (.ireturn, 1) := by decide +kernel
def f_X12_webIs (S0 : Gr) (x1 : Int32) (x2 : Int32) : Option (Int32) := (f_X12_isWeb S0 x1).bind fun u1 => if u1 = 0 then (some (-1)) else ((f_X12_in x2 0 7).bind fun u3 => if u3 = 0 then (if x2 = 10 then (rd' (S0.2 3) 8 x1 fun v8 => some v8) else (if x2 = 11 then ((f_X12_slackOf S0 x1).bind fun u7 => some u7) else (some (-1)))) else (rd' (S0.2 0) 82 ((0 + (8 * x1)) + x2) fun v9 => some v9))
set_option maxHeartbeats 4000000 in
set_option maxRecDepth 100000 in
theorem c_X12_webIs (l : Launch) (E : Ec) (q0 : Nat → Nat) (sz : Nat) (S0 : Gr) (x1 : Int32) (x2 : Int32) (Rv : Int32) (h : f_X12_webIs S0 x1 x2 = some Rv) : Met l yX12_webIs (wsM (.code yX12_webIs cX12_webIs 3 (some .int))) ({ frames := 2, cells := 0, slots := 0, locals := 43 } : Room) (va_Pc [.ref (q0 0), .int x1, .int x2] (ctP E (cw_X12 E q0 S0) sz)) (ctI E (cw_X12 E q0 S0) (cw_X12 E q0 S0) sz Rv) 0 0 (va_A (cw_X12 E q0 S0) sz) := by
  refine ct_metI (by decide) (Nat.le_of_ble_eq_true rfl) ?_
  intro p e s m ar below meth c A QM hx hb hml hown hg X hP hD hS RET ls hl
  have hown : s.vm.findClass RX12 = some m.cls := hown
  have hl : lv_has ls 3 [(0, .ref (q0 0)), (1, .int x1), (2, .int x2)] := hl
  have RT : ∀ (v : Int32) (H : Heap) (locs : List Loc) (ls : Array Slot) (pc : Nat), some v = some Rv → narrow .int (.int v) = .int v → va_P E.1 vwCl (cw_X12 E q0 S0) H → va_D A (cw_X12 E q0 S0) → va_S A s.heap H locs → decode cX12_webIs pc = .ok (.ireturn, 1) → W p l e ({ frames := 2, cells := 0, slots := 0, locals := 43 } : Room) s m ar below meth c H locs 0 0 QM (F0 m pc ls [.int v]) := by
    intro v H locs ls pc e hn hP hD hS d
    obtain rfl := sm_e e
    exact RET H locs pc ls hn hP hD hS d
  clear RET
  obtain ⟨H, eH⟩ : ∃ z, z = s.heap := ⟨_, rfl⟩
  rw [← eH]
  have hP : va_P E.1 vwCl (cw_X12 E q0 S0) H := by rw [eH]; exact hP
  have hS : va_S A s.heap H [] := by rw [eH]; exact hS
  clear eH
  obtain ⟨locs, el⟩ : ∃ z : List Loc, z = [] := ⟨_, rfl⟩
  rw [← el] at hS ⊢
  clear el
  refine lv_aload_n hx hb dX12_webIs_0 rfl (lv_at hl 0 rfl) ?_
  refine lv_iload_n hx hb dX12_webIs_1 rfl (lv_at hl 1 rfl) ?_
  obtain ⟨u1, hc, h⟩ := bd_el h
  refine ct_iA (w1 := cw_X12 E q0 S0) X hP hD hS (va_runV (C := RX12) (As := [.int x1]) (rest := []) ⟨hx, hb, hml, hown, hg⟩ (c_X12_isWeb l E q0 H.size S0 x1 u1 hc) (cwV 1 hg (gwV wm_X12_139 wi_X12_isWeb wsl_X12_isWeb wini_X12 wco_X12_isWeb) rfl rfl rfl (by decide +kernel) ⟨Nat.le_of_ble_eq_true rfl, Nat.le_of_ble_eq_true rfl⟩) ⟨ct_blind, ct_rv X.1 hP 0 rfl rfl, ct_preA X hP hD hS _⟩ rfl rfl hl.1 rfl (lv_room (Nat.le_of_ble_eq_true rfl)) dX12_webIs_2 ⟨Nat.zero_le _, Nat.zero_le _⟩) (fun H locs hP hD hS => ?_)
  refine lv_if_ne (tgt := 10) hx hb dX12_webIs_5 (by decide) (fun c2 => ?_) (fun c2 => ?_)
  · have h := it_f h c2
    refine lv_iload_n hx hb dX12_webIs_10 rfl (lv_at hl 2 rfl) ?_
    refine lv_iconst (v := 0) hx hb dX12_webIs_11 (by decide) ?_
    refine lv_bipush (v := 7) hx hb dX12_webIs_12 (by decide) ?_
    obtain ⟨u3, hc, h⟩ := bd_el h
    refine ct_iN X hP hD hS (va_runS (As := [.int x2, .int 0, .int 7]) (rest := []) ⟨hx, hb, hml, hown, hg⟩ (c_X12_in l E  H.size x2 0 7 u3 hc) (va_cwS 3 hg (gwS wm_X12_110 wst_X12_in wini_X12 wco_X12_in) rfl rfl rfl (by decide +kernel) ⟨Nat.le_of_ble_eq_true rfl, Nat.le_of_ble_eq_true rfl⟩) ⟨ct_blind, ct_preN X hS _⟩ rfl rfl hl.1 rfl (lv_room (Nat.le_of_ble_eq_true rfl)) dX12_webIs_14 ⟨Nat.zero_le _, Nat.zero_le _⟩) (fun H locs hP hD hS => ?_)
    refine lv_if_eq (tgt := 34) hx hb dX12_webIs_17 (by decide) (fun c4 => ?_) (fun c4 => ?_)
    · have h := it_t h c4
      refine lv_iload_n hx hb dX12_webIs_34 rfl (lv_at hl 2 rfl) ?_
      refine lv_bipush (v := 10) hx hb dX12_webIs_35 (by decide) ?_
      refine lv_icmp_ne (tgt := 49) hx hb dX12_webIs_37 (by decide) (fun c5 => ?_) (fun c5 => ?_)
      · have h := it_f h c5
        refine lv_iload_n hx hb dX12_webIs_49 rfl (lv_at hl 2 rfl) ?_
        refine lv_bipush (v := 11) hx hb dX12_webIs_50 (by decide) ?_
        refine lv_icmp_ne (tgt := 63) hx hb dX12_webIs_52 (by decide) (fun c6 => ?_) (fun c6 => ?_)
        · have h := it_f h c6
          refine lv_iconst (v := (-1)) hx hb dX12_webIs_63 (by decide) ?_
          exact RT (-1) _ _ _ _ h rfl hP hD hS dX12_webIs_64
        · have h := it_t h c6
          refine lv_aload_n hx hb dX12_webIs_55 rfl (lv_at hl 0 rfl) ?_
          refine lv_iload_n hx hb dX12_webIs_56 rfl (lv_at hl 1 rfl) ?_
          obtain ⟨u7, hc, h⟩ := bd_el h
          refine ct_iA (w1 := cw_X12 E q0 S0) X hP hD hS (va_runV (C := RX12) (As := [.int x1]) (rest := []) ⟨hx, hb, hml, hown, hg⟩ (c_X12_slackOf l E q0 H.size S0 x1 u7 hc) (cwV 1 hg (gwV wm_X12_288 wi_X12_slackOf wsl_X12_slackOf wini_X12 wco_X12_slackOf) rfl rfl rfl (by decide +kernel) ⟨Nat.le_of_ble_eq_true rfl, Nat.le_of_ble_eq_true rfl⟩) ⟨ct_blind, ct_rv X.1 hP 0 rfl rfl, ct_preA X hP hD hS _⟩ rfl rfl hl.1 rfl (lv_room (Nat.le_of_ble_eq_true rfl)) dX12_webIs_57 ⟨Nat.zero_le _, Nat.zero_le _⟩) (fun H locs hP hD hS => ?_)
          refine lv_goto (tgt := 64) hx hb dX12_webIs_60 (by decide) ?_
          exact RT u7 _ _ _ _ h rfl hP hD hS dX12_webIs_64
      · have h := it_t h c5
        refine lv_aload_n hx hb dX12_webIs_40 rfl (lv_at hl 0 rfl) ?_
        refine va_get (D := E.1) (ci := 11) (v := .ref (q0 4)) (C := RX12) (T := TX12) (N := 57) hx hb hg in_X12 hown X.1 hP 0 rfl rfl 3 (by decide) (hg _ wf_X12_19) (fun _ h9 => h9) rfl dX12_webIs_41 ?_
        refine lv_iload_n hx hb dX12_webIs_44 rfl (lv_at hl 1 rfl) ?_
        obtain ⟨hi, v8, ev8, h⟩ := rd_el h
        refine va_iald hx hb X.1 hP 4 0 rfl rfl hi dX12_webIs_45 ?_
        refine lv_top' ev8 ?_
        refine lv_goto (tgt := 64) hx hb dX12_webIs_46 (by decide) ?_
        exact RT v8 _ _ _ _ h rfl hP hD hS dX12_webIs_64
    · have h := it_f h c4
      refine lv_aload_n hx hb dX12_webIs_20 rfl (lv_at hl 0 rfl) ?_
      refine va_get (D := E.1) (ci := 11) (v := .ref (q0 1)) (C := RX12) (T := TX12) (N := 57) hx hb hg in_X12 hown X.1 hP 0 rfl rfl 0 (by decide) (hg _ wf_X12_7) (fun _ h9 => h9) rfl dX12_webIs_21 ?_
      refine lv_iconst (v := 0) hx hb dX12_webIs_24 (by decide) ?_
      refine lv_bipush (v := 8) hx hb dX12_webIs_25 (by decide) ?_
      refine lv_iload_n hx hb dX12_webIs_27 rfl (lv_at hl 1 rfl) ?_
      refine lv_imul hx hb dX12_webIs_28 ?_
      refine lv_iadd hx hb dX12_webIs_29 ?_
      refine lv_iload_n hx hb dX12_webIs_30 rfl (lv_at hl 2 rfl) ?_
      refine lv_iadd hx hb dX12_webIs_31 ?_
      obtain ⟨hi, v9, ev9, h⟩ := rd_el h
      refine va_iald hx hb X.1 hP 1 0 rfl rfl hi dX12_webIs_32 ?_
      refine lv_top' ev9 ?_
      exact RT v9 _ _ _ _ h rfl hP hD hS dX12_webIs_33
  · have h := it_t h c2
    refine lv_iconst (v := (-1)) hx hb dX12_webIs_8 (by decide) ?_
    exact RT (-1) _ _ _ _ h rfl hP hD hS dX12_webIs_9
theorem dX12_when_0 : decode cX12_when 0 = .ok (.aload_n 0, 1) := by decide +kernel
theorem dX12_when_1 : decode cX12_when 1 = .ok (.iload_n 1, 1) := by decide +kernel
theorem dX12_when_2 : decode cX12_when 2 = .ok (.invokevirtual 139, 3) := by decide +kernel
theorem dX12_when_5 : decode cX12_when 5 = .ok (.ifCond .eq 21, 3) := by decide +kernel
theorem dX12_when_8 : decode cX12_when 8 = .ok (.aload_n 0, 1) := by decide +kernel
theorem dX12_when_9 : decode cX12_when 9 = .ok (.iload_n 2, 1) := by decide +kernel
theorem dX12_when_10 : decode cX12_when 10 = .ok (.invokevirtual 282, 3) := by decide +kernel
theorem dX12_when_13 : decode cX12_when 13 = .ok (.ifCond .eq 13, 3) := by decide +kernel
theorem dX12_when_16 : decode cX12_when 16 = .ok (.iload_n 3, 1) := by decide +kernel
theorem dX12_when_17 : decode cX12_when 17 = .ok (.iconst 1, 1) := by decide +kernel
theorem dX12_when_18 : decode cX12_when 18 = .ok (.bipush 100, 2) := by decide +kernel
theorem dX12_when_20 : decode cX12_when 20 = .ok (.invokestatic 110, 3) := by decide +kernel
theorem dX12_when_23 : decode cX12_when 23 = .ok (.ifCond .ne 5, 3) := by decide +kernel
theorem dX12_when_26 : decode cX12_when 26 = .ok (.iconst (-1), 1) := by decide +kernel
theorem dX12_when_27 : decode cX12_when 27 = .ok (.ireturn, 1) := by decide +kernel
theorem dX12_when_28 : decode cX12_when 28 = .ok (.aload_n 0, 1) := by decide +kernel
theorem dX12_when_29 : decode cX12_when 29 = .ok (.getfield 7, 3) := by decide +kernel
theorem dX12_when_32 : decode cX12_when 32 = .ok (.aload_n 0, 1) := by decide +kernel
theorem dX12_when_33 : decode cX12_when 33 = .ok (.getfield 13, 3) := by decide +kernel
theorem dX12_when_36 : decode cX12_when 36 = .ok (.invokestatic 335, 3) := by decide +kernel
theorem dX12_when_39 : decode cX12_when 39 = .ok (.iconst 0, 1) := by decide +kernel
theorem dX12_when_40 : decode cX12_when 40 = .ok (.istore 4, 2) := by decide +kernel
theorem dX12_when_42 : decode cX12_when 42 = .ok (.aload_n 0, 1) := by decide +kernel
theorem dX12_when_43 : decode cX12_when 43 = .ok (.iload_n 1, 1) := by decide +kernel
theorem dX12_when_44 : decode cX12_when 44 = .ok (.iload_n 2, 1) := by decide +kernel
theorem dX12_when_45 : decode cX12_when 45 = .ok (.invokevirtual 348, 3) := by decide +kernel
theorem dX12_when_48 : decode cX12_when 48 = .ok (.ifCond .gt 23, 3) := by decide +kernel
theorem dX12_when_51 : decode cX12_when 51 = .ok (.iload 4, 2) := by decide +kernel
theorem dX12_when_53 : decode cX12_when 53 = .ok (.iload_n 3, 1) := by decide +kernel
theorem dX12_when_54 : decode cX12_when 54 = .ok (.if_icmp .ge 17, 3) := by decide +kernel
theorem dX12_when_57 : decode cX12_when 57 = .ok (.aload_n 0, 1) := by decide +kernel
theorem dX12_when_58 : decode cX12_when 58 = .ok (.iload_n 2, 1) := by decide +kernel
theorem dX12_when_59 : decode cX12_when 59 = .ok (.invokevirtual 320, 3) := by decide +kernel
theorem dX12_when_62 : decode cX12_when 62 = .ok (.iload 4, 2) := by decide +kernel
theorem dX12_when_64 : decode cX12_when 64 = .ok (.iconst 1, 1) := by decide +kernel
theorem dX12_when_65 : decode cX12_when 65 = .ok (.iadd, 1) := by decide +kernel
theorem dX12_when_66 : decode cX12_when 66 = .ok (.istore 4, 2) := by decide +kernel
theorem dX12_when_68 : decode cX12_when 68 = .ok (.goto (-26), 3) := by decide +kernel
theorem dX12_when_71 : decode cX12_when 71 = .ok (.aload_n 0, 1) := by decide +kernel
theorem dX12_when_72 : decode cX12_when 72 = .ok (.iload_n 1, 1) := by decide +kernel
theorem dX12_when_73 : decode cX12_when 73 = .ok (.iload_n 2, 1) := by decide +kernel
theorem dX12_when_74 : decode cX12_when 74 = .ok (.invokevirtual 348, 3) := by decide +kernel
theorem dX12_when_77 : decode cX12_when 77 = .ok (.ifCond .le 7, 3) := by decide +kernel
theorem dX12_when_80 : decode cX12_when 80 = .ok (.iconst 1, 1) := by decide +kernel
theorem dX12_when_81 : decode cX12_when 81 = .ok (.goto 4, 3) := by decide +kernel
theorem dX12_when_84 : decode cX12_when 84 = .ok (.iconst 0, 1) := by decide +kernel
theorem dX12_when_85 : decode cX12_when 85 = .ok (.istore 5, 2) := by decide +kernel
theorem dX12_when_87 : decode cX12_when 87 = .ok (.aload_n 0, 1) := by decide +kernel
theorem dX12_when_88 : decode cX12_when 88 = .ok (.getfield 13, 3) := by decide +kernel
theorem dX12_when_91 : decode cX12_when 91 = .ok (.aload_n 0, 1) := by decide +kernel
theorem dX12_when_92 : decode cX12_when 92 = .ok (.getfield 7, 3) := by decide +kernel
theorem dX12_when_95 : decode cX12_when 95 = .ok (.invokestatic 335, 3) := by decide +kernel
theorem dX12_when_98 : decode cX12_when 98 = .ok (.iload 5, 2) := by decide +kernel
theorem dX12_when_100 : decode cX12_when 100 = .ok (.ifCond .eq 8, 3) := by decide +kernel
theorem dX12_when_103 : decode cX12_when 103 = .ok (.iload 4, 2) := by decide +kernel
theorem dX12_when_105 : decode cX12_when 105 = .ok (.goto 5, 3) := by decide +kernel
theorem dX12_when_108 : decode cX12_when 108 = .ok (.bipush (-2), 2) := by decide +kernel
theorem dX12_when_110 : decode cX12_when 110 = .ok (.ireturn, 1) := by decide +kernel
def f_X12_when_n71 (x1 : Int32) (x2 : Int32) (x3 : Int32) (S0 : Gr) (x4 : Int32) : Option (Int32 × Gr) := (f_X12_feltBy S0 x1 x2).bind fun u14 => if u14 ≤ 0 then ((f_X12_copies ((fun _ => 0, fun _ => S0.2 1) : Gr) ((fun _ => 0, fun _ => S0.2 0) : Gr)).bind fun u16 => lt' (sR S0 0 (u16.2 0)) fun S0_17 => if (0 : Int32) = 0 then (some ((-2), S0_17)) else (some (x4, S0_17))) else ((f_X12_copies ((fun _ => 0, fun _ => S0.2 1) : Gr) ((fun _ => 0, fun _ => S0.2 0) : Gr)).bind fun u19 => lt' (sR S0 0 (u19.2 0)) fun S0_20 => if (1 : Int32) = 0 then (some ((-2), S0_20)) else (some (x4, S0_20)))
def f_X12_when_n42 (x1 : Int32) (x2 : Int32) (x3 : Int32) : Nat → Gr → Int32 → Option (Int32 × Gr)
  | 0, _, _ => none
  | n + 1, S0, x4 => (f_X12_feltBy S0 x1 x2).bind fun u9 => if 0 < u9 then (f_X12_when_n71 x1 x2 x3 S0 x4) else (if x3 ≤ x4 then (f_X12_when_n71 x1 x2 x3 S0 x4) else ((f_X12_sails S0 x2).bind fun u12 => lt' ((x4 + 1)) fun v13 => f_X12_when_n42 x1 x2 x3 n u12 v13))
def f_X12_when (S0 : Gr) (x1 : Int32) (x2 : Int32) (x3 : Int32) : Option (Int32 × Gr) := (f_X12_isWeb S0 x1).bind fun u1 => if u1 = 0 then (some ((-1), S0)) else ((f_X12_isFleet S0 x2).bind fun u3 => if u3 = 0 then (some ((-1), S0)) else ((f_X12_in x3 1 100).bind fun u5 => if u5 = 0 then (some ((-1), S0)) else ((f_X12_copies ((fun _ => 0, fun _ => S0.2 0) : Gr) ((fun _ => 0, fun _ => S0.2 1) : Gr)).bind fun u7 => lt' (sR S0 1 (u7.2 0)) fun S0_8 => f_X12_when_n42 x1 x2 x3 fu S0_8 0)))
set_option maxHeartbeats 4000000 in
set_option maxRecDepth 100000 in
theorem c_X12_when (l : Launch) (E : Ec) (q0 : Nat → Nat) (sz : Nat) (S0 : Gr) (x1 : Int32) (x2 : Int32) (x3 : Int32) (Rv : Int32 × Gr) (h : f_X12_when S0 x1 x2 x3 = some Rv) : Met l yX12_when (wsM (.code yX12_when cX12_when 6 (some .int))) ({ frames := 4, cells := 0, slots := 0, locals := 87 } : Room) (va_Pc [.ref (q0 0), .int x1, .int x2, .int x3] (ctP E (cw_X12 E q0 S0) sz)) (ctI E (cw_X12 E q0 S0) (cw_X12 E q0 Rv.2) sz Rv.1) 0 0 (va_A (cw_X12 E q0 S0) sz) := by
  refine ct_metI (by decide) (Nat.le_of_ble_eq_true rfl) ?_
  intro p e s m ar below meth c A QM hx hb hml hown hg X hP hD hS RET ls hl
  have hown : s.vm.findClass RX12 = some m.cls := hown
  have hl : lv_has ls 6 [(0, .ref (q0 0)), (1, .int x1), (2, .int x2), (3, .int x3)] := hl
  have RT : ∀ (v : Int32) (S0 : Gr) (H : Heap) (locs : List Loc) (ls : Array Slot) (pc : Nat), some (v, S0) = some Rv → narrow .int (.int v) = .int v → va_P E.1 vwCl (cw_X12 E q0 S0) H → va_D A (cw_X12 E q0 S0) → va_S A s.heap H locs → decode cX12_when pc = .ok (.ireturn, 1) → W p l e ({ frames := 4, cells := 0, slots := 0, locals := 87 } : Room) s m ar below meth c H locs 0 0 QM (F0 m pc ls [.int v]) := by
    intro v S0 H locs ls pc e hn hP hD hS d
    obtain rfl := sm_e e
    exact RET H locs pc ls hn hP hD hS d
  clear RET
  have N71 : ∀ (S0 : Gr) (x4 : Int32) (H : Heap) (locs : List Loc) (ls : Array Slot), f_X12_when_n71 x1 x2 x3 S0 x4 = some Rv → va_P E.1 vwCl (cw_X12 E q0 S0) H → va_D A (cw_X12 E q0 S0) → va_S A s.heap H locs → lv_has ls 6 [(0, .ref (q0 0)), (1, .int x1), (2, .int x2), (4, .int x4)] → W p l e ({ frames := 4, cells := 0, slots := 0, locals := 87 } : Room) s m ar below meth c H locs 0 0 QM (F0 m 71 ls []) := by
    intro S0 x4 H locs ls h hP hD hS hl
    refine lv_aload_n hx hb dX12_when_71 rfl (lv_at hl 0 rfl) ?_
    refine lv_iload_n hx hb dX12_when_72 rfl (lv_at hl 1 rfl) ?_
    refine lv_iload_n hx hb dX12_when_73 rfl (lv_at hl 2 rfl) ?_
    obtain ⟨u14, hc, h⟩ := bd_el h
    refine ct_iA (w1 := cw_X12 E q0 S0) X hP hD hS (va_runV (C := RX12) (As := [.int x1, .int x2]) (rest := []) ⟨hx, hb, hml, hown, hg⟩ (c_X12_feltBy l E q0 H.size S0 x1 x2 u14 hc) (cwV 2 hg (gwV wm_X12_348 wi_X12_feltBy wsl_X12_feltBy wini_X12 wco_X12_feltBy) rfl rfl rfl (by decide +kernel) ⟨Nat.le_of_ble_eq_true rfl, Nat.le_of_ble_eq_true rfl⟩) ⟨ct_blind, ct_rv X.1 hP 0 rfl rfl, ct_preA X hP hD hS _⟩ rfl rfl hl.1 rfl (lv_room (Nat.le_of_ble_eq_true rfl)) dX12_when_74 ⟨Nat.zero_le _, Nat.zero_le _⟩) (fun H locs hP hD hS => ?_)
    refine lv_if_le (tgt := 84) hx hb dX12_when_77 (by decide) (fun c15 => ?_) (fun c15 => ?_)
    · have h := it_t h c15
      refine lv_iconst (v := 0) hx hb dX12_when_84 (by decide) ?_
      refine lv_istore (lv' := [(5, .int 0), (0, .ref (q0 0)), (1, .int x1), (2, .int x2), (4, .int x4)]) hx hb dX12_when_85 hl (by decide) rfl (fun ls hl => ?_)
      refine lv_aload_n hx hb dX12_when_87 rfl (lv_at hl 1 rfl) ?_
      refine va_get (D := E.1) (ci := 11) (v := .ref (q0 2)) (C := RX12) (T := TX12) (N := 57) hx hb hg in_X12 hown X.1 hP 0 rfl rfl 1 (by decide) (hg _ wf_X12_13) (fun _ h9 => h9) rfl dX12_when_88 ?_
      refine lv_aload_n hx hb dX12_when_91 rfl (lv_at hl 1 rfl) ?_
      refine va_get (D := E.1) (ci := 11) (v := .ref (q0 1)) (C := RX12) (T := TX12) (N := 57) hx hb hg in_X12 hown X.1 hP 0 rfl rfl 0 (by decide) (hg _ wf_X12_7) (fun _ h9 => h9) rfl dX12_when_92 ?_
      obtain ⟨u16, hc, h⟩ := bd_el h
      obtain ⟨S0_17, eS, h⟩ := lt_el h
      refine ct_v (ws' := cw_X12 E q0 (sR S0 0 (u16.2 0))) X hP hD hS [2, 1] (va_runS (As := [.ref (q0 2), .ref (q0 1)]) (rest := []) ⟨hx, hb, hml, hown, hg⟩ (c_X12_copies l E (fun _ => q0 2) (fun _ => q0 1) H.size ((fun _ => 0, fun _ => S0.2 1) : Gr) ((fun _ => 0, fun _ => S0.2 0) : Gr) u16 hc) (va_cwS 2 hg (gwS wm_X12_335 wst_X12_copies wini_X12 wco_X12_copies) rfl rfl rfl (by decide +kernel) ⟨Nat.le_of_ble_eq_true rfl, Nat.le_of_ble_eq_true rfl⟩) ⟨ct_blind, ct_pre X hP hD hS [2, 1] (by decide) rfl _⟩ rfl rfl hl.1 rfl (lv_room (Nat.le_of_ble_eq_true rfl)) dX12_when_95 ⟨Nat.zero_le _, Nat.zero_le _⟩) rfl rfl rfl (fun H locs hP hD hS => ?_)
      have hP : va_P E.1 vwCl (cw_X12 E q0 S0_17) H := by rw [eS]; exact hP
      have hD : va_D A (cw_X12 E q0 S0_17) := by rw [eS]; exact hD
      clear eS
      refine lv_iload hx hb dX12_when_98 (lv_at hl 0 rfl) ?_
      refine lv_if_eq (tgt := 108) hx hb dX12_when_100 (by decide) (fun c18 => ?_) (fun c18 => ?_)
      · have h := it_t h c18
        refine lv_bipush (v := (-2)) hx hb dX12_when_108 (by decide) ?_
        exact RT (-2) S0_17 _ _ _ _ h rfl hP hD hS dX12_when_110
      · have h := it_f h c18
        refine lv_iload hx hb dX12_when_103 (lv_at hl 4 rfl) ?_
        refine lv_goto (tgt := 110) hx hb dX12_when_105 (by decide) ?_
        exact RT x4 S0_17 _ _ _ _ h rfl hP hD hS dX12_when_110
    · have h := it_f h c15
      refine lv_iconst (v := 1) hx hb dX12_when_80 (by decide) ?_
      refine lv_goto (tgt := 85) hx hb dX12_when_81 (by decide) ?_
      refine lv_istore (lv' := [(5, .int 1), (0, .ref (q0 0)), (1, .int x1), (2, .int x2), (4, .int x4)]) hx hb dX12_when_85 hl (by decide) rfl (fun ls hl => ?_)
      refine lv_aload_n hx hb dX12_when_87 rfl (lv_at hl 1 rfl) ?_
      refine va_get (D := E.1) (ci := 11) (v := .ref (q0 2)) (C := RX12) (T := TX12) (N := 57) hx hb hg in_X12 hown X.1 hP 0 rfl rfl 1 (by decide) (hg _ wf_X12_13) (fun _ h9 => h9) rfl dX12_when_88 ?_
      refine lv_aload_n hx hb dX12_when_91 rfl (lv_at hl 1 rfl) ?_
      refine va_get (D := E.1) (ci := 11) (v := .ref (q0 1)) (C := RX12) (T := TX12) (N := 57) hx hb hg in_X12 hown X.1 hP 0 rfl rfl 0 (by decide) (hg _ wf_X12_7) (fun _ h9 => h9) rfl dX12_when_92 ?_
      obtain ⟨u19, hc, h⟩ := bd_el h
      obtain ⟨S0_20, eS, h⟩ := lt_el h
      refine ct_v (ws' := cw_X12 E q0 (sR S0 0 (u19.2 0))) X hP hD hS [2, 1] (va_runS (As := [.ref (q0 2), .ref (q0 1)]) (rest := []) ⟨hx, hb, hml, hown, hg⟩ (c_X12_copies l E (fun _ => q0 2) (fun _ => q0 1) H.size ((fun _ => 0, fun _ => S0.2 1) : Gr) ((fun _ => 0, fun _ => S0.2 0) : Gr) u19 hc) (va_cwS 2 hg (gwS wm_X12_335 wst_X12_copies wini_X12 wco_X12_copies) rfl rfl rfl (by decide +kernel) ⟨Nat.le_of_ble_eq_true rfl, Nat.le_of_ble_eq_true rfl⟩) ⟨ct_blind, ct_pre X hP hD hS [2, 1] (by decide) rfl _⟩ rfl rfl hl.1 rfl (lv_room (Nat.le_of_ble_eq_true rfl)) dX12_when_95 ⟨Nat.zero_le _, Nat.zero_le _⟩) rfl rfl rfl (fun H locs hP hD hS => ?_)
      have hP : va_P E.1 vwCl (cw_X12 E q0 S0_20) H := by rw [eS]; exact hP
      have hD : va_D A (cw_X12 E q0 S0_20) := by rw [eS]; exact hD
      clear eS
      refine lv_iload hx hb dX12_when_98 (lv_at hl 0 rfl) ?_
      refine lv_if_eq (tgt := 108) hx hb dX12_when_100 (by decide) (fun c21 => ?_) (fun c21 => ?_)
      · have h := it_t h c21
        refine lv_bipush (v := (-2)) hx hb dX12_when_108 (by decide) ?_
        exact RT (-2) S0_20 _ _ _ _ h rfl hP hD hS dX12_when_110
      · have h := it_f h c21
        refine lv_iload hx hb dX12_when_103 (lv_at hl 4 rfl) ?_
        refine lv_goto (tgt := 110) hx hb dX12_when_105 (by decide) ?_
        exact RT x4 S0_20 _ _ _ _ h rfl hP hD hS dX12_when_110
  have N42 : ∀ (n : Nat) (S0 : Gr) (x4 : Int32) (H : Heap) (locs : List Loc) (ls : Array Slot), f_X12_when_n42 x1 x2 x3 n S0 x4 = some Rv → va_P E.1 vwCl (cw_X12 E q0 S0) H → va_D A (cw_X12 E q0 S0) → va_S A s.heap H locs → lv_has ls 6 [(0, .ref (q0 0)), (1, .int x1), (2, .int x2), (3, .int x3), (4, .int x4)] → W p l e ({ frames := 4, cells := 0, slots := 0, locals := 87 } : Room) s m ar below meth c H locs 0 0 QM (F0 m 42 ls []) := by
    intro n
    induction n with
    | zero => intro S0 x4 H locs ls h; exact nn_el h
    | succ n ih =>
      intro S0 x4 H locs ls h hP hD hS hl
      refine lv_aload_n hx hb dX12_when_42 rfl (lv_at hl 0 rfl) ?_
      refine lv_iload_n hx hb dX12_when_43 rfl (lv_at hl 1 rfl) ?_
      refine lv_iload_n hx hb dX12_when_44 rfl (lv_at hl 2 rfl) ?_
      obtain ⟨u9, hc, h⟩ := bd_el h
      refine ct_iA (w1 := cw_X12 E q0 S0) X hP hD hS (va_runV (C := RX12) (As := [.int x1, .int x2]) (rest := []) ⟨hx, hb, hml, hown, hg⟩ (c_X12_feltBy l E q0 H.size S0 x1 x2 u9 hc) (cwV 2 hg (gwV wm_X12_348 wi_X12_feltBy wsl_X12_feltBy wini_X12 wco_X12_feltBy) rfl rfl rfl (by decide +kernel) ⟨Nat.le_of_ble_eq_true rfl, Nat.le_of_ble_eq_true rfl⟩) ⟨ct_blind, ct_rv X.1 hP 0 rfl rfl, ct_preA X hP hD hS _⟩ rfl rfl hl.1 rfl (lv_room (Nat.le_of_ble_eq_true rfl)) dX12_when_45 ⟨Nat.zero_le _, Nat.zero_le _⟩) (fun H locs hP hD hS => ?_)
      refine lv_if_gt (tgt := 71) hx hb dX12_when_48 (by decide) (fun c10 => ?_) (fun c10 => ?_)
      · have h := it_t h c10
        exact N71  S0 x4 _ _ _ h hP hD hS (lv_sub hl [0, 1, 2, 4] rfl)
      · have h := it_f h c10
        refine lv_iload hx hb dX12_when_51 (lv_at hl 4 rfl) ?_
        refine lv_iload_n hx hb dX12_when_53 rfl (lv_at hl 3 rfl) ?_
        refine lv_icmp_ge (tgt := 71) hx hb dX12_when_54 (by decide) (fun c11 => ?_) (fun c11 => ?_)
        · have h := it_t h c11
          exact N71  S0 x4 _ _ _ h hP hD hS (lv_sub hl [0, 1, 2, 4] rfl)
        · have h := it_f h c11
          refine lv_aload_n hx hb dX12_when_57 rfl (lv_at hl 0 rfl) ?_
          refine lv_iload_n hx hb dX12_when_58 rfl (lv_at hl 2 rfl) ?_
          obtain ⟨u12, hc, h⟩ := bd_el h
          refine ct_vA (w1 := cw_X12 E q0 u12) X hP hD hS (va_runV (C := RX12) (As := [.int x2]) (rest := []) ⟨hx, hb, hml, hown, hg⟩ (c_X12_sails l E q0 H.size S0 x2 u12 hc) (cwV 1 hg (gwV wm_X12_320 wi_X12_sails wsl_X12_sails wini_X12 wco_X12_sails) rfl rfl rfl (by decide +kernel) ⟨Nat.le_of_ble_eq_true rfl, Nat.le_of_ble_eq_true rfl⟩) ⟨ct_blind, ct_rv X.1 hP 0 rfl rfl, ct_preA X hP hD hS _⟩ rfl rfl hl.1 rfl (lv_room (Nat.le_of_ble_eq_true rfl)) dX12_when_59 ⟨Nat.zero_le _, Nat.zero_le _⟩) (fun H locs hP hD hS => ?_)
          refine lv_iload hx hb dX12_when_62 (lv_at hl 4 rfl) ?_
          refine lv_iconst (v := 1) hx hb dX12_when_64 (by decide) ?_
          refine lv_iadd hx hb dX12_when_65 ?_
          obtain ⟨v13, ev13, h⟩ := lt_el h
          refine lv_top' ev13 ?_
          refine lv_istore (lv' := [(4, .int v13), (0, .ref (q0 0)), (1, .int x1), (2, .int x2), (3, .int x3)]) hx hb dX12_when_66 hl (by decide) rfl (fun ls hl => ?_)
          refine lv_goto (tgt := 42) hx hb dX12_when_68 (by decide) ?_
          exact ih u12 v13 _ _ _ h hP hD hS (lv_sub hl [1, 2, 3, 4, 0] rfl)
  obtain ⟨H, eH⟩ : ∃ z, z = s.heap := ⟨_, rfl⟩
  rw [← eH]
  have hP : va_P E.1 vwCl (cw_X12 E q0 S0) H := by rw [eH]; exact hP
  have hS : va_S A s.heap H [] := by rw [eH]; exact hS
  clear eH
  obtain ⟨locs, el⟩ : ∃ z : List Loc, z = [] := ⟨_, rfl⟩
  rw [← el] at hS ⊢
  clear el
  refine lv_aload_n hx hb dX12_when_0 rfl (lv_at hl 0 rfl) ?_
  refine lv_iload_n hx hb dX12_when_1 rfl (lv_at hl 1 rfl) ?_
  obtain ⟨u1, hc, h⟩ := bd_el h
  refine ct_iA (w1 := cw_X12 E q0 S0) X hP hD hS (va_runV (C := RX12) (As := [.int x1]) (rest := []) ⟨hx, hb, hml, hown, hg⟩ (c_X12_isWeb l E q0 H.size S0 x1 u1 hc) (cwV 1 hg (gwV wm_X12_139 wi_X12_isWeb wsl_X12_isWeb wini_X12 wco_X12_isWeb) rfl rfl rfl (by decide +kernel) ⟨Nat.le_of_ble_eq_true rfl, Nat.le_of_ble_eq_true rfl⟩) ⟨ct_blind, ct_rv X.1 hP 0 rfl rfl, ct_preA X hP hD hS _⟩ rfl rfl hl.1 rfl (lv_room (Nat.le_of_ble_eq_true rfl)) dX12_when_2 ⟨Nat.zero_le _, Nat.zero_le _⟩) (fun H locs hP hD hS => ?_)
  refine lv_if_eq (tgt := 26) hx hb dX12_when_5 (by decide) (fun c2 => ?_) (fun c2 => ?_)
  · have h := it_t h c2
    refine lv_iconst (v := (-1)) hx hb dX12_when_26 (by decide) ?_
    exact RT (-1) S0 _ _ _ _ h rfl hP hD hS dX12_when_27
  · have h := it_f h c2
    refine lv_aload_n hx hb dX12_when_8 rfl (lv_at hl 0 rfl) ?_
    refine lv_iload_n hx hb dX12_when_9 rfl (lv_at hl 2 rfl) ?_
    obtain ⟨u3, hc, h⟩ := bd_el h
    refine ct_iA (w1 := cw_X12 E q0 S0) X hP hD hS (va_runV (C := RX12) (As := [.int x2]) (rest := []) ⟨hx, hb, hml, hown, hg⟩ (c_X12_isFleet l E q0 H.size S0 x2 u3 hc) (cwV 1 hg (gwV wm_X12_282 wi_X12_isFleet wsl_X12_isFleet wini_X12 wco_X12_isFleet) rfl rfl rfl (by decide +kernel) ⟨Nat.le_of_ble_eq_true rfl, Nat.le_of_ble_eq_true rfl⟩) ⟨ct_blind, ct_rv X.1 hP 0 rfl rfl, ct_preA X hP hD hS _⟩ rfl rfl hl.1 rfl (lv_room (Nat.le_of_ble_eq_true rfl)) dX12_when_10 ⟨Nat.zero_le _, Nat.zero_le _⟩) (fun H locs hP hD hS => ?_)
    refine lv_if_eq (tgt := 26) hx hb dX12_when_13 (by decide) (fun c4 => ?_) (fun c4 => ?_)
    · have h := it_t h c4
      refine lv_iconst (v := (-1)) hx hb dX12_when_26 (by decide) ?_
      exact RT (-1) S0 _ _ _ _ h rfl hP hD hS dX12_when_27
    · have h := it_f h c4
      refine lv_iload_n hx hb dX12_when_16 rfl (lv_at hl 3 rfl) ?_
      refine lv_iconst (v := 1) hx hb dX12_when_17 (by decide) ?_
      refine lv_bipush (v := 100) hx hb dX12_when_18 (by decide) ?_
      obtain ⟨u5, hc, h⟩ := bd_el h
      refine ct_iN X hP hD hS (va_runS (As := [.int x3, .int 1, .int 100]) (rest := []) ⟨hx, hb, hml, hown, hg⟩ (c_X12_in l E  H.size x3 1 100 u5 hc) (va_cwS 3 hg (gwS wm_X12_110 wst_X12_in wini_X12 wco_X12_in) rfl rfl rfl (by decide +kernel) ⟨Nat.le_of_ble_eq_true rfl, Nat.le_of_ble_eq_true rfl⟩) ⟨ct_blind, ct_preN X hS _⟩ rfl rfl hl.1 rfl (lv_room (Nat.le_of_ble_eq_true rfl)) dX12_when_20 ⟨Nat.zero_le _, Nat.zero_le _⟩) (fun H locs hP hD hS => ?_)
      refine lv_if_ne (tgt := 28) hx hb dX12_when_23 (by decide) (fun c6 => ?_) (fun c6 => ?_)
      · have h := it_f h c6
        refine lv_aload_n hx hb dX12_when_28 rfl (lv_at hl 0 rfl) ?_
        refine va_get (D := E.1) (ci := 11) (v := .ref (q0 1)) (C := RX12) (T := TX12) (N := 57) hx hb hg in_X12 hown X.1 hP 0 rfl rfl 0 (by decide) (hg _ wf_X12_7) (fun _ h9 => h9) rfl dX12_when_29 ?_
        refine lv_aload_n hx hb dX12_when_32 rfl (lv_at hl 0 rfl) ?_
        refine va_get (D := E.1) (ci := 11) (v := .ref (q0 2)) (C := RX12) (T := TX12) (N := 57) hx hb hg in_X12 hown X.1 hP 0 rfl rfl 1 (by decide) (hg _ wf_X12_13) (fun _ h9 => h9) rfl dX12_when_33 ?_
        obtain ⟨u7, hc, h⟩ := bd_el h
        obtain ⟨S0_8, eS, h⟩ := lt_el h
        refine ct_v (ws' := cw_X12 E q0 (sR S0 1 (u7.2 0))) X hP hD hS [1, 2] (va_runS (As := [.ref (q0 1), .ref (q0 2)]) (rest := []) ⟨hx, hb, hml, hown, hg⟩ (c_X12_copies l E (fun _ => q0 1) (fun _ => q0 2) H.size ((fun _ => 0, fun _ => S0.2 0) : Gr) ((fun _ => 0, fun _ => S0.2 1) : Gr) u7 hc) (va_cwS 2 hg (gwS wm_X12_335 wst_X12_copies wini_X12 wco_X12_copies) rfl rfl rfl (by decide +kernel) ⟨Nat.le_of_ble_eq_true rfl, Nat.le_of_ble_eq_true rfl⟩) ⟨ct_blind, ct_pre X hP hD hS [1, 2] (by decide) rfl _⟩ rfl rfl hl.1 rfl (lv_room (Nat.le_of_ble_eq_true rfl)) dX12_when_36 ⟨Nat.zero_le _, Nat.zero_le _⟩) rfl rfl rfl (fun H locs hP hD hS => ?_)
        have hP : va_P E.1 vwCl (cw_X12 E q0 S0_8) H := by rw [eS]; exact hP
        have hD : va_D A (cw_X12 E q0 S0_8) := by rw [eS]; exact hD
        clear eS
        refine lv_iconst (v := 0) hx hb dX12_when_39 (by decide) ?_
        refine lv_istore (lv' := [(4, .int 0), (0, .ref (q0 0)), (1, .int x1), (2, .int x2), (3, .int x3)]) hx hb dX12_when_40 hl (by decide) rfl (fun ls hl => ?_)
        exact N42 fu S0_8 0 _ _ _ h hP hD hS (lv_sub hl [1, 2, 3, 4, 0] rfl)
      · have h := it_t h c6
        refine lv_iconst (v := (-1)) hx hb dX12_when_26 (by decide) ?_
        exact RT (-1) S0 _ _ _ _ h rfl hP hD hS dX12_when_27
theorem dX12_check_0 : decode cX12_check 0 = .ok (.iload_n 1, 1) := by decide +kernel
theorem dX12_check_1 : decode cX12_check 1 = .ok (.iconst 0, 1) := by decide +kernel
theorem dX12_check_2 : decode cX12_check 2 = .ok (.bipush 8, 2) := by decide +kernel
theorem dX12_check_4 : decode cX12_check 4 = .ok (.invokestatic 110, 3) := by decide +kernel
theorem dX12_check_7 : decode cX12_check 7 = .ok (.ifCond .eq 11, 3) := by decide +kernel
theorem dX12_check_10 : decode cX12_check 10 = .ok (.iload_n 1, 1) := by decide +kernel
theorem dX12_check_11 : decode cX12_check 11 = .ok (.aload_n 0, 1) := by decide +kernel
theorem dX12_check_12 : decode cX12_check 12 = .ok (.getfield 143, 3) := by decide +kernel
theorem dX12_check_15 : decode cX12_check 15 = .ok (.if_icmp .le 6, 3) := by decide +kernel
theorem dX12_check_18 : decode cX12_check 18 = .ok (.bipush (-2), 2) := by decide +kernel
theorem dX12_check_20 : decode cX12_check 20 = .ok (.ireturn, 1) := by decide +kernel
theorem dX12_check_21 : decode cX12_check 21 = .ok (.aload_n 0, 1) := by decide +kernel
theorem dX12_check_22 : decode cX12_check 22 = .ok (.iconst 0, 1) := by decide +kernel
theorem dX12_check_23 : decode cX12_check 23 = .ok (.putfield 143, 3) := by decide +kernel
theorem dX12_check_26 : decode cX12_check 26 = .ok (.iconst 0, 1) := by decide +kernel
theorem dX12_check_27 : decode cX12_check 27 = .ok (.istore_n 2, 1) := by decide +kernel
theorem dX12_check_28 : decode cX12_check 28 = .ok (.iload_n 2, 1) := by decide +kernel
theorem dX12_check_29 : decode cX12_check 29 = .ok (.iload_n 1, 1) := by decide +kernel
theorem dX12_check_30 : decode cX12_check 30 = .ok (.if_icmp .ge 41, 3) := by decide +kernel
theorem dX12_check_33 : decode cX12_check 33 = .ok (.aload_n 0, 1) := by decide +kernel
theorem dX12_check_34 : decode cX12_check 34 = .ok (.iload_n 2, 1) := by decide +kernel
theorem dX12_check_35 : decode cX12_check 35 = .ok (.invokevirtual 351, 3) := by decide +kernel
theorem dX12_check_38 : decode cX12_check 38 = .ok (.aload_n 0, 1) := by decide +kernel
theorem dX12_check_39 : decode cX12_check 39 = .ok (.iload_n 2, 1) := by decide +kernel
theorem dX12_check_40 : decode cX12_check 40 = .ok (.invokevirtual 139, 3) := by decide +kernel
theorem dX12_check_43 : decode cX12_check 43 = .ok (.ifCond .eq 14, 3) := by decide +kernel
theorem dX12_check_46 : decode cX12_check 46 = .ok (.aload_n 0, 1) := by decide +kernel
theorem dX12_check_47 : decode cX12_check 47 = .ok (.iload_n 2, 1) := by decide +kernel
theorem dX12_check_48 : decode cX12_check 48 = .ok (.invokevirtual 288, 3) := by decide +kernel
theorem dX12_check_51 : decode cX12_check 51 = .ok (.invokestatic 291, 3) := by decide +kernel
theorem dX12_check_54 : decode cX12_check 54 = .ok (.goto 6, 3) := by decide +kernel
theorem dX12_check_57 : decode cX12_check 57 = .ok (.sipush 255, 3) := by decide +kernel
theorem dX12_check_60 : decode cX12_check 60 = .ok (.if_icmp .eq 5, 3) := by decide +kernel
theorem dX12_check_63 : decode cX12_check 63 = .ok (.iload_n 2, 1) := by decide +kernel
theorem dX12_check_64 : decode cX12_check 64 = .ok (.ireturn, 1) := by decide +kernel
theorem dX12_check_65 : decode cX12_check 65 = .ok (.iinc 2 1, 3) := by decide +kernel
theorem dX12_check_68 : decode cX12_check 68 = .ok (.goto (-40), 3) := by decide +kernel
theorem dX12_check_71 : decode cX12_check 71 = .ok (.iconst (-1), 1) := by decide +kernel
theorem dX12_check_72 : decode cX12_check 72 = .ok (.ireturn, 1) := by decide +kernel
def f_X12_check_n28 (x1 : Int32) : Nat → Gr → Int32 → Option (Int32 × Gr)
  | 0, _, _ => none
  | n + 1, S0, x2 => if x1 ≤ x2 then (some ((-1), S0)) else ((f_X12_octet S0 x2).bind fun u6 => (f_X12_isWeb S0 x2).bind fun u7 => if u7 = 0 then (if u6 = 255 then (lt' (x2 + 1) fun v10 => f_X12_check_n28 x1 n S0 v10) else (some (x2, S0))) else ((f_X12_slackOf S0 x2).bind fun u11 => (f_X12_bits u11).bind fun u12 => if u6 = u12 then (lt' (x2 + 1) fun v14 => f_X12_check_n28 x1 n S0 v14) else (some (x2, S0))))
def f_X12_check (S0 : Gr) (x1 : Int32) : Option (Int32 × Gr) := (f_X12_in x1 0 8).bind fun u1 => if u1 = 0 then (some ((-2), S0)) else (if x1 ≤ (S0.1 8) then (lt' (sI S0 8 0) fun S0_4 => f_X12_check_n28 x1 fu S0_4 0) else (some ((-2), S0)))
set_option maxHeartbeats 4000000 in
set_option maxRecDepth 100000 in
theorem c_X12_check (l : Launch) (E : Ec) (q0 : Nat → Nat) (sz : Nat) (S0 : Gr) (x1 : Int32) (Rv : Int32 × Gr) (h : f_X12_check S0 x1 = some Rv) : Met l yX12_check (wsM (.code yX12_check cX12_check 3 (some .int))) ({ frames := 2, cells := 0, slots := 0, locals := 43 } : Room) (va_Pc [.ref (q0 0), .int x1] (ctP E (cw_X12 E q0 S0) sz)) (ctI E (cw_X12 E q0 S0) (cw_X12 E q0 Rv.2) sz Rv.1) 0 0 (va_A (cw_X12 E q0 S0) sz) := by
  refine ct_metI (by decide) (Nat.le_of_ble_eq_true rfl) ?_
  intro p e s m ar below meth c A QM hx hb hml hown hg X hP hD hS RET ls hl
  have hown : s.vm.findClass RX12 = some m.cls := hown
  have hl : lv_has ls 3 [(0, .ref (q0 0)), (1, .int x1)] := hl
  have RT : ∀ (v : Int32) (S0 : Gr) (H : Heap) (locs : List Loc) (ls : Array Slot) (pc : Nat), some (v, S0) = some Rv → narrow .int (.int v) = .int v → va_P E.1 vwCl (cw_X12 E q0 S0) H → va_D A (cw_X12 E q0 S0) → va_S A s.heap H locs → decode cX12_check pc = .ok (.ireturn, 1) → W p l e ({ frames := 2, cells := 0, slots := 0, locals := 43 } : Room) s m ar below meth c H locs 0 0 QM (F0 m pc ls [.int v]) := by
    intro v S0 H locs ls pc e hn hP hD hS d
    obtain rfl := sm_e e
    exact RET H locs pc ls hn hP hD hS d
  clear RET
  have N28 : ∀ (n : Nat) (S0 : Gr) (x2 : Int32) (H : Heap) (locs : List Loc) (ls : Array Slot), f_X12_check_n28 x1 n S0 x2 = some Rv → va_P E.1 vwCl (cw_X12 E q0 S0) H → va_D A (cw_X12 E q0 S0) → va_S A s.heap H locs → lv_has ls 3 [(0, .ref (q0 0)), (1, .int x1), (2, .int x2)] → W p l e ({ frames := 2, cells := 0, slots := 0, locals := 43 } : Room) s m ar below meth c H locs 0 0 QM (F0 m 28 ls []) := by
    intro n
    induction n with
    | zero => intro S0 x2 H locs ls h; exact nn_el h
    | succ n ih =>
      intro S0 x2 H locs ls h hP hD hS hl
      refine lv_iload_n hx hb dX12_check_28 rfl (lv_at hl 2 rfl) ?_
      refine lv_iload_n hx hb dX12_check_29 rfl (lv_at hl 1 rfl) ?_
      refine lv_icmp_ge (tgt := 71) hx hb dX12_check_30 (by decide) (fun c5 => ?_) (fun c5 => ?_)
      · have h := it_t h c5
        refine lv_iconst (v := (-1)) hx hb dX12_check_71 (by decide) ?_
        exact RT (-1) S0 _ _ _ _ h rfl hP hD hS dX12_check_72
      · have h := it_f h c5
        refine lv_aload_n hx hb dX12_check_33 rfl (lv_at hl 0 rfl) ?_
        refine lv_iload_n hx hb dX12_check_34 rfl (lv_at hl 2 rfl) ?_
        obtain ⟨u6, hc, h⟩ := bd_el h
        refine ct_iA (w1 := cw_X12 E q0 S0) X hP hD hS (va_runV (C := RX12) (As := [.int x2]) (rest := []) ⟨hx, hb, hml, hown, hg⟩ (c_X12_octet l E q0 H.size S0 x2 u6 hc) (cwV 1 hg (gwV wm_X12_351 wi_X12_octet wsl_X12_octet wini_X12 wco_X12_octet) rfl rfl rfl (by decide +kernel) ⟨Nat.le_of_ble_eq_true rfl, Nat.le_of_ble_eq_true rfl⟩) ⟨ct_blind, ct_rv X.1 hP 0 rfl rfl, ct_preA X hP hD hS _⟩ rfl rfl hl.1 rfl (lv_room (Nat.le_of_ble_eq_true rfl)) dX12_check_35 ⟨Nat.zero_le _, Nat.zero_le _⟩) (fun H locs hP hD hS => ?_)
        refine lv_aload_n hx hb dX12_check_38 rfl (lv_at hl 0 rfl) ?_
        refine lv_iload_n hx hb dX12_check_39 rfl (lv_at hl 2 rfl) ?_
        obtain ⟨u7, hc, h⟩ := bd_el h
        refine ct_iA (w1 := cw_X12 E q0 S0) X hP hD hS (va_runV (C := RX12) (As := [.int x2]) (rest := [.int u6]) ⟨hx, hb, hml, hown, hg⟩ (c_X12_isWeb l E q0 H.size S0 x2 u7 hc) (cwV 1 hg (gwV wm_X12_139 wi_X12_isWeb wsl_X12_isWeb wini_X12 wco_X12_isWeb) rfl rfl rfl (by decide +kernel) ⟨Nat.le_of_ble_eq_true rfl, Nat.le_of_ble_eq_true rfl⟩) ⟨ct_blind, ct_rv X.1 hP 0 rfl rfl, ct_preA X hP hD hS _⟩ rfl rfl hl.1 rfl (lv_room (Nat.le_of_ble_eq_true rfl)) dX12_check_40 ⟨Nat.zero_le _, Nat.zero_le _⟩) (fun H locs hP hD hS => ?_)
        refine lv_if_eq (tgt := 57) hx hb dX12_check_43 (by decide) (fun c8 => ?_) (fun c8 => ?_)
        · have h := it_t h c8
          refine lv_sipush (v := 255) hx hb dX12_check_57 (by decide) ?_
          refine lv_icmp_eq (tgt := 65) hx hb dX12_check_60 (by decide) (fun c9 => ?_) (fun c9 => ?_)
          · have h := it_t h c9
            obtain ⟨v10, ev10, h⟩ := lt_el h
            refine lv_iinc (v := v10) (lv' := [(2, .int v10), (0, .ref (q0 0)), (1, .int x1)]) hx hb dX12_check_65 hl (k := 2) rfl (by rw [ev10]; rfl) (by decide) rfl (fun ls hl => ?_)
            refine lv_goto (tgt := 28) hx hb dX12_check_68 (by decide) ?_
            exact ih S0 v10 _ _ _ h hP hD hS (lv_sub hl [1, 2, 0] rfl)
          · have h := it_f h c9
            refine lv_iload_n hx hb dX12_check_63 rfl (lv_at hl 2 rfl) ?_
            exact RT x2 S0 _ _ _ _ h rfl hP hD hS dX12_check_64
        · have h := it_f h c8
          refine lv_aload_n hx hb dX12_check_46 rfl (lv_at hl 0 rfl) ?_
          refine lv_iload_n hx hb dX12_check_47 rfl (lv_at hl 2 rfl) ?_
          obtain ⟨u11, hc, h⟩ := bd_el h
          refine ct_iA (w1 := cw_X12 E q0 S0) X hP hD hS (va_runV (C := RX12) (As := [.int x2]) (rest := [.int u6]) ⟨hx, hb, hml, hown, hg⟩ (c_X12_slackOf l E q0 H.size S0 x2 u11 hc) (cwV 1 hg (gwV wm_X12_288 wi_X12_slackOf wsl_X12_slackOf wini_X12 wco_X12_slackOf) rfl rfl rfl (by decide +kernel) ⟨Nat.le_of_ble_eq_true rfl, Nat.le_of_ble_eq_true rfl⟩) ⟨ct_blind, ct_rv X.1 hP 0 rfl rfl, ct_preA X hP hD hS _⟩ rfl rfl hl.1 rfl (lv_room (Nat.le_of_ble_eq_true rfl)) dX12_check_48 ⟨Nat.zero_le _, Nat.zero_le _⟩) (fun H locs hP hD hS => ?_)
          obtain ⟨u12, hc, h⟩ := bd_el h
          refine ct_iN X hP hD hS (va_runS (As := [.int u11]) (rest := [.int u6]) ⟨hx, hb, hml, hown, hg⟩ (c_X12_bits l E  H.size u11 u12 hc) (va_cwS 1 hg (gwS wm_X12_291 wst_X12_bits wini_X12 wco_X12_bits) rfl rfl rfl (by decide +kernel) ⟨Nat.le_of_ble_eq_true rfl, Nat.le_of_ble_eq_true rfl⟩) ⟨ct_blind, ct_preN X hS _⟩ rfl rfl hl.1 rfl (lv_room (Nat.le_of_ble_eq_true rfl)) dX12_check_51 ⟨Nat.zero_le _, Nat.zero_le _⟩) (fun H locs hP hD hS => ?_)
          refine lv_goto (tgt := 60) hx hb dX12_check_54 (by decide) ?_
          refine lv_icmp_eq (tgt := 65) hx hb dX12_check_60 (by decide) (fun c13 => ?_) (fun c13 => ?_)
          · have h := it_t h c13
            obtain ⟨v14, ev14, h⟩ := lt_el h
            refine lv_iinc (v := v14) (lv' := [(2, .int v14), (0, .ref (q0 0)), (1, .int x1)]) hx hb dX12_check_65 hl (k := 2) rfl (by rw [ev14]; rfl) (by decide) rfl (fun ls hl => ?_)
            refine lv_goto (tgt := 28) hx hb dX12_check_68 (by decide) ?_
            exact ih S0 v14 _ _ _ h hP hD hS (lv_sub hl [1, 2, 0] rfl)
          · have h := it_f h c13
            refine lv_iload_n hx hb dX12_check_63 rfl (lv_at hl 2 rfl) ?_
            exact RT x2 S0 _ _ _ _ h rfl hP hD hS dX12_check_64
  obtain ⟨H, eH⟩ : ∃ z, z = s.heap := ⟨_, rfl⟩
  rw [← eH]
  have hP : va_P E.1 vwCl (cw_X12 E q0 S0) H := by rw [eH]; exact hP
  have hS : va_S A s.heap H [] := by rw [eH]; exact hS
  clear eH
  obtain ⟨locs, el⟩ : ∃ z : List Loc, z = [] := ⟨_, rfl⟩
  rw [← el] at hS ⊢
  clear el
  refine lv_iload_n hx hb dX12_check_0 rfl (lv_at hl 1 rfl) ?_
  refine lv_iconst (v := 0) hx hb dX12_check_1 (by decide) ?_
  refine lv_bipush (v := 8) hx hb dX12_check_2 (by decide) ?_
  obtain ⟨u1, hc, h⟩ := bd_el h
  refine ct_iN X hP hD hS (va_runS (As := [.int x1, .int 0, .int 8]) (rest := []) ⟨hx, hb, hml, hown, hg⟩ (c_X12_in l E  H.size x1 0 8 u1 hc) (va_cwS 3 hg (gwS wm_X12_110 wst_X12_in wini_X12 wco_X12_in) rfl rfl rfl (by decide +kernel) ⟨Nat.le_of_ble_eq_true rfl, Nat.le_of_ble_eq_true rfl⟩) ⟨ct_blind, ct_preN X hS _⟩ rfl rfl hl.1 rfl (lv_room (Nat.le_of_ble_eq_true rfl)) dX12_check_4 ⟨Nat.zero_le _, Nat.zero_le _⟩) (fun H locs hP hD hS => ?_)
  refine lv_if_eq (tgt := 18) hx hb dX12_check_7 (by decide) (fun c2 => ?_) (fun c2 => ?_)
  · have h := it_t h c2
    refine lv_bipush (v := (-2)) hx hb dX12_check_18 (by decide) ?_
    exact RT (-2) S0 _ _ _ _ h rfl hP hD hS dX12_check_20
  · have h := it_f h c2
    refine lv_iload_n hx hb dX12_check_10 rfl (lv_at hl 1 rfl) ?_
    refine lv_aload_n hx hb dX12_check_11 rfl (lv_at hl 0 rfl) ?_
    refine va_get (D := E.1) (ci := 11) (v := .int (S0.1 8)) (C := RX12) (T := TX12) (N := 57) hx hb hg in_X12 hown X.1 hP 0 rfl rfl 8 (by decide) (hg _ wf_X12_143) (fun _ h9 => h9) rfl dX12_check_12 ?_
    refine lv_icmp_le (tgt := 21) hx hb dX12_check_15 (by decide) (fun c3 => ?_) (fun c3 => ?_)
    · have h := it_t h c3
      refine lv_aload_n hx hb dX12_check_21 rfl (lv_at hl 0 rfl) ?_
      refine lv_iconst (v := 0) hx hb dX12_check_22 (by decide) ?_
      obtain ⟨S0_4, eS, h⟩ := lt_el h
      refine va_put (D := E.1) (ci := 11) (v := .int 0) (ty := .int) (C := RX12) (T := TX12) (N := 57) hx hb hg in_X12 tyX12 tyX12_ok nmX12 hown X.1 hP hD hS 0 rfl rfl 8 (by decide) (hg _ wf_X12_143) (fun _ h9 => h9) rfl (by decide +kernel) rfl rfl (Nat.le_of_ble_eq_true rfl) dX12_check_23 (fun H locs hP hD hS => ?_)
      have hP : va_P E.1 vwCl (cw_X12 E q0 S0_4) H := by rw [eS]; exact hP
      have hD : va_D A (cw_X12 E q0 S0_4) := by rw [eS]; exact hD
      clear eS
      refine lv_iconst (v := 0) hx hb dX12_check_26 (by decide) ?_
      refine lv_istore_n (lv' := [(2, .int 0), (0, .ref (q0 0)), (1, .int x1)]) hx hb dX12_check_27 rfl hl (by decide) rfl (fun ls hl => ?_)
      exact N28 fu S0_4 0 _ _ _ h hP hD hS (lv_sub hl [1, 2, 0] rfl)
    · have h := it_f h c3
      refine lv_bipush (v := (-2)) hx hb dX12_check_18 (by decide) ?_
      exact RT (-2) S0 _ _ _ _ h rfl hP hD hS dX12_check_20
theorem dX12_tensionsOfAll_0 : decode cX12_tensionsOfAll 0 = .ok (.iconst 0, 1) := by decide +kernel
theorem dX12_tensionsOfAll_1 : decode cX12_tensionsOfAll 1 = .ok (.istore_n 1, 1) := by decide +kernel
theorem dX12_tensionsOfAll_2 : decode cX12_tensionsOfAll 2 = .ok (.iconst 0, 1) := by decide +kernel
theorem dX12_tensionsOfAll_3 : decode cX12_tensionsOfAll 3 = .ok (.istore_n 2, 1) := by decide +kernel
theorem dX12_tensionsOfAll_4 : decode cX12_tensionsOfAll 4 = .ok (.iload_n 2, 1) := by decide +kernel
theorem dX12_tensionsOfAll_5 : decode cX12_tensionsOfAll 5 = .ok (.bipush 8, 2) := by decide +kernel
theorem dX12_tensionsOfAll_7 : decode cX12_tensionsOfAll 7 = .ok (.if_icmp .ge 25, 3) := by decide +kernel
theorem dX12_tensionsOfAll_10 : decode cX12_tensionsOfAll 10 = .ok (.aload_n 0, 1) := by decide +kernel
theorem dX12_tensionsOfAll_11 : decode cX12_tensionsOfAll 11 = .ok (.iload_n 2, 1) := by decide +kernel
theorem dX12_tensionsOfAll_12 : decode cX12_tensionsOfAll 12 = .ok (.invokevirtual 139, 3) := by decide +kernel
theorem dX12_tensionsOfAll_15 : decode cX12_tensionsOfAll 15 = .ok (.ifCond .eq 11, 3) := by decide +kernel
theorem dX12_tensionsOfAll_18 : decode cX12_tensionsOfAll 18 = .ok (.iload_n 1, 1) := by decide +kernel
theorem dX12_tensionsOfAll_19 : decode cX12_tensionsOfAll 19 = .ok (.aload_n 0, 1) := by decide +kernel
theorem dX12_tensionsOfAll_20 : decode cX12_tensionsOfAll 20 = .ok (.iload_n 2, 1) := by decide +kernel
theorem dX12_tensionsOfAll_21 : decode cX12_tensionsOfAll 21 = .ok (.invokevirtual 342, 3) := by decide +kernel
theorem dX12_tensionsOfAll_24 : decode cX12_tensionsOfAll 24 = .ok (.iadd, 1) := by decide +kernel
theorem dX12_tensionsOfAll_25 : decode cX12_tensionsOfAll 25 = .ok (.istore_n 1, 1) := by decide +kernel
theorem dX12_tensionsOfAll_26 : decode cX12_tensionsOfAll 26 = .ok (.iinc 2 1, 3) := by decide +kernel
theorem dX12_tensionsOfAll_29 : decode cX12_tensionsOfAll 29 = .ok (.goto (-25), 3) := by decide +kernel
theorem dX12_tensionsOfAll_32 : decode cX12_tensionsOfAll 32 = .ok (.iload_n 1, 1) := by decide +kernel
theorem dX12_tensionsOfAll_33 : decode cX12_tensionsOfAll 33 = .ok (.ireturn, 1) := by decide +kernel
def f_X12_tensionsOfAll_n4 (S0 : Gr) : Nat → Int32 → Int32 → Option (Int32)
  | 0, _, _ => none
  | n + 1, x1, x2 => if 8 ≤ x2 then (some x1) else ((f_X12_isWeb S0 x2).bind fun u2 => if u2 = 0 then (lt' (x2 + 1) fun v4 => f_X12_tensionsOfAll_n4 S0 n x1 v4) else ((f_X12_tensionsOf S0 x2).bind fun u5 => lt' ((x1 + u5)) fun v6 => lt' (x2 + 1) fun v7 => f_X12_tensionsOfAll_n4 S0 n v6 v7))
def f_X12_tensionsOfAll (S0 : Gr) : Option (Int32) := f_X12_tensionsOfAll_n4 S0 fu 0 0
set_option maxHeartbeats 4000000 in
set_option maxRecDepth 100000 in
theorem c_X12_tensionsOfAll (l : Launch) (E : Ec) (q0 : Nat → Nat) (sz : Nat) (S0 : Gr) (Rv : Int32) (h : f_X12_tensionsOfAll S0 = some Rv) : Met l yX12_tensionsOfAll (wsM (.code yX12_tensionsOfAll cX12_tensionsOfAll 3 (some .int))) ({ frames := 2, cells := 0, slots := 0, locals := 43 } : Room) (va_Pc [.ref (q0 0)] (ctP E (cw_X12 E q0 S0) sz)) (ctI E (cw_X12 E q0 S0) (cw_X12 E q0 S0) sz Rv) 0 0 (va_A (cw_X12 E q0 S0) sz) := by
  refine ct_metI (by decide) (Nat.le_of_ble_eq_true rfl) ?_
  intro p e s m ar below meth c A QM hx hb hml hown hg X hP hD hS RET ls hl
  have hown : s.vm.findClass RX12 = some m.cls := hown
  have hl : lv_has ls 3 [(0, .ref (q0 0))] := hl
  have RT : ∀ (v : Int32) (H : Heap) (locs : List Loc) (ls : Array Slot) (pc : Nat), some v = some Rv → narrow .int (.int v) = .int v → va_P E.1 vwCl (cw_X12 E q0 S0) H → va_D A (cw_X12 E q0 S0) → va_S A s.heap H locs → decode cX12_tensionsOfAll pc = .ok (.ireturn, 1) → W p l e ({ frames := 2, cells := 0, slots := 0, locals := 43 } : Room) s m ar below meth c H locs 0 0 QM (F0 m pc ls [.int v]) := by
    intro v H locs ls pc e hn hP hD hS d
    obtain rfl := sm_e e
    exact RET H locs pc ls hn hP hD hS d
  clear RET
  have N4 : ∀ (n : Nat) (x1 : Int32) (x2 : Int32) (H : Heap) (locs : List Loc) (ls : Array Slot), f_X12_tensionsOfAll_n4 S0 n x1 x2 = some Rv → va_P E.1 vwCl (cw_X12 E q0 S0) H → va_D A (cw_X12 E q0 S0) → va_S A s.heap H locs → lv_has ls 3 [(0, .ref (q0 0)), (1, .int x1), (2, .int x2)] → W p l e ({ frames := 2, cells := 0, slots := 0, locals := 43 } : Room) s m ar below meth c H locs 0 0 QM (F0 m 4 ls []) := by
    intro n
    induction n with
    | zero => intro x1 x2 H locs ls h; exact nn_el h
    | succ n ih =>
      intro x1 x2 H locs ls h hP hD hS hl
      refine lv_iload_n hx hb dX12_tensionsOfAll_4 rfl (lv_at hl 2 rfl) ?_
      refine lv_bipush (v := 8) hx hb dX12_tensionsOfAll_5 (by decide) ?_
      refine lv_icmp_ge (tgt := 32) hx hb dX12_tensionsOfAll_7 (by decide) (fun c1 => ?_) (fun c1 => ?_)
      · have h := it_t h c1
        refine lv_iload_n hx hb dX12_tensionsOfAll_32 rfl (lv_at hl 1 rfl) ?_
        exact RT x1 _ _ _ _ h rfl hP hD hS dX12_tensionsOfAll_33
      · have h := it_f h c1
        refine lv_aload_n hx hb dX12_tensionsOfAll_10 rfl (lv_at hl 0 rfl) ?_
        refine lv_iload_n hx hb dX12_tensionsOfAll_11 rfl (lv_at hl 2 rfl) ?_
        obtain ⟨u2, hc, h⟩ := bd_el h
        refine ct_iA (w1 := cw_X12 E q0 S0) X hP hD hS (va_runV (C := RX12) (As := [.int x2]) (rest := []) ⟨hx, hb, hml, hown, hg⟩ (c_X12_isWeb l E q0 H.size S0 x2 u2 hc) (cwV 1 hg (gwV wm_X12_139 wi_X12_isWeb wsl_X12_isWeb wini_X12 wco_X12_isWeb) rfl rfl rfl (by decide +kernel) ⟨Nat.le_of_ble_eq_true rfl, Nat.le_of_ble_eq_true rfl⟩) ⟨ct_blind, ct_rv X.1 hP 0 rfl rfl, ct_preA X hP hD hS _⟩ rfl rfl hl.1 rfl (lv_room (Nat.le_of_ble_eq_true rfl)) dX12_tensionsOfAll_12 ⟨Nat.zero_le _, Nat.zero_le _⟩) (fun H locs hP hD hS => ?_)
        refine lv_if_eq (tgt := 26) hx hb dX12_tensionsOfAll_15 (by decide) (fun c3 => ?_) (fun c3 => ?_)
        · have h := it_t h c3
          obtain ⟨v4, ev4, h⟩ := lt_el h
          refine lv_iinc (v := v4) (lv' := [(2, .int v4), (0, .ref (q0 0)), (1, .int x1)]) hx hb dX12_tensionsOfAll_26 hl (k := 2) rfl (by rw [ev4]; rfl) (by decide) rfl (fun ls hl => ?_)
          refine lv_goto (tgt := 4) hx hb dX12_tensionsOfAll_29 (by decide) ?_
          exact ih x1 v4 _ _ _ h hP hD hS (lv_sub hl [1, 2, 0] rfl)
        · have h := it_f h c3
          refine lv_iload_n hx hb dX12_tensionsOfAll_18 rfl (lv_at hl 1 rfl) ?_
          refine lv_aload_n hx hb dX12_tensionsOfAll_19 rfl (lv_at hl 0 rfl) ?_
          refine lv_iload_n hx hb dX12_tensionsOfAll_20 rfl (lv_at hl 2 rfl) ?_
          obtain ⟨u5, hc, h⟩ := bd_el h
          refine ct_iA (w1 := cw_X12 E q0 S0) X hP hD hS (va_runV (C := RX12) (As := [.int x2]) (rest := [.int x1]) ⟨hx, hb, hml, hown, hg⟩ (c_X12_tensionsOf l E q0 H.size S0 x2 u5 hc) (cwV 1 hg (gwV wm_X12_342 wi_X12_tensionsOf wsl_X12_tensionsOf wini_X12 wco_X12_tensionsOf) rfl rfl rfl (by decide +kernel) ⟨Nat.le_of_ble_eq_true rfl, Nat.le_of_ble_eq_true rfl⟩) ⟨ct_blind, ct_rv X.1 hP 0 rfl rfl, ct_preA X hP hD hS _⟩ rfl rfl hl.1 rfl (lv_room (Nat.le_of_ble_eq_true rfl)) dX12_tensionsOfAll_21 ⟨Nat.zero_le _, Nat.zero_le _⟩) (fun H locs hP hD hS => ?_)
          refine lv_iadd hx hb dX12_tensionsOfAll_24 ?_
          obtain ⟨v6, ev6, h⟩ := lt_el h
          refine lv_top' ev6 ?_
          refine lv_istore_n (lv' := [(1, .int v6), (0, .ref (q0 0)), (2, .int x2)]) hx hb dX12_tensionsOfAll_25 rfl hl (by decide) rfl (fun ls hl => ?_)
          obtain ⟨v7, ev7, h⟩ := lt_el h
          refine lv_iinc (v := v7) (lv' := [(2, .int v7), (1, .int v6), (0, .ref (q0 0))]) hx hb dX12_tensionsOfAll_26 hl (k := 2) rfl (by rw [ev7]; rfl) (by decide) rfl (fun ls hl => ?_)
          refine lv_goto (tgt := 4) hx hb dX12_tensionsOfAll_29 (by decide) ?_
          exact ih v6 v7 _ _ _ h hP hD hS (lv_sub hl [2, 1, 0] rfl)
  obtain ⟨H, eH⟩ : ∃ z, z = s.heap := ⟨_, rfl⟩
  rw [← eH]
  have hP : va_P E.1 vwCl (cw_X12 E q0 S0) H := by rw [eH]; exact hP
  have hS : va_S A s.heap H [] := by rw [eH]; exact hS
  clear eH
  obtain ⟨locs, el⟩ : ∃ z : List Loc, z = [] := ⟨_, rfl⟩
  rw [← el] at hS ⊢
  clear el
  refine lv_iconst (v := 0) hx hb dX12_tensionsOfAll_0 (by decide) ?_
  refine lv_istore_n (lv' := [(1, .int 0), (0, .ref (q0 0))]) hx hb dX12_tensionsOfAll_1 rfl hl (by decide) rfl (fun ls hl => ?_)
  refine lv_iconst (v := 0) hx hb dX12_tensionsOfAll_2 (by decide) ?_
  refine lv_istore_n (lv' := [(2, .int 0), (1, .int 0), (0, .ref (q0 0))]) hx hb dX12_tensionsOfAll_3 rfl hl (by decide) rfl (fun ls hl => ?_)
  exact N4 fu 0 0 _ _ _ h hP hD hS (lv_sub hl [2, 1, 0] rfl)
theorem dX12_count_0 : decode cX12_count 0 = .ok (.iload_n 1, 1) := by decide +kernel
theorem dX12_count_1 : decode cX12_count 1 = .ok (.tableswitch 84 0 6 #[43, 51, 56, 61, 66, 71, 79], 43) := by decide +kernel
theorem dX12_count_44 : decode cX12_count 44 = .ok (.aload_n 0, 1) := by decide +kernel
theorem dX12_count_45 : decode cX12_count 45 = .ok (.getfield 7, 3) := by decide +kernel
theorem dX12_count_48 : decode cX12_count 48 = .ok (.bipush 80, 2) := by decide +kernel
theorem dX12_count_50 : decode cX12_count 50 = .ok (.iaload, 1) := by decide +kernel
theorem dX12_count_51 : decode cX12_count 51 = .ok (.ireturn, 1) := by decide +kernel
theorem dX12_count_52 : decode cX12_count 52 = .ok (.aload_n 0, 1) := by decide +kernel
theorem dX12_count_53 : decode cX12_count 53 = .ok (.getfield 114, 3) := by decide +kernel
theorem dX12_count_56 : decode cX12_count 56 = .ok (.ireturn, 1) := by decide +kernel
theorem dX12_count_57 : decode cX12_count 57 = .ok (.aload_n 0, 1) := by decide +kernel
theorem dX12_count_58 : decode cX12_count 58 = .ok (.getfield 122, 3) := by decide +kernel
theorem dX12_count_61 : decode cX12_count 61 = .ok (.ireturn, 1) := by decide +kernel
theorem dX12_count_62 : decode cX12_count 62 = .ok (.aload_n 0, 1) := by decide +kernel
theorem dX12_count_63 : decode cX12_count 63 = .ok (.getfield 242, 3) := by decide +kernel
theorem dX12_count_66 : decode cX12_count 66 = .ok (.ireturn, 1) := by decide +kernel
theorem dX12_count_67 : decode cX12_count 67 = .ok (.aload_n 0, 1) := by decide +kernel
theorem dX12_count_68 : decode cX12_count 68 = .ok (.getfield 143, 3) := by decide +kernel
theorem dX12_count_71 : decode cX12_count 71 = .ok (.ireturn, 1) := by decide +kernel
theorem dX12_count_72 : decode cX12_count 72 = .ok (.aload_n 0, 1) := by decide +kernel
theorem dX12_count_73 : decode cX12_count 73 = .ok (.getfield 7, 3) := by decide +kernel
theorem dX12_count_76 : decode cX12_count 76 = .ok (.bipush 81, 2) := by decide +kernel
theorem dX12_count_78 : decode cX12_count 78 = .ok (.iaload, 1) := by decide +kernel
theorem dX12_count_79 : decode cX12_count 79 = .ok (.ireturn, 1) := by decide +kernel
theorem dX12_count_80 : decode cX12_count 80 = .ok (.aload_n 0, 1) := by decide +kernel
theorem dX12_count_81 : decode cX12_count 81 = .ok (.invokevirtual 430, 3) := by decide +kernel
theorem dX12_count_84 : decode cX12_count 84 = .ok (.ireturn, 1) := by decide +kernel
theorem dX12_count_85 : decode cX12_count 85 = .ok (.iconst (-1), 1) := by decide +kernel
theorem dX12_count_86 : decode cX12_count 86 = .ok (.ireturn, 1) := by decide +kernel
def f_X12_count (S0 : Gr) (x1 : Int32) : Option (Int32) := if x1 = 0 then (rd' (S0.2 0) 82 80 fun v2 => some v2) else if x1 = 1 then (some (S0.1 5)) else if x1 = 2 then (some (S0.1 6)) else if x1 = 3 then (some (S0.1 17)) else if x1 = 4 then (some (S0.1 8)) else if x1 = 5 then (rd' (S0.2 0) 82 81 fun v8 => some v8) else if x1 = 6 then ((f_X12_tensionsOfAll S0).bind fun u10 => some u10) else (some (-1))
set_option maxHeartbeats 4000000 in
set_option maxRecDepth 100000 in
theorem c_X12_count (l : Launch) (E : Ec) (q0 : Nat → Nat) (sz : Nat) (S0 : Gr) (x1 : Int32) (Rv : Int32) (h : f_X12_count S0 x1 = some Rv) : Met l yX12_count (wsM (.code yX12_count cX12_count 2 (some .int))) ({ frames := 3, cells := 0, slots := 0, locals := 65 } : Room) (va_Pc [.ref (q0 0), .int x1] (ctP E (cw_X12 E q0 S0) sz)) (ctI E (cw_X12 E q0 S0) (cw_X12 E q0 S0) sz Rv) 0 0 (va_A (cw_X12 E q0 S0) sz) := by
  refine ct_metI (by decide) (Nat.le_of_ble_eq_true rfl) ?_
  intro p e s m ar below meth c A QM hx hb hml hown hg X hP hD hS RET ls hl
  have hown : s.vm.findClass RX12 = some m.cls := hown
  have hl : lv_has ls 2 [(0, .ref (q0 0)), (1, .int x1)] := hl
  have RT : ∀ (v : Int32) (H : Heap) (locs : List Loc) (ls : Array Slot) (pc : Nat), some v = some Rv → narrow .int (.int v) = .int v → va_P E.1 vwCl (cw_X12 E q0 S0) H → va_D A (cw_X12 E q0 S0) → va_S A s.heap H locs → decode cX12_count pc = .ok (.ireturn, 1) → W p l e ({ frames := 3, cells := 0, slots := 0, locals := 65 } : Room) s m ar below meth c H locs 0 0 QM (F0 m pc ls [.int v]) := by
    intro v H locs ls pc e hn hP hD hS d
    obtain rfl := sm_e e
    exact RET H locs pc ls hn hP hD hS d
  clear RET
  obtain ⟨H, eH⟩ : ∃ z, z = s.heap := ⟨_, rfl⟩
  rw [← eH]
  have hP : va_P E.1 vwCl (cw_X12 E q0 S0) H := by rw [eH]; exact hP
  have hS : va_S A s.heap H [] := by rw [eH]; exact hS
  clear eH
  obtain ⟨locs, el⟩ : ∃ z : List Loc, z = [] := ⟨_, rfl⟩
  rw [← el] at hS ⊢
  clear el
  refine lv_iload_n hx hb dX12_count_0 rfl (lv_at hl 1 rfl) ?_
  by_cases c1 : x1 = 0
  · have h := it_t h c1
    refine lv_tableIn (tgt := 44) hx hb dX12_count_1 (by rw [c1]; decide) (by rw [c1]; decide) (by rw [c1] <;> rfl) (by decide) ?_
    refine lv_aload_n hx hb dX12_count_44 rfl (lv_at hl 0 rfl) ?_
    refine va_get (D := E.1) (ci := 11) (v := .ref (q0 1)) (C := RX12) (T := TX12) (N := 57) hx hb hg in_X12 hown X.1 hP 0 rfl rfl 0 (by decide) (hg _ wf_X12_7) (fun _ h9 => h9) rfl dX12_count_45 ?_
    refine lv_bipush (v := 80) hx hb dX12_count_48 (by decide) ?_
    obtain ⟨hi, v2, ev2, h⟩ := rd_el h
    refine va_iald hx hb X.1 hP 1 0 rfl rfl hi dX12_count_50 ?_
    refine lv_top' ev2 ?_
    exact RT v2 _ _ _ _ h rfl hP hD hS dX12_count_51
  · have h := it_f h c1
    by_cases c3 : x1 = 1
    · have h := it_t h c3
      refine lv_tableIn (tgt := 52) hx hb dX12_count_1 (by rw [c3]; decide) (by rw [c3]; decide) (by rw [c3] <;> rfl) (by decide) ?_
      refine lv_aload_n hx hb dX12_count_52 rfl (lv_at hl 0 rfl) ?_
      refine va_get (D := E.1) (ci := 11) (v := .int (S0.1 5)) (C := RX12) (T := TX12) (N := 57) hx hb hg in_X12 hown X.1 hP 0 rfl rfl 5 (by decide) (hg _ wf_X12_114) (fun _ h9 => h9) rfl dX12_count_53 ?_
      exact RT (S0.1 5) _ _ _ _ h rfl hP hD hS dX12_count_56
    · have h := it_f h c3
      by_cases c4 : x1 = 2
      · have h := it_t h c4
        refine lv_tableIn (tgt := 57) hx hb dX12_count_1 (by rw [c4]; decide) (by rw [c4]; decide) (by rw [c4] <;> rfl) (by decide) ?_
        refine lv_aload_n hx hb dX12_count_57 rfl (lv_at hl 0 rfl) ?_
        refine va_get (D := E.1) (ci := 11) (v := .int (S0.1 6)) (C := RX12) (T := TX12) (N := 57) hx hb hg in_X12 hown X.1 hP 0 rfl rfl 6 (by decide) (hg _ wf_X12_122) (fun _ h9 => h9) rfl dX12_count_58 ?_
        exact RT (S0.1 6) _ _ _ _ h rfl hP hD hS dX12_count_61
      · have h := it_f h c4
        by_cases c5 : x1 = 3
        · have h := it_t h c5
          refine lv_tableIn (tgt := 62) hx hb dX12_count_1 (by rw [c5]; decide) (by rw [c5]; decide) (by rw [c5] <;> rfl) (by decide) ?_
          refine lv_aload_n hx hb dX12_count_62 rfl (lv_at hl 0 rfl) ?_
          refine va_get (D := E.1) (ci := 11) (v := .int (S0.1 17)) (C := RX12) (T := TX12) (N := 57) hx hb hg in_X12 hown X.1 hP 0 rfl rfl 17 (by decide) (hg _ wf_X12_242) (fun _ h9 => h9) rfl dX12_count_63 ?_
          exact RT (S0.1 17) _ _ _ _ h rfl hP hD hS dX12_count_66
        · have h := it_f h c5
          by_cases c6 : x1 = 4
          · have h := it_t h c6
            refine lv_tableIn (tgt := 67) hx hb dX12_count_1 (by rw [c6]; decide) (by rw [c6]; decide) (by rw [c6] <;> rfl) (by decide) ?_
            refine lv_aload_n hx hb dX12_count_67 rfl (lv_at hl 0 rfl) ?_
            refine va_get (D := E.1) (ci := 11) (v := .int (S0.1 8)) (C := RX12) (T := TX12) (N := 57) hx hb hg in_X12 hown X.1 hP 0 rfl rfl 8 (by decide) (hg _ wf_X12_143) (fun _ h9 => h9) rfl dX12_count_68 ?_
            exact RT (S0.1 8) _ _ _ _ h rfl hP hD hS dX12_count_71
          · have h := it_f h c6
            by_cases c7 : x1 = 5
            · have h := it_t h c7
              refine lv_tableIn (tgt := 72) hx hb dX12_count_1 (by rw [c7]; decide) (by rw [c7]; decide) (by rw [c7] <;> rfl) (by decide) ?_
              refine lv_aload_n hx hb dX12_count_72 rfl (lv_at hl 0 rfl) ?_
              refine va_get (D := E.1) (ci := 11) (v := .ref (q0 1)) (C := RX12) (T := TX12) (N := 57) hx hb hg in_X12 hown X.1 hP 0 rfl rfl 0 (by decide) (hg _ wf_X12_7) (fun _ h9 => h9) rfl dX12_count_73 ?_
              refine lv_bipush (v := 81) hx hb dX12_count_76 (by decide) ?_
              obtain ⟨hi, v8, ev8, h⟩ := rd_el h
              refine va_iald hx hb X.1 hP 1 0 rfl rfl hi dX12_count_78 ?_
              refine lv_top' ev8 ?_
              exact RT v8 _ _ _ _ h rfl hP hD hS dX12_count_79
            · have h := it_f h c7
              by_cases c9 : x1 = 6
              · have h := it_t h c9
                refine lv_tableIn (tgt := 80) hx hb dX12_count_1 (by rw [c9]; decide) (by rw [c9]; decide) (by rw [c9] <;> rfl) (by decide) ?_
                refine lv_aload_n hx hb dX12_count_80 rfl (lv_at hl 0 rfl) ?_
                obtain ⟨u10, hc, h⟩ := bd_el h
                refine ct_iA (w1 := cw_X12 E q0 S0) X hP hD hS (va_runV (C := RX12) (As := []) (rest := []) ⟨hx, hb, hml, hown, hg⟩ (c_X12_tensionsOfAll l E q0 H.size S0 u10 hc) (cwV 0 hg (gwV wm_X12_430 wi_X12_tensionsOfAll wsl_X12_tensionsOfAll wini_X12 wco_X12_tensionsOfAll) rfl rfl rfl (by decide +kernel) ⟨Nat.le_of_ble_eq_true rfl, Nat.le_of_ble_eq_true rfl⟩) ⟨ct_blind, ct_rv X.1 hP 0 rfl rfl, ct_preA X hP hD hS _⟩ rfl rfl hl.1 rfl (lv_room (Nat.le_of_ble_eq_true rfl)) dX12_count_81 ⟨Nat.zero_le _, Nat.zero_le _⟩) (fun H locs hP hD hS => ?_)
                exact RT u10 _ _ _ _ h rfl hP hD hS dX12_count_84
              · have h := it_f h c9
                have ho : (x1).toInt < 0 ∨ 6 < (x1).toInt := by
                  by_cases h1 : (x1).toInt < 0
                  · exact Or.inl h1
                  by_cases h2 : 6 < (x1).toInt
                  · exact Or.inr h2
                  have h3 : (x1).toInt = 0 ∨ (x1).toInt = 1 ∨ (x1).toInt = 2 ∨ (x1).toInt = 3 ∨ (x1).toInt = 4 ∨ (x1).toInt = 5 ∨ (x1).toInt = 6 := by omega
                  rcases h3 with h3 | h3 | h3 | h3 | h3 | h3 | h3
                  · exact absurd (Int32.toInt_inj.mp (h3.trans (by decide))) c1
                  · exact absurd (Int32.toInt_inj.mp (h3.trans (by decide))) c3
                  · exact absurd (Int32.toInt_inj.mp (h3.trans (by decide))) c4
                  · exact absurd (Int32.toInt_inj.mp (h3.trans (by decide))) c5
                  · exact absurd (Int32.toInt_inj.mp (h3.trans (by decide))) c6
                  · exact absurd (Int32.toInt_inj.mp (h3.trans (by decide))) c7
                  · exact absurd (Int32.toInt_inj.mp (h3.trans (by decide))) c9
                refine lv_tableOut (tgt := 85) hx hb dX12_count_1 ho (by decide) ?_
                refine lv_iconst (v := (-1)) hx hb dX12_count_85 (by decide) ?_
                exact RT (-1) _ _ _ _ h rfl hP hD hS dX12_count_86
