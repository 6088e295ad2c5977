theorem dX12_bits_0 : decode cX12_bits 0 = .ok (.iconst 0, 1) := by decide +kernel
theorem dX12_bits_1 : decode cX12_bits 1 = .ok (.istore_n 1, 1) := by decide +kernel
theorem dX12_bits_2 : decode cX12_bits 2 = .ok (.iconst 0, 1) := by decide +kernel
theorem dX12_bits_3 : decode cX12_bits 3 = .ok (.istore_n 2, 1) := by decide +kernel
theorem dX12_bits_4 : decode cX12_bits 4 = .ok (.iload_n 2, 1) := by decide +kernel
theorem dX12_bits_5 : decode cX12_bits 5 = .ok (.bipush 8, 2) := by decide +kernel
theorem dX12_bits_7 : decode cX12_bits 7 = .ok (.if_icmp .ge 17, 3) := by decide +kernel
theorem dX12_bits_10 : decode cX12_bits 10 = .ok (.iload_n 1, 1) := by decide +kernel
theorem dX12_bits_11 : decode cX12_bits 11 = .ok (.iload_n 0, 1) := by decide +kernel
theorem dX12_bits_12 : decode cX12_bits 12 = .ok (.iload_n 2, 1) := by decide +kernel
theorem dX12_bits_13 : decode cX12_bits 13 = .ok (.ishr, 1) := by decide +kernel
theorem dX12_bits_14 : decode cX12_bits 14 = .ok (.iconst 1, 1) := by decide +kernel
theorem dX12_bits_15 : decode cX12_bits 15 = .ok (.iand, 1) := by decide +kernel
theorem dX12_bits_16 : decode cX12_bits 16 = .ok (.iadd, 1) := by decide +kernel
theorem dX12_bits_17 : decode cX12_bits 17 = .ok (.istore_n 1, 1) := by decide +kernel
theorem dX12_bits_18 : decode cX12_bits 18 = .ok (.iinc 2 1, 3) := by decide +kernel
theorem dX12_bits_21 : decode cX12_bits 21 = .ok (.goto (-17), 3) := by decide +kernel
theorem dX12_bits_24 : decode cX12_bits 24 = .ok (.iload_n 1, 1) := by decide +kernel
theorem dX12_bits_25 : decode cX12_bits 25 = .ok (.ireturn, 1) := by decide +kernel
def f_X12_bits_n4 (x0 : Int32) : Nat → Int32 → Int32 → Option (Int32)
  | 0, _, _ => none
  | n + 1, x1, x2 => if 8 ≤ x2 then (some x1) else (lt' ((x1 + ((x0 >>> (x2 &&& 31)) &&& 1))) fun v2 => lt' (x2 + 1) fun v3 => f_X12_bits_n4 x0 n v2 v3)
def f_X12_bits (x0 : Int32) : Option (Int32) := f_X12_bits_n4 x0 fu 0 0
set_option maxHeartbeats 4000000 in
set_option maxRecDepth 100000 in
theorem c_X12_bits (l : Launch) (E : Ec) (sz : Nat) (x0 : Int32) (Rv : Int32) (h : f_X12_bits x0 = some Rv) : Met l yX12_bits (wsM (.code yX12_bits cX12_bits 3 (some .int))) ({ frames := 0, cells := 0, slots := 0, locals := 0 } : Room) (va_Pc [.int x0] (ctP E ([]) sz)) (ctI E ([]) ([]) sz Rv) 0 0 (va_A ([]) sz) := by
  refine ct_metI (by decide) (Nat.le_of_ble_eq_true rfl) ?_
  intro p e s m ar below meth c A QM hx hb hml hown hg X hP hD hS RET ls hl
  have hown : s.vm.findClass RX12 = some m.cls := hown
  have hl : lv_has ls 3 [(0, .int x0)] := hl
  have RT : ∀ (v : Int32) (H : Heap) (locs : List Loc) (ls : Array Slot) (pc : Nat), some v = some Rv → narrow .int (.int v) = .int v → va_P E.1 vwCl ([]) H → va_D A ([]) → va_S A s.heap H locs → decode cX12_bits pc = .ok (.ireturn, 1) → W p l e ({ frames := 0, cells := 0, slots := 0, locals := 0 } : Room) s m ar below meth c H locs 0 0 QM (F0 m pc ls [.int v]) := by
    intro v H locs ls pc e hn hP hD hS d
    obtain rfl := sm_e e
    exact RET H locs pc ls hn hP hD hS d
  clear RET
  have N4 : ∀ (n : Nat) (x1 : Int32) (x2 : Int32) (H : Heap) (locs : List Loc) (ls : Array Slot), f_X12_bits_n4 x0 n x1 x2 = some Rv → va_P E.1 vwCl ([]) H → va_D A ([]) → va_S A s.heap H locs → lv_has ls 3 [(0, .int x0), (1, .int x1), (2, .int x2)] → W p l e ({ frames := 0, cells := 0, slots := 0, locals := 0 } : Room) s m ar below meth c H locs 0 0 QM (F0 m 4 ls []) := by
    intro n
    induction n with
    | zero => intro x1 x2 H locs ls h; exact nn_el h
    | succ n ih =>
      intro x1 x2 H locs ls h hP hD hS hl
      refine lv_iload_n hx hb dX12_bits_4 rfl (lv_at hl 2 rfl) ?_
      refine lv_bipush (v := 8) hx hb dX12_bits_5 (by decide) ?_
      refine lv_icmp_ge (tgt := 24) hx hb dX12_bits_7 (by decide) (fun c1 => ?_) (fun c1 => ?_)
      · have h := it_t h c1
        refine lv_iload_n hx hb dX12_bits_24 rfl (lv_at hl 1 rfl) ?_
        exact RT x1 _ _ _ _ h rfl hP hD hS dX12_bits_25
      · have h := it_f h c1
        refine lv_iload_n hx hb dX12_bits_10 rfl (lv_at hl 1 rfl) ?_
        refine lv_iload_n hx hb dX12_bits_11 rfl (lv_at hl 0 rfl) ?_
        refine lv_iload_n hx hb dX12_bits_12 rfl (lv_at hl 2 rfl) ?_
        refine lv_ishr hx hb dX12_bits_13 ?_
        refine lv_iconst (v := 1) hx hb dX12_bits_14 (by decide) ?_
        refine lv_iand hx hb dX12_bits_15 ?_
        refine lv_iadd hx hb dX12_bits_16 ?_
        obtain ⟨v2, ev2, h⟩ := lt_el h
        refine lv_top' ev2 ?_
        refine lv_istore_n (lv' := [(1, .int v2), (0, .int x0), (2, .int x2)]) hx hb dX12_bits_17 rfl hl (by decide) rfl (fun ls hl => ?_)
        obtain ⟨v3, ev3, h⟩ := lt_el h
        refine lv_iinc (v := v3) (lv' := [(2, .int v3), (1, .int v2), (0, .int x0)]) hx hb dX12_bits_18 hl (k := 2) rfl (by rw [ev3]; rfl) (by decide) rfl (fun ls hl => ?_)
        refine lv_goto (tgt := 4) hx hb dX12_bits_21 (by decide) ?_
        exact ih v2 v3 _ _ _ h hP hD hS (lv_sub hl [2, 1, 0] rfl)
  obtain ⟨H, eH⟩ : ∃ z, z = s.heap := ⟨_, rfl⟩
  rw [← eH]
  have hP : va_P E.1 vwCl ([]) H := by rw [eH]; exact hP
  have hS : va_S A s.heap H [] := by rw [eH]; exact hS
  clear eH
  obtain ⟨locs, el⟩ : ∃ z : List Loc, z = [] := ⟨_, rfl⟩
  rw [← el] at hS ⊢
  clear el
  refine lv_iconst (v := 0) hx hb dX12_bits_0 (by decide) ?_
  refine lv_istore_n (lv' := [(1, .int 0), (0, .int x0)]) hx hb dX12_bits_1 rfl hl (by decide) rfl (fun ls hl => ?_)
  refine lv_iconst (v := 0) hx hb dX12_bits_2 (by decide) ?_
  refine lv_istore_n (lv' := [(2, .int 0), (1, .int 0), (0, .int x0)]) hx hb dX12_bits_3 rfl hl (by decide) rfl (fun ls hl => ?_)
  exact N4 fu 0 0 _ _ _ h hP hD hS (lv_sub hl [2, 1, 0] rfl)
theorem dX12_max_0 : decode cX12_max 0 = .ok (.iload_n 0, 1) := by decide +kernel
theorem dX12_max_1 : decode cX12_max 1 = .ok (.iload_n 1, 1) := by decide +kernel
theorem dX12_max_2 : decode cX12_max 2 = .ok (.if_icmp .le 7, 3) := by decide +kernel
theorem dX12_max_5 : decode cX12_max 5 = .ok (.iload_n 0, 1) := by decide +kernel
theorem dX12_max_6 : decode cX12_max 6 = .ok (.goto 4, 3) := by decide +kernel
theorem dX12_max_9 : decode cX12_max 9 = .ok (.iload_n 1, 1) := by decide +kernel
theorem dX12_max_10 : decode cX12_max 10 = .ok (.ireturn, 1) := by decide +kernel
def f_X12_max (x0 : Int32) (x1 : Int32) : Option (Int32) := if x0 ≤ x1 then (some x1) else (some x0)
set_option maxHeartbeats 4000000 in
set_option maxRecDepth 100000 in
theorem c_X12_max (l : Launch) (E : Ec) (sz : Nat) (x0 : Int32) (x1 : Int32) (Rv : Int32) (h : f_X12_max x0 x1 = some Rv) : Met l yX12_max (wsM (.code yX12_max cX12_max 2 (some .int))) ({ frames := 0, cells := 0, slots := 0, locals := 0 } : Room) (va_Pc [.int x0, .int x1] (ctP E ([]) sz)) (ctI E ([]) ([]) sz Rv) 0 0 (va_A ([]) sz) := by
  refine ct_metI (by decide) (Nat.le_of_ble_eq_true rfl) ?_
  intro p e s m ar below meth c A QM hx hb hml hown hg X hP hD hS RET ls hl
  have hown : s.vm.findClass RX12 = some m.cls := hown
  have hl : lv_has ls 2 [(0, .int x0), (1, .int x1)] := hl
  have RT : ∀ (v : Int32) (H : Heap) (locs : List Loc) (ls : Array Slot) (pc : Nat), some v = some Rv → narrow .int (.int v) = .int v → va_P E.1 vwCl ([]) H → va_D A ([]) → va_S A s.heap H locs → decode cX12_max pc = .ok (.ireturn, 1) → W p l e ({ frames := 0, cells := 0, slots := 0, locals := 0 } : Room) s m ar below meth c H locs 0 0 QM (F0 m pc ls [.int v]) := by
    intro v H locs ls pc e hn hP hD hS d
    obtain rfl := sm_e e
    exact RET H locs pc ls hn hP hD hS d
  clear RET
  obtain ⟨H, eH⟩ : ∃ z, z = s.heap := ⟨_, rfl⟩
  rw [← eH]
  have hP : va_P E.1 vwCl ([]) H := by rw [eH]; exact hP
  have hS : va_S A s.heap H [] := by rw [eH]; exact hS
  clear eH
  obtain ⟨locs, el⟩ : ∃ z : List Loc, z = [] := ⟨_, rfl⟩
  rw [← el] at hS ⊢
  clear el
  refine lv_iload_n hx hb dX12_max_0 rfl (lv_at hl 0 rfl) ?_
  refine lv_iload_n hx hb dX12_max_1 rfl (lv_at hl 1 rfl) ?_
  refine lv_icmp_le (tgt := 9) hx hb dX12_max_2 (by decide) (fun c1 => ?_) (fun c1 => ?_)
  · have h := it_t h c1
    refine lv_iload_n hx hb dX12_max_9 rfl (lv_at hl 1 rfl) ?_
    exact RT x1 _ _ _ _ h rfl hP hD hS dX12_max_10
  · have h := it_f h c1
    refine lv_iload_n hx hb dX12_max_5 rfl (lv_at hl 0 rfl) ?_
    refine lv_goto (tgt := 10) hx hb dX12_max_6 (by decide) ?_
    exact RT x0 _ _ _ _ h rfl hP hD hS dX12_max_10
theorem dX12_size_0 : decode cX12_size 0 = .ok (.iload_n 0, 1) := by decide +kernel
theorem dX12_size_1 : decode cX12_size 1 = .ok (.ifCond .ge 8, 3) := by decide +kernel
theorem dX12_size_4 : decode cX12_size 4 = .ok (.iload_n 0, 1) := by decide +kernel
theorem dX12_size_5 : decode cX12_size 5 = .ok (.ineg, 1) := by decide +kernel
theorem dX12_size_6 : decode cX12_size 6 = .ok (.goto 4, 3) := by decide +kernel
theorem dX12_size_9 : decode cX12_size 9 = .ok (.iload_n 0, 1) := by decide +kernel
theorem dX12_size_10 : decode cX12_size 10 = .ok (.ireturn, 1) := by decide +kernel
def f_X12_size (x0 : Int32) : Option (Int32) := if 0 ≤ x0 then (some x0) else (some (-x0))
set_option maxHeartbeats 4000000 in
set_option maxRecDepth 100000 in
theorem c_X12_size (l : Launch) (E : Ec) (sz : Nat) (x0 : Int32) (Rv : Int32) (h : f_X12_size x0 = some Rv) : Met l yX12_size (wsM (.code yX12_size cX12_size 1 (some .int))) ({ frames := 0, cells := 0, slots := 0, locals := 0 } : Room) (va_Pc [.int x0] (ctP E ([]) sz)) (ctI E ([]) ([]) sz Rv) 0 0 (va_A ([]) sz) := by
  refine ct_metI (by decide) (Nat.le_of_ble_eq_true rfl) ?_
  intro p e s m ar below meth c A QM hx hb hml hown hg X hP hD hS RET ls hl
  have hown : s.vm.findClass RX12 = some m.cls := hown
  have hl : lv_has ls 1 [(0, .int x0)] := hl
  have RT : ∀ (v : Int32) (H : Heap) (locs : List Loc) (ls : Array Slot) (pc : Nat), some v = some Rv → narrow .int (.int v) = .int v → va_P E.1 vwCl ([]) H → va_D A ([]) → va_S A s.heap H locs → decode cX12_size pc = .ok (.ireturn, 1) → W p l e ({ frames := 0, cells := 0, slots := 0, locals := 0 } : Room) s m ar below meth c H locs 0 0 QM (F0 m pc ls [.int v]) := by
    intro v H locs ls pc e hn hP hD hS d
    obtain rfl := sm_e e
    exact RET H locs pc ls hn hP hD hS d
  clear RET
  obtain ⟨H, eH⟩ : ∃ z, z = s.heap := ⟨_, rfl⟩
  rw [← eH]
  have hP : va_P E.1 vwCl ([]) H := by rw [eH]; exact hP
  have hS : va_S A s.heap H [] := by rw [eH]; exact hS
  clear eH
  obtain ⟨locs, el⟩ : ∃ z : List Loc, z = [] := ⟨_, rfl⟩
  rw [← el] at hS ⊢
  clear el
  refine lv_iload_n hx hb dX12_size_0 rfl (lv_at hl 0 rfl) ?_
  refine lv_if_ge (tgt := 9) hx hb dX12_size_1 (by decide) (fun c1 => ?_) (fun c1 => ?_)
  · have h := it_t h c1
    refine lv_iload_n hx hb dX12_size_9 rfl (lv_at hl 0 rfl) ?_
    exact RT x0 _ _ _ _ h rfl hP hD hS dX12_size_10
  · have h := it_f h c1
    refine lv_iload_n hx hb dX12_size_4 rfl (lv_at hl 0 rfl) ?_
    refine lv_ineg hx hb dX12_size_5 ?_
    refine lv_goto (tgt := 10) hx hb dX12_size_6 (by decide) ?_
    exact RT (-x0) _ _ _ _ h rfl hP hD hS dX12_size_10
theorem dX12_distance_0 : decode cX12_distance 0 = .ok (.iload_n 0, 1) := by decide +kernel
theorem dX12_distance_1 : decode cX12_distance 1 = .ok (.bipush 24, 2) := by decide +kernel
theorem dX12_distance_3 : decode cX12_distance 3 = .ok (.irem, 1) := by decide +kernel
theorem dX12_distance_4 : decode cX12_distance 4 = .ok (.iload_n 1, 1) := by decide +kernel
theorem dX12_distance_5 : decode cX12_distance 5 = .ok (.bipush 24, 2) := by decide +kernel
theorem dX12_distance_7 : decode cX12_distance 7 = .ok (.irem, 1) := by decide +kernel
theorem dX12_distance_8 : decode cX12_distance 8 = .ok (.isub, 1) := by decide +kernel
theorem dX12_distance_9 : decode cX12_distance 9 = .ok (.invokestatic 125, 3) := by decide +kernel
theorem dX12_distance_12 : decode cX12_distance 12 = .ok (.iload_n 0, 1) := by decide +kernel
theorem dX12_distance_13 : decode cX12_distance 13 = .ok (.bipush 24, 2) := by decide +kernel
theorem dX12_distance_15 : decode cX12_distance 15 = .ok (.idiv, 1) := by decide +kernel
theorem dX12_distance_16 : decode cX12_distance 16 = .ok (.iload_n 1, 1) := by decide +kernel
theorem dX12_distance_17 : decode cX12_distance 17 = .ok (.bipush 24, 2) := by decide +kernel
theorem dX12_distance_19 : decode cX12_distance 19 = .ok (.idiv, 1) := by decide +kernel
theorem dX12_distance_20 : decode cX12_distance 20 = .ok (.isub, 1) := by decide +kernel
theorem dX12_distance_21 : decode cX12_distance 21 = .ok (.invokestatic 125, 3) := by decide +kernel
theorem dX12_distance_24 : decode cX12_distance 24 = .ok (.invokestatic 129, 3) := by decide +kernel
theorem dX12_distance_27 : decode cX12_distance 27 = .ok (.ireturn, 1) := by decide +kernel
def f_X12_distance (x0 : Int32) (x1 : Int32) : Option (Int32) := lt' (x0 - x0 / 24 * 24) fun v1 => lt' (x1 - x1 / 24 * 24) fun v2 => (f_X12_size (v1 - v2)).bind fun u3 => lt' (x0 / 24) fun v4 => lt' (x1 / 24) fun v5 => (f_X12_size (v4 - v5)).bind fun u6 => (f_X12_max u3 u6).bind fun u7 => some u7
set_option maxHeartbeats 4000000 in
set_option maxRecDepth 100000 in
theorem c_X12_distance (l : Launch) (E : Ec) (sz : Nat) (x0 : Int32) (x1 : Int32) (Rv : Int32) (h : f_X12_distance x0 x1 = some Rv) : Met l yX12_distance (wsM (.code yX12_distance cX12_distance 2 (some .int))) ({ frames := 1, cells := 0, slots := 0, locals := 21 } : Room) (va_Pc [.int x0, .int x1] (ctP E ([]) sz)) (ctI E ([]) ([]) sz Rv) 0 0 (va_A ([]) sz) := by
  refine ct_metI (by decide) (Nat.le_of_ble_eq_true rfl) ?_
  intro p e s m ar below meth c A QM hx hb hml hown hg X hP hD hS RET ls hl
  have hown : s.vm.findClass RX12 = some m.cls := hown
  have hl : lv_has ls 2 [(0, .int x0), (1, .int x1)] := hl
  have RT : ∀ (v : Int32) (H : Heap) (locs : List Loc) (ls : Array Slot) (pc : Nat), some v = some Rv → narrow .int (.int v) = .int v → va_P E.1 vwCl ([]) H → va_D A ([]) → va_S A s.heap H locs → decode cX12_distance pc = .ok (.ireturn, 1) → W p l e ({ frames := 1, cells := 0, slots := 0, locals := 21 } : Room) s m ar below meth c H locs 0 0 QM (F0 m pc ls [.int v]) := by
    intro v H locs ls pc e hn hP hD hS d
    obtain rfl := sm_e e
    exact RET H locs pc ls hn hP hD hS d
  clear RET
  obtain ⟨H, eH⟩ : ∃ z, z = s.heap := ⟨_, rfl⟩
  rw [← eH]
  have hP : va_P E.1 vwCl ([]) H := by rw [eH]; exact hP
  have hS : va_S A s.heap H [] := by rw [eH]; exact hS
  clear eH
  obtain ⟨locs, el⟩ : ∃ z : List Loc, z = [] := ⟨_, rfl⟩
  rw [← el] at hS ⊢
  clear el
  refine lv_iload_n hx hb dX12_distance_0 rfl (lv_at hl 0 rfl) ?_
  refine lv_bipush (v := 24) hx hb dX12_distance_1 (by decide) ?_
  refine lv_irem hx hb dX12_distance_3 (by decide) ?_
  obtain ⟨v1, ev1, h⟩ := lt_el h
  refine lv_top' ev1 ?_
  refine lv_iload_n hx hb dX12_distance_4 rfl (lv_at hl 1 rfl) ?_
  refine lv_bipush (v := 24) hx hb dX12_distance_5 (by decide) ?_
  refine lv_irem hx hb dX12_distance_7 (by decide) ?_
  obtain ⟨v2, ev2, h⟩ := lt_el h
  refine lv_top' ev2 ?_
  refine lv_isub hx hb dX12_distance_8 ?_
  obtain ⟨u3, hc, h⟩ := bd_el h
  refine ct_iN X hP hD hS (va_runS (As := [.int (v1 - v2)]) (rest := []) ⟨hx, hb, hml, hown, hg⟩ (c_X12_size l E  H.size (v1 - v2) u3 hc) (va_cwS 1 hg (gwS wm_X12_125 wst_X12_size wini_X12 wco_X12_size) rfl rfl rfl (by decide +kernel) ⟨Nat.le_of_ble_eq_true rfl, Nat.le_of_ble_eq_true rfl⟩) ⟨ct_blind, ct_preN X hS _⟩ rfl rfl hl.1 rfl (lv_room (Nat.le_of_ble_eq_true rfl)) dX12_distance_9 ⟨Nat.zero_le _, Nat.zero_le _⟩) (fun H locs hP hD hS => ?_)
  refine lv_iload_n hx hb dX12_distance_12 rfl (lv_at hl 0 rfl) ?_
  refine lv_bipush (v := 24) hx hb dX12_distance_13 (by decide) ?_
  refine lv_idiv hx hb dX12_distance_15 (by decide) ?_
  obtain ⟨v4, ev4, h⟩ := lt_el h
  refine lv_top' ev4 ?_
  refine lv_iload_n hx hb dX12_distance_16 rfl (lv_at hl 1 rfl) ?_
  refine lv_bipush (v := 24) hx hb dX12_distance_17 (by decide) ?_
  refine lv_idiv hx hb dX12_distance_19 (by decide) ?_
  obtain ⟨v5, ev5, h⟩ := lt_el h
  refine lv_top' ev5 ?_
  refine lv_isub hx hb dX12_distance_20 ?_
  obtain ⟨u6, hc, h⟩ := bd_el h
  refine ct_iN X hP hD hS (va_runS (As := [.int (v4 - v5)]) (rest := [.int u3]) ⟨hx, hb, hml, hown, hg⟩ (c_X12_size l E  H.size (v4 - v5) u6 hc) (va_cwS 1 hg (gwS wm_X12_125 wst_X12_size wini_X12 wco_X12_size) rfl rfl rfl (by decide +kernel) ⟨Nat.le_of_ble_eq_true rfl, Nat.le_of_ble_eq_true rfl⟩) ⟨ct_blind, ct_preN X hS _⟩ rfl rfl hl.1 rfl (lv_room (Nat.le_of_ble_eq_true rfl)) dX12_distance_21 ⟨Nat.zero_le _, Nat.zero_le _⟩) (fun H locs hP hD hS => ?_)
  obtain ⟨u7, hc, h⟩ := bd_el h
  refine ct_iN X hP hD hS (va_runS (As := [.int u3, .int u6]) (rest := []) ⟨hx, hb, hml, hown, hg⟩ (c_X12_max l E  H.size u3 u6 u7 hc) (va_cwS 2 hg (gwS wm_X12_129 wst_X12_max wini_X12 wco_X12_max) rfl rfl rfl (by decide +kernel) ⟨Nat.le_of_ble_eq_true rfl, Nat.le_of_ble_eq_true rfl⟩) ⟨ct_blind, ct_preN X hS _⟩ rfl rfl hl.1 rfl (lv_room (Nat.le_of_ble_eq_true rfl)) dX12_distance_24 ⟨Nat.zero_le _, Nat.zero_le _⟩) (fun H locs hP hD hS => ?_)
  exact RT u7 _ _ _ _ h rfl hP hD hS dX12_distance_27
theorem dX12_has_0 : decode cX12_has 0 = .ok (.iload_n 0, 1) := by decide +kernel
theorem dX12_has_1 : decode cX12_has 1 = .ok (.iload_n 1, 1) := by decide +kernel
theorem dX12_has_2 : decode cX12_has 2 = .ok (.ishr, 1) := by decide +kernel
theorem dX12_has_3 : decode cX12_has 3 = .ok (.iconst 1, 1) := by decide +kernel
theorem dX12_has_4 : decode cX12_has 4 = .ok (.iand, 1) := by decide +kernel
theorem dX12_has_5 : decode cX12_has 5 = .ok (.iconst 1, 1) := by decide +kernel
theorem dX12_has_6 : decode cX12_has 6 = .ok (.if_icmp .ne 7, 3) := by decide +kernel
theorem dX12_has_9 : decode cX12_has 9 = .ok (.iconst 1, 1) := by decide +kernel
theorem dX12_has_10 : decode cX12_has 10 = .ok (.goto 4, 3) := by decide +kernel
theorem dX12_has_13 : decode cX12_has 13 = .ok (.iconst 0, 1) := by decide +kernel
theorem dX12_has_14 : decode cX12_has 14 = .ok (.ireturn, 1) := by decide +kernel
def f_X12_has (x0 : Int32) (x1 : Int32) : Option (Int32) := if ((x0 >>> (x1 &&& 31)) &&& 1) = 1 then (some 1) else (some 0)
set_option maxHeartbeats 4000000 in
set_option maxRecDepth 100000 in
theorem c_X12_has (l : Launch) (E : Ec) (sz : Nat) (x0 : Int32) (x1 : Int32) (Rv : Int32) (h : f_X12_has x0 x1 = some Rv) : Met l yX12_has (wsM (.code yX12_has cX12_has 2 (some .boolean))) ({ frames := 0, cells := 0, slots := 0, locals := 0 } : Room) (va_Pc [.int x0, .int x1] (ctP E ([]) sz)) (ctI E ([]) ([]) sz Rv) 0 0 (va_A ([]) sz) := by
  refine ct_metI (by decide) (Nat.le_of_ble_eq_true rfl) ?_
  intro p e s m ar below meth c A QM hx hb hml hown hg X hP hD hS RET ls hl
  have hown : s.vm.findClass RX12 = some m.cls := hown
  have hl : lv_has ls 2 [(0, .int x0), (1, .int x1)] := hl
  have RT : ∀ (v : Int32) (H : Heap) (locs : List Loc) (ls : Array Slot) (pc : Nat), some v = some Rv → narrow .boolean (.int v) = .int v → va_P E.1 vwCl ([]) H → va_D A ([]) → va_S A s.heap H locs → decode cX12_has pc = .ok (.ireturn, 1) → W p l e ({ frames := 0, cells := 0, slots := 0, locals := 0 } : Room) s m ar below meth c H locs 0 0 QM (F0 m pc ls [.int v]) := by
    intro v H locs ls pc e hn hP hD hS d
    obtain rfl := sm_e e
    exact RET H locs pc ls hn hP hD hS d
  clear RET
  obtain ⟨H, eH⟩ : ∃ z, z = s.heap := ⟨_, rfl⟩
  rw [← eH]
  have hP : va_P E.1 vwCl ([]) H := by rw [eH]; exact hP
  have hS : va_S A s.heap H [] := by rw [eH]; exact hS
  clear eH
  obtain ⟨locs, el⟩ : ∃ z : List Loc, z = [] := ⟨_, rfl⟩
  rw [← el] at hS ⊢
  clear el
  refine lv_iload_n hx hb dX12_has_0 rfl (lv_at hl 0 rfl) ?_
  refine lv_iload_n hx hb dX12_has_1 rfl (lv_at hl 1 rfl) ?_
  refine lv_ishr hx hb dX12_has_2 ?_
  refine lv_iconst (v := 1) hx hb dX12_has_3 (by decide) ?_
  refine lv_iand hx hb dX12_has_4 ?_
  refine lv_iconst (v := 1) hx hb dX12_has_5 (by decide) ?_
  refine lv_icmp_ne (tgt := 13) hx hb dX12_has_6 (by decide) (fun c1 => ?_) (fun c1 => ?_)
  · have h := it_f h c1
    refine lv_iconst (v := 0) hx hb dX12_has_13 (by decide) ?_
    exact RT 0 _ _ _ _ h (by decide +kernel) hP hD hS dX12_has_14
  · have h := it_t h c1
    refine lv_iconst (v := 1) hx hb dX12_has_9 (by decide) ?_
    refine lv_goto (tgt := 14) hx hb dX12_has_10 (by decide) ?_
    exact RT 1 _ _ _ _ h (by decide +kernel) hP hD hS dX12_has_14
theorem dX12_isFelt_0 : decode cX12_isFelt 0 = .ok (.iconst 0, 1) := by decide +kernel
theorem dX12_isFelt_1 : decode cX12_isFelt 1 = .ok (.istore 4, 2) := by decide +kernel
theorem dX12_isFelt_3 : decode cX12_isFelt 3 = .ok (.iload 4, 2) := by decide +kernel
theorem dX12_isFelt_5 : decode cX12_isFelt 5 = .ok (.bipush 8, 2) := by decide +kernel
theorem dX12_isFelt_7 : decode cX12_isFelt 7 = .ok (.if_icmp .ge 35, 3) := by decide +kernel
theorem dX12_isFelt_10 : decode cX12_isFelt 10 = .ok (.iload_n 1, 1) := by decide +kernel
theorem dX12_isFelt_11 : decode cX12_isFelt 11 = .ok (.iload 4, 2) := by decide +kernel
theorem dX12_isFelt_13 : decode cX12_isFelt 13 = .ok (.invokestatic 118, 3) := by decide +kernel
theorem dX12_isFelt_16 : decode cX12_isFelt 16 = .ok (.ifCond .eq 20, 3) := by decide +kernel
theorem dX12_isFelt_19 : decode cX12_isFelt 19 = .ok (.aload_n 0, 1) := by decide +kernel
theorem dX12_isFelt_20 : decode cX12_isFelt 20 = .ok (.getfield 19, 3) := by decide +kernel
theorem dX12_isFelt_23 : decode cX12_isFelt 23 = .ok (.iload 4, 2) := by decide +kernel
theorem dX12_isFelt_25 : decode cX12_isFelt 25 = .ok (.iaload, 1) := by decide +kernel
theorem dX12_isFelt_26 : decode cX12_isFelt 26 = .ok (.iload_n 2, 1) := by decide +kernel
theorem dX12_isFelt_27 : decode cX12_isFelt 27 = .ok (.invokestatic 294, 3) := by decide +kernel
theorem dX12_isFelt_30 : decode cX12_isFelt 30 = .ok (.iload_n 3, 1) := by decide +kernel
theorem dX12_isFelt_31 : decode cX12_isFelt 31 = .ok (.if_icmp .gt 5, 3) := by decide +kernel
theorem dX12_isFelt_34 : decode cX12_isFelt 34 = .ok (.iconst 1, 1) := by decide +kernel
theorem dX12_isFelt_35 : decode cX12_isFelt 35 = .ok (.ireturn, 1) := by decide +kernel
theorem dX12_isFelt_36 : decode cX12_isFelt 36 = .ok (.iinc 4 1, 3) := by decide +kernel
theorem dX12_isFelt_39 : decode cX12_isFelt 39 = .ok (.goto (-36), 3) := by decide +kernel
theorem dX12_isFelt_42 : decode cX12_isFelt 42 = .ok (.iconst 0, 1) := by decide +kernel
theorem dX12_isFelt_43 : decode cX12_isFelt 43 = .ok (.ireturn, 1) := by decide +kernel
def f_X12_isFelt_n3 (S0 : Gr) (x1 : Int32) (x2 : Int32) (x3 : Int32) : Nat → Int32 → Option (Int32)
  | 0, _ => none
  | n + 1, x4 => if 8 ≤ x4 then (some 0) else ((f_X12_has x1 x4).bind fun u2 => if u2 = 0 then (lt' (x4 + 1) fun v4 => f_X12_isFelt_n3 S0 x1 x2 x3 n v4) else (rd' (S0.2 3) 8 x4 fun v5 => (f_X12_distance v5 x2).bind fun u6 => if x3 < u6 then (lt' (x4 + 1) fun v8 => f_X12_isFelt_n3 S0 x1 x2 x3 n v8) else (some 1)))
def f_X12_isFelt (S0 : Gr) (x1 : Int32) (x2 : Int32) (x3 : Int32) : Option (Int32) := f_X12_isFelt_n3 S0 x1 x2 x3 fu 0
set_option maxHeartbeats 4000000 in
set_option maxRecDepth 100000 in
theorem c_X12_isFelt (l : Launch) (E : Ec) (q0 : Nat → Nat) (sz : Nat) (S0 : Gr) (x1 : Int32) (x2 : Int32) (x3 : Int32) (Rv : Int32) (h : f_X12_isFelt S0 x1 x2 x3 = some Rv) : Met l yX12_isFelt (wsM (.code yX12_isFelt cX12_isFelt 5 (some .boolean))) ({ frames := 2, cells := 0, slots := 0, locals := 42 } : Room) (va_Pc [.ref (q0 0), .int x1, .int x2, .int x3] (ctP E (cw_X12 E q0 S0) sz)) (ctI E (cw_X12 E q0 S0) (cw_X12 E q0 S0) sz Rv) 0 0 (va_A (cw_X12 E q0 S0) sz) := by
  refine ct_metI (by decide) (Nat.le_of_ble_eq_true rfl) ?_
  intro p e s m ar below meth c A QM hx hb hml hown hg X hP hD hS RET ls hl
  have hown : s.vm.findClass RX12 = some m.cls := hown
  have hl : lv_has ls 5 [(0, .ref (q0 0)), (1, .int x1), (2, .int x2), (3, .int x3)] := hl
  have RT : ∀ (v : Int32) (H : Heap) (locs : List Loc) (ls : Array Slot) (pc : Nat), some v = some Rv → narrow .boolean (.int v) = .int v → va_P E.1 vwCl (cw_X12 E q0 S0) H → va_D A (cw_X12 E q0 S0) → va_S A s.heap H locs → decode cX12_isFelt pc = .ok (.ireturn, 1) → W p l e ({ frames := 2, cells := 0, slots := 0, locals := 42 } : Room) s m ar below meth c H locs 0 0 QM (F0 m pc ls [.int v]) := by
    intro v H locs ls pc e hn hP hD hS d
    obtain rfl := sm_e e
    exact RET H locs pc ls hn hP hD hS d
  clear RET
  have N3 : ∀ (n : Nat) (x4 : Int32) (H : Heap) (locs : List Loc) (ls : Array Slot), f_X12_isFelt_n3 S0 x1 x2 x3 n x4 = some Rv → va_P E.1 vwCl (cw_X12 E q0 S0) H → va_D A (cw_X12 E q0 S0) → va_S A s.heap H locs → lv_has ls 5 [(0, .ref (q0 0)), (1, .int x1), (2, .int x2), (3, .int x3), (4, .int x4)] → W p l e ({ frames := 2, cells := 0, slots := 0, locals := 42 } : Room) s m ar below meth c H locs 0 0 QM (F0 m 3 ls []) := by
    intro n
    induction n with
    | zero => intro x4 H locs ls h; exact nn_el h
    | succ n ih =>
      intro x4 H locs ls h hP hD hS hl
      refine lv_iload hx hb dX12_isFelt_3 (lv_at hl 4 rfl) ?_
      refine lv_bipush (v := 8) hx hb dX12_isFelt_5 (by decide) ?_
      refine lv_icmp_ge (tgt := 42) hx hb dX12_isFelt_7 (by decide) (fun c1 => ?_) (fun c1 => ?_)
      · have h := it_t h c1
        refine lv_iconst (v := 0) hx hb dX12_isFelt_42 (by decide) ?_
        exact RT 0 _ _ _ _ h (by decide +kernel) hP hD hS dX12_isFelt_43
      · have h := it_f h c1
        refine lv_iload_n hx hb dX12_isFelt_10 rfl (lv_at hl 1 rfl) ?_
        refine lv_iload hx hb dX12_isFelt_11 (lv_at hl 4 rfl) ?_
        obtain ⟨u2, hc, h⟩ := bd_el h
        refine ct_iN X hP hD hS (va_runS (As := [.int x1, .int x4]) (rest := []) ⟨hx, hb, hml, hown, hg⟩ (c_X12_has l E  H.size x1 x4 u2 hc) (va_cwS 2 hg (gwS wm_X12_118 wst_X12_has wini_X12 wco_X12_has) rfl rfl rfl (by decide +kernel) ⟨Nat.le_of_ble_eq_true rfl, Nat.le_of_ble_eq_true rfl⟩) ⟨ct_blind, ct_preN X hS _⟩ rfl rfl hl.1 rfl (lv_room (Nat.le_of_ble_eq_true rfl)) dX12_isFelt_13 ⟨Nat.zero_le _, Nat.zero_le _⟩) (fun H locs hP hD hS => ?_)
        refine lv_if_eq (tgt := 36) hx hb dX12_isFelt_16 (by decide) (fun c3 => ?_) (fun c3 => ?_)
        · have h := it_t h c3
          obtain ⟨v4, ev4, h⟩ := lt_el h
          refine lv_iinc (v := v4) (lv' := [(4, .int v4), (0, .ref (q0 0)), (1, .int x1), (2, .int x2), (3, .int x3)]) hx hb dX12_isFelt_36 hl (k := 4) rfl (by rw [ev4]; rfl) (by decide) rfl (fun ls hl => ?_)
          refine lv_goto (tgt := 3) hx hb dX12_isFelt_39 (by decide) ?_
          exact ih v4 _ _ _ h hP hD hS (lv_sub hl [1, 2, 3, 4, 0] rfl)
        · have h := it_f h c3
          refine lv_aload_n hx hb dX12_isFelt_19 rfl (lv_at hl 0 rfl) ?_
          refine va_get (D := E.1) (ci := 11) (v := .ref (q0 4)) (C := RX12) (T := TX12) (N := 57) hx hb hg in_X12 hown X.1 hP 0 rfl rfl 3 (by decide) (hg _ wf_X12_19) (fun _ h9 => h9) rfl dX12_isFelt_20 ?_
          refine lv_iload hx hb dX12_isFelt_23 (lv_at hl 4 rfl) ?_
          obtain ⟨hi, v5, ev5, h⟩ := rd_el h
          refine va_iald hx hb X.1 hP 4 0 rfl rfl hi dX12_isFelt_25 ?_
          refine lv_top' ev5 ?_
          refine lv_iload_n hx hb dX12_isFelt_26 rfl (lv_at hl 2 rfl) ?_
          obtain ⟨u6, hc, h⟩ := bd_el h
          refine ct_iN X hP hD hS (va_runS (As := [.int v5, .int x2]) (rest := []) ⟨hx, hb, hml, hown, hg⟩ (c_X12_distance l E  H.size v5 x2 u6 hc) (va_cwS 2 hg (gwS wm_X12_294 wst_X12_distance wini_X12 wco_X12_distance) rfl rfl rfl (by decide +kernel) ⟨Nat.le_of_ble_eq_true rfl, Nat.le_of_ble_eq_true rfl⟩) ⟨ct_blind, ct_preN X hS _⟩ rfl rfl hl.1 rfl (lv_room (Nat.le_of_ble_eq_true rfl)) dX12_isFelt_27 ⟨Nat.zero_le _, Nat.zero_le _⟩) (fun H locs hP hD hS => ?_)
          refine lv_iload_n hx hb dX12_isFelt_30 rfl (lv_at hl 3 rfl) ?_
          refine lv_icmp_gt (tgt := 36) hx hb dX12_isFelt_31 (by decide) (fun c7 => ?_) (fun c7 => ?_)
          · have h := it_t h c7
            obtain ⟨v8, ev8, h⟩ := lt_el h
            refine lv_iinc (v := v8) (lv' := [(4, .int v8), (0, .ref (q0 0)), (1, .int x1), (2, .int x2), (3, .int x3)]) hx hb dX12_isFelt_36 hl (k := 4) rfl (by rw [ev8]; rfl) (by decide) rfl (fun ls hl => ?_)
            refine lv_goto (tgt := 3) hx hb dX12_isFelt_39 (by decide) ?_
            exact ih v8 _ _ _ h hP hD hS (lv_sub hl [1, 2, 3, 4, 0] rfl)
          · have h := it_f h c7
            refine lv_iconst (v := 1) hx hb dX12_isFelt_34 (by decide) ?_
            exact RT 1 _ _ _ _ h (by decide +kernel) hP hD hS dX12_isFelt_35
  obtain ⟨H, eH⟩ : ∃ z, z = s.heap := ⟨_, rfl⟩
  rw [← eH]
  have hP : va_P E.1 vwCl (cw_X12 E q0 S0) H := by rw [eH]; exact hP
  have hS : va_S A s.heap H [] := by rw [eH]; exact hS
  clear eH
  obtain ⟨locs, el⟩ : ∃ z : List Loc, z = [] := ⟨_, rfl⟩
  rw [← el] at hS ⊢
  clear el
  refine lv_iconst (v := 0) hx hb dX12_isFelt_0 (by decide) ?_
  refine lv_istore (lv' := [(4, .int 0), (0, .ref (q0 0)), (1, .int x1), (2, .int x2), (3, .int x3)]) hx hb dX12_isFelt_1 hl (by decide) rfl (fun ls hl => ?_)
  exact N3 fu 0 _ _ _ h hP hD hS (lv_sub hl [1, 2, 3, 4, 0] rfl)
theorem dX12_feelsAll_0 : decode cX12_feelsAll 0 = .ok (.iconst 0, 1) := by decide +kernel
theorem dX12_feelsAll_1 : decode cX12_feelsAll 1 = .ok (.istore_n 3, 1) := by decide +kernel
theorem dX12_feelsAll_2 : decode cX12_feelsAll 2 = .ok (.iload_n 3, 1) := by decide +kernel
theorem dX12_feelsAll_3 : decode cX12_feelsAll 3 = .ok (.sipush 384, 3) := by decide +kernel
theorem dX12_feelsAll_6 : decode cX12_feelsAll 6 = .ok (.if_icmp .ge 21, 3) := by decide +kernel
theorem dX12_feelsAll_9 : decode cX12_feelsAll 9 = .ok (.aload_n 0, 1) := by decide +kernel
theorem dX12_feelsAll_10 : decode cX12_feelsAll 10 = .ok (.iload_n 1, 1) := by decide +kernel
theorem dX12_feelsAll_11 : decode cX12_feelsAll 11 = .ok (.iload_n 3, 1) := by decide +kernel
theorem dX12_feelsAll_12 : decode cX12_feelsAll 12 = .ok (.iload_n 2, 1) := by decide +kernel
theorem dX12_feelsAll_13 : decode cX12_feelsAll 13 = .ok (.invokevirtual 357, 3) := by decide +kernel
theorem dX12_feelsAll_16 : decode cX12_feelsAll 16 = .ok (.ifCond .ne 5, 3) := by decide +kernel
theorem dX12_feelsAll_19 : decode cX12_feelsAll 19 = .ok (.iconst 0, 1) := by decide +kernel
theorem dX12_feelsAll_20 : decode cX12_feelsAll 20 = .ok (.ireturn, 1) := by decide +kernel
theorem dX12_feelsAll_21 : decode cX12_feelsAll 21 = .ok (.iinc 3 1, 3) := by decide +kernel
theorem dX12_feelsAll_24 : decode cX12_feelsAll 24 = .ok (.goto (-22), 3) := by decide +kernel
theorem dX12_feelsAll_27 : decode cX12_feelsAll 27 = .ok (.iconst 1, 1) := by decide +kernel
theorem dX12_feelsAll_28 : decode cX12_feelsAll 28 = .ok (.ireturn, 1) := by decide +kernel
def f_X12_feelsAll_n2 (S0 : Gr) (x1 : Int32) (x2 : Int32) : Nat → Int32 → Option (Int32)
  | 0, _ => none
  | n + 1, x3 => if 384 ≤ x3 then (some 1) else ((f_X12_isFelt S0 x1 x3 x2).bind fun u2 => if u2 = 0 then (some 0) else (lt' (x3 + 1) fun v4 => f_X12_feelsAll_n2 S0 x1 x2 n v4))
def f_X12_feelsAll (S0 : Gr) (x1 : Int32) (x2 : Int32) : Option (Int32) := f_X12_feelsAll_n2 S0 x1 x2 fu 0
set_option maxHeartbeats 4000000 in
set_option maxRecDepth 100000 in
theorem c_X12_feelsAll (l : Launch) (E : Ec) (q0 : Nat → Nat) (sz : Nat) (S0 : Gr) (x1 : Int32) (x2 : Int32) (Rv : Int32) (h : f_X12_feelsAll S0 x1 x2 = some Rv) : Met l yX12_feelsAll (wsM (.code yX12_feelsAll cX12_feelsAll 4 (some .boolean))) ({ frames := 3, cells := 0, slots := 0, locals := 66 } : Room) (va_Pc [.ref (q0 0), .int x1, .int x2] (ctP E (cw_X12 E q0 S0) sz)) (ctI E (cw_X12 E q0 S0) (cw_X12 E q0 S0) sz Rv) 0 0 (va_A (cw_X12 E q0 S0) sz) := by
  refine ct_metI (by decide) (Nat.le_of_ble_eq_true rfl) ?_
  intro p e s m ar below meth c A QM hx hb hml hown hg X hP hD hS RET ls hl
  have hown : s.vm.findClass RX12 = some m.cls := hown
  have hl : lv_has ls 4 [(0, .ref (q0 0)), (1, .int x1), (2, .int x2)] := hl
  have RT : ∀ (v : Int32) (H : Heap) (locs : List Loc) (ls : Array Slot) (pc : Nat), some v = some Rv → narrow .boolean (.int v) = .int v → va_P E.1 vwCl (cw_X12 E q0 S0) H → va_D A (cw_X12 E q0 S0) → va_S A s.heap H locs → decode cX12_feelsAll pc = .ok (.ireturn, 1) → W p l e ({ frames := 3, cells := 0, slots := 0, locals := 66 } : Room) s m ar below meth c H locs 0 0 QM (F0 m pc ls [.int v]) := by
    intro v H locs ls pc e hn hP hD hS d
    obtain rfl := sm_e e
    exact RET H locs pc ls hn hP hD hS d
  clear RET
  have N2 : ∀ (n : Nat) (x3 : Int32) (H : Heap) (locs : List Loc) (ls : Array Slot), f_X12_feelsAll_n2 S0 x1 x2 n x3 = some Rv → va_P E.1 vwCl (cw_X12 E q0 S0) H → va_D A (cw_X12 E q0 S0) → va_S A s.heap H locs → lv_has ls 4 [(0, .ref (q0 0)), (1, .int x1), (2, .int x2), (3, .int x3)] → W p l e ({ frames := 3, cells := 0, slots := 0, locals := 66 } : Room) s m ar below meth c H locs 0 0 QM (F0 m 2 ls []) := by
    intro n
    induction n with
    | zero => intro x3 H locs ls h; exact nn_el h
    | succ n ih =>
      intro x3 H locs ls h hP hD hS hl
      refine lv_iload_n hx hb dX12_feelsAll_2 rfl (lv_at hl 3 rfl) ?_
      refine lv_sipush (v := 384) hx hb dX12_feelsAll_3 (by decide) ?_
      refine lv_icmp_ge (tgt := 27) hx hb dX12_feelsAll_6 (by decide) (fun c1 => ?_) (fun c1 => ?_)
      · have h := it_t h c1
        refine lv_iconst (v := 1) hx hb dX12_feelsAll_27 (by decide) ?_
        exact RT 1 _ _ _ _ h (by decide +kernel) hP hD hS dX12_feelsAll_28
      · have h := it_f h c1
        refine lv_aload_n hx hb dX12_feelsAll_9 rfl (lv_at hl 0 rfl) ?_
        refine lv_iload_n hx hb dX12_feelsAll_10 rfl (lv_at hl 1 rfl) ?_
        refine lv_iload_n hx hb dX12_feelsAll_11 rfl (lv_at hl 3 rfl) ?_
        refine lv_iload_n hx hb dX12_feelsAll_12 rfl (lv_at hl 2 rfl) ?_
        obtain ⟨u2, hc, h⟩ := bd_el h
        refine ct_iA (w1 := cw_X12 E q0 S0) X hP hD hS (va_runV (C := RX12) (As := [.int x1, .int x3, .int x2]) (rest := []) ⟨hx, hb, hml, hown, hg⟩ (c_X12_isFelt l E q0 H.size S0 x1 x3 x2 u2 hc) (cwV 3 hg (gwV wm_X12_357 wi_X12_isFelt wsl_X12_isFelt wini_X12 wco_X12_isFelt) rfl rfl rfl (by decide +kernel) ⟨Nat.le_of_ble_eq_true rfl, Nat.le_of_ble_eq_true rfl⟩) ⟨ct_blind, ct_rv X.1 hP 0 rfl rfl, ct_preA X hP hD hS _⟩ rfl rfl hl.1 rfl (lv_room (Nat.le_of_ble_eq_true rfl)) dX12_feelsAll_13 ⟨Nat.zero_le _, Nat.zero_le _⟩) (fun H locs hP hD hS => ?_)
        refine lv_if_ne (tgt := 21) hx hb dX12_feelsAll_16 (by decide) (fun c3 => ?_) (fun c3 => ?_)
        · have h := it_f h c3
          obtain ⟨v4, ev4, h⟩ := lt_el h
          refine lv_iinc (v := v4) (lv' := [(3, .int v4), (0, .ref (q0 0)), (1, .int x1), (2, .int x2)]) hx hb dX12_feelsAll_21 hl (k := 3) rfl (by rw [ev4]; rfl) (by decide) rfl (fun ls hl => ?_)
          refine lv_goto (tgt := 2) hx hb dX12_feelsAll_24 (by decide) ?_
          exact ih v4 _ _ _ h hP hD hS (lv_sub hl [1, 2, 3, 0] rfl)
        · have h := it_t h c3
          refine lv_iconst (v := 0) hx hb dX12_feelsAll_19 (by decide) ?_
          exact RT 0 _ _ _ _ h (by decide +kernel) hP hD hS dX12_feelsAll_20
  obtain ⟨H, eH⟩ : ∃ z, z = s.heap := ⟨_, rfl⟩
  rw [← eH]
  have hP : va_P E.1 vwCl (cw_X12 E q0 S0) H := by rw [eH]; exact hP
  have hS : va_S A s.heap H [] := by rw [eH]; exact hS
  clear eH
  obtain ⟨locs, el⟩ : ∃ z : List Loc, z = [] := ⟨_, rfl⟩
  rw [← el] at hS ⊢
  clear el
  refine lv_iconst (v := 0) hx hb dX12_feelsAll_0 (by decide) ?_
  refine lv_istore_n (lv' := [(3, .int 0), (0, .ref (q0 0)), (1, .int x1), (2, .int x2)]) hx hb dX12_feelsAll_1 rfl hl (by decide) rfl (fun ls hl => ?_)
  exact N2 fu 0 _ _ _ h hP hD hS (lv_sub hl [1, 2, 3, 0] rfl)
theorem dX12_in_0 : decode cX12_in 0 = .ok (.iload_n 0, 1) := by decide +kernel
theorem dX12_in_1 : decode cX12_in 1 = .ok (.iload_n 1, 1) := by decide +kernel
theorem dX12_in_2 : decode cX12_in 2 = .ok (.if_icmp .lt 12, 3) := by decide +kernel
theorem dX12_in_5 : decode cX12_in 5 = .ok (.iload_n 0, 1) := by decide +kernel
theorem dX12_in_6 : decode cX12_in 6 = .ok (.iload_n 2, 1) := by decide +kernel
theorem dX12_in_7 : decode cX12_in 7 = .ok (.if_icmp .gt 7, 3) := by decide +kernel
theorem dX12_in_10 : decode cX12_in 10 = .ok (.iconst 1, 1) := by decide +kernel
theorem dX12_in_11 : decode cX12_in 11 = .ok (.goto 4, 3) := by decide +kernel
theorem dX12_in_14 : decode cX12_in 14 = .ok (.iconst 0, 1) := by decide +kernel
theorem dX12_in_15 : decode cX12_in 15 = .ok (.ireturn, 1) := by decide +kernel
def f_X12_in (x0 : Int32) (x1 : Int32) (x2 : Int32) : Option (Int32) := if x0 < x1 then (some 0) else (if x2 < x0 then (some 0) else (some 1))
set_option maxHeartbeats 4000000 in
set_option maxRecDepth 100000 in
theorem c_X12_in (l : Launch) (E : Ec) (sz : Nat) (x0 : Int32) (x1 : Int32) (x2 : Int32) (Rv : Int32) (h : f_X12_in x0 x1 x2 = some Rv) : Met l yX12_in (wsM (.code yX12_in cX12_in 3 (some .boolean))) ({ frames := 0, cells := 0, slots := 0, locals := 0 } : Room) (va_Pc [.int x0, .int x1, .int x2] (ctP E ([]) sz)) (ctI E ([]) ([]) sz Rv) 0 0 (va_A ([]) sz) := by
  refine ct_metI (by decide) (Nat.le_of_ble_eq_true rfl) ?_
  intro p e s m ar below meth c A QM hx hb hml hown hg X hP hD hS RET ls hl
  have hown : s.vm.findClass RX12 = some m.cls := hown
  have hl : lv_has ls 3 [(0, .int x0), (1, .int x1), (2, .int x2)] := hl
  have RT : ∀ (v : Int32) (H : Heap) (locs : List Loc) (ls : Array Slot) (pc : Nat), some v = some Rv → narrow .boolean (.int v) = .int v → va_P E.1 vwCl ([]) H → va_D A ([]) → va_S A s.heap H locs → decode cX12_in pc = .ok (.ireturn, 1) → W p l e ({ frames := 0, cells := 0, slots := 0, locals := 0 } : Room) s m ar below meth c H locs 0 0 QM (F0 m pc ls [.int v]) := by
    intro v H locs ls pc e hn hP hD hS d
    obtain rfl := sm_e e
    exact RET H locs pc ls hn hP hD hS d
  clear RET
  obtain ⟨H, eH⟩ : ∃ z, z = s.heap := ⟨_, rfl⟩
  rw [← eH]
  have hP : va_P E.1 vwCl ([]) H := by rw [eH]; exact hP
  have hS : va_S A s.heap H [] := by rw [eH]; exact hS
  clear eH
  obtain ⟨locs, el⟩ : ∃ z : List Loc, z = [] := ⟨_, rfl⟩
  rw [← el] at hS ⊢
  clear el
  refine lv_iload_n hx hb dX12_in_0 rfl (lv_at hl 0 rfl) ?_
  refine lv_iload_n hx hb dX12_in_1 rfl (lv_at hl 1 rfl) ?_
  refine lv_icmp_lt (tgt := 14) hx hb dX12_in_2 (by decide) (fun c1 => ?_) (fun c1 => ?_)
  · have h := it_t h c1
    refine lv_iconst (v := 0) hx hb dX12_in_14 (by decide) ?_
    exact RT 0 _ _ _ _ h (by decide +kernel) hP hD hS dX12_in_15
  · have h := it_f h c1
    refine lv_iload_n hx hb dX12_in_5 rfl (lv_at hl 0 rfl) ?_
    refine lv_iload_n hx hb dX12_in_6 rfl (lv_at hl 2 rfl) ?_
    refine lv_icmp_gt (tgt := 14) hx hb dX12_in_7 (by decide) (fun c2 => ?_) (fun c2 => ?_)
    · have h := it_t h c2
      refine lv_iconst (v := 0) hx hb dX12_in_14 (by decide) ?_
      exact RT 0 _ _ _ _ h (by decide +kernel) hP hD hS dX12_in_15
    · have h := it_f h c2
      refine lv_iconst (v := 1) hx hb dX12_in_10 (by decide) ?_
      refine lv_goto (tgt := 15) hx hb dX12_in_11 (by decide) ?_
      exact RT 1 _ _ _ _ h (by decide +kernel) hP hD hS dX12_in_15
theorem dX12_allTheSea_0 : decode cX12_allTheSea 0 = .ok (.iload_n 1, 1) := by decide +kernel
theorem dX12_allTheSea_1 : decode cX12_allTheSea 1 = .ok (.iconst 0, 1) := by decide +kernel
theorem dX12_allTheSea_2 : decode cX12_allTheSea 2 = .ok (.bipush 23, 2) := by decide +kernel
theorem dX12_allTheSea_4 : decode cX12_allTheSea 4 = .ok (.invokestatic 110, 3) := by decide +kernel
theorem dX12_allTheSea_7 : decode cX12_allTheSea 7 = .ok (.ifCond .eq 12, 3) := by decide +kernel
theorem dX12_allTheSea_10 : decode cX12_allTheSea 10 = .ok (.iload_n 2, 1) := by decide +kernel
theorem dX12_allTheSea_11 : decode cX12_allTheSea 11 = .ok (.iconst 0, 1) := by decide +kernel
theorem dX12_allTheSea_12 : decode cX12_allTheSea 12 = .ok (.iconst 1, 1) := by decide +kernel
theorem dX12_allTheSea_13 : decode cX12_allTheSea 13 = .ok (.invokestatic 110, 3) := by decide +kernel
theorem dX12_allTheSea_16 : decode cX12_allTheSea 16 = .ok (.ifCond .ne 5, 3) := by decide +kernel
theorem dX12_allTheSea_19 : decode cX12_allTheSea 19 = .ok (.iconst (-1), 1) := by decide +kernel
theorem dX12_allTheSea_20 : decode cX12_allTheSea 20 = .ok (.ireturn, 1) := by decide +kernel
theorem dX12_allTheSea_21 : decode cX12_allTheSea 21 = .ok (.aload_n 0, 1) := by decide +kernel
theorem dX12_allTheSea_22 : decode cX12_allTheSea 22 = .ok (.aload_n 0, 1) := by decide +kernel
theorem dX12_allTheSea_23 : decode cX12_allTheSea 23 = .ok (.getfield 114, 3) := by decide +kernel
theorem dX12_allTheSea_26 : decode cX12_allTheSea 26 = .ok (.iload_n 1, 1) := by decide +kernel
theorem dX12_allTheSea_27 : decode cX12_allTheSea 27 = .ok (.invokevirtual 360, 3) := by decide +kernel
theorem dX12_allTheSea_30 : decode cX12_allTheSea 30 = .ok (.ifCond .ne 6, 3) := by decide +kernel
theorem dX12_allTheSea_33 : decode cX12_allTheSea 33 = .ok (.bipush (-2), 2) := by decide +kernel
theorem dX12_allTheSea_35 : decode cX12_allTheSea 35 = .ok (.ireturn, 1) := by decide +kernel
theorem dX12_allTheSea_36 : decode cX12_allTheSea 36 = .ok (.aload_n 0, 1) := by decide +kernel
theorem dX12_allTheSea_37 : decode cX12_allTheSea 37 = .ok (.getfield 114, 3) := by decide +kernel
theorem dX12_allTheSea_40 : decode cX12_allTheSea 40 = .ok (.istore_n 3, 1) := by decide +kernel
theorem dX12_allTheSea_41 : decode cX12_allTheSea 41 = .ok (.sipush 255, 3) := by decide +kernel
theorem dX12_allTheSea_44 : decode cX12_allTheSea 44 = .ok (.istore 4, 2) := by decide +kernel
theorem dX12_allTheSea_46 : decode cX12_allTheSea 46 = .ok (.iload 4, 2) := by decide +kernel
theorem dX12_allTheSea_48 : decode cX12_allTheSea 48 = .ok (.ifCond .lt 46, 3) := by decide +kernel
theorem dX12_allTheSea_51 : decode cX12_allTheSea 51 = .ok (.iload 4, 2) := by decide +kernel
theorem dX12_allTheSea_53 : decode cX12_allTheSea 53 = .ok (.aload_n 0, 1) := by decide +kernel
theorem dX12_allTheSea_54 : decode cX12_allTheSea 54 = .ok (.getfield 114, 3) := by decide +kernel
theorem dX12_allTheSea_57 : decode cX12_allTheSea 57 = .ok (.iconst (-1), 1) := by decide +kernel
theorem dX12_allTheSea_58 : decode cX12_allTheSea 58 = .ok (.ixor, 1) := by decide +kernel
theorem dX12_allTheSea_59 : decode cX12_allTheSea 59 = .ok (.iand, 1) := by decide +kernel
theorem dX12_allTheSea_60 : decode cX12_allTheSea 60 = .ok (.ifCond .ne 28, 3) := by decide +kernel
theorem dX12_allTheSea_63 : decode cX12_allTheSea 63 = .ok (.iload 4, 2) := by decide +kernel
theorem dX12_allTheSea_65 : decode cX12_allTheSea 65 = .ok (.invokestatic 291, 3) := by decide +kernel
theorem dX12_allTheSea_68 : decode cX12_allTheSea 68 = .ok (.iload_n 3, 1) := by decide +kernel
theorem dX12_allTheSea_69 : decode cX12_allTheSea 69 = .ok (.invokestatic 291, 3) := by decide +kernel
theorem dX12_allTheSea_72 : decode cX12_allTheSea 72 = .ok (.if_icmp .gt 16, 3) := by decide +kernel
theorem dX12_allTheSea_75 : decode cX12_allTheSea 75 = .ok (.aload_n 0, 1) := by decide +kernel
theorem dX12_allTheSea_76 : decode cX12_allTheSea 76 = .ok (.iload 4, 2) := by decide +kernel
theorem dX12_allTheSea_78 : decode cX12_allTheSea 78 = .ok (.iload_n 1, 1) := by decide +kernel
theorem dX12_allTheSea_79 : decode cX12_allTheSea 79 = .ok (.invokevirtual 360, 3) := by decide +kernel
theorem dX12_allTheSea_82 : decode cX12_allTheSea 82 = .ok (.ifCond .eq 6, 3) := by decide +kernel
theorem dX12_allTheSea_85 : decode cX12_allTheSea 85 = .ok (.iload 4, 2) := by decide +kernel
theorem dX12_allTheSea_87 : decode cX12_allTheSea 87 = .ok (.istore_n 3, 1) := by decide +kernel
theorem dX12_allTheSea_88 : decode cX12_allTheSea 88 = .ok (.iinc 4 (-1), 3) := by decide +kernel
theorem dX12_allTheSea_91 : decode cX12_allTheSea 91 = .ok (.goto (-45), 3) := by decide +kernel
theorem dX12_allTheSea_94 : decode cX12_allTheSea 94 = .ok (.iload_n 2, 1) := by decide +kernel
theorem dX12_allTheSea_95 : decode cX12_allTheSea 95 = .ok (.ifCond .ne 10, 3) := by decide +kernel
theorem dX12_allTheSea_98 : decode cX12_allTheSea 98 = .ok (.iload_n 3, 1) := by decide +kernel
theorem dX12_allTheSea_99 : decode cX12_allTheSea 99 = .ok (.invokestatic 291, 3) := by decide +kernel
theorem dX12_allTheSea_102 : decode cX12_allTheSea 102 = .ok (.goto 4, 3) := by decide +kernel
theorem dX12_allTheSea_105 : decode cX12_allTheSea 105 = .ok (.iload_n 3, 1) := by decide +kernel
theorem dX12_allTheSea_106 : decode cX12_allTheSea 106 = .ok (.ireturn, 1) := by decide +kernel
def f_X12_allTheSea_n46 (S0 : Gr) (x1 : Int32) (x2 : Int32) : Nat → Int32 → Int32 → Option (Int32)
  | 0, _, _ => none
  | n + 1, x3, x4 => if x4 < 0 then (if x2 = 0 then ((f_X12_bits x3).bind fun u10 => some u10) else (some x3)) else (if (x4 &&& ((S0.1 5) ^^^ (-1))) = 0 then ((f_X12_bits x4).bind fun u13 => (f_X12_bits x3).bind fun u14 => if u14 < u13 then (lt' (x4 + (-1)) fun v16 => f_X12_allTheSea_n46 S0 x1 x2 n x3 v16) else ((f_X12_feelsAll S0 x4 x1).bind fun u17 => if u17 = 0 then (lt' (x4 + (-1)) fun v19 => f_X12_allTheSea_n46 S0 x1 x2 n x3 v19) else (lt' (x4 + (-1)) fun v20 => f_X12_allTheSea_n46 S0 x1 x2 n x4 v20))) else (lt' (x4 + (-1)) fun v12 => f_X12_allTheSea_n46 S0 x1 x2 n x3 v12))
def f_X12_allTheSea (S0 : Gr) (x1 : Int32) (x2 : Int32) : Option (Int32) := (f_X12_in x1 0 23).bind fun u1 => if u1 = 0 then (some (-1)) else ((f_X12_in x2 0 1).bind fun u3 => if u3 = 0 then (some (-1)) else ((f_X12_feelsAll S0 (S0.1 5) x1).bind fun u5 => if u5 = 0 then (some (-2)) else (lt' ((S0.1 5)) fun v7 => f_X12_allTheSea_n46 S0 x1 x2 fu v7 255)))
set_option maxHeartbeats 4000000 in
set_option maxRecDepth 100000 in
theorem c_X12_allTheSea (l : Launch) (E : Ec) (q0 : Nat → Nat) (sz : Nat) (S0 : Gr) (x1 : Int32) (x2 : Int32) (Rv : Int32) (h : f_X12_allTheSea S0 x1 x2 = some Rv) : Met l yX12_allTheSea (wsM (.code yX12_allTheSea cX12_allTheSea 5 (some .int))) ({ frames := 4, cells := 0, slots := 0, locals := 89 } : Room) (va_Pc [.ref (q0 0), .int x1, .int x2] (ctP E (cw_X12 E q0 S0) sz)) (ctI E (cw_X12 E q0 S0) (cw_X12 E q0 S0) sz Rv) 0 0 (va_A (cw_X12 E q0 S0) sz) := by
  refine ct_metI (by decide) (Nat.le_of_ble_eq_true rfl) ?_
  intro p e s m ar below meth c A QM hx hb hml hown hg X hP hD hS RET ls hl
  have hown : s.vm.findClass RX12 = some m.cls := hown
  have hl : lv_has ls 5 [(0, .ref (q0 0)), (1, .int x1), (2, .int x2)] := hl
  have RT : ∀ (v : Int32) (H : Heap) (locs : List Loc) (ls : Array Slot) (pc : Nat), some v = some Rv → narrow .int (.int v) = .int v → va_P E.1 vwCl (cw_X12 E q0 S0) H → va_D A (cw_X12 E q0 S0) → va_S A s.heap H locs → decode cX12_allTheSea pc = .ok (.ireturn, 1) → W p l e ({ frames := 4, cells := 0, slots := 0, locals := 89 } : Room) s m ar below meth c H locs 0 0 QM (F0 m pc ls [.int v]) := by
    intro v H locs ls pc e hn hP hD hS d
    obtain rfl := sm_e e
    exact RET H locs pc ls hn hP hD hS d
  clear RET
  have N46 : ∀ (n : Nat) (x3 : Int32) (x4 : Int32) (H : Heap) (locs : List Loc) (ls : Array Slot), f_X12_allTheSea_n46 S0 x1 x2 n x3 x4 = some Rv → va_P E.1 vwCl (cw_X12 E q0 S0) H → va_D A (cw_X12 E q0 S0) → va_S A s.heap H locs → lv_has ls 5 [(0, .ref (q0 0)), (1, .int x1), (2, .int x2), (3, .int x3), (4, .int x4)] → W p l e ({ frames := 4, cells := 0, slots := 0, locals := 89 } : Room) s m ar below meth c H locs 0 0 QM (F0 m 46 ls []) := by
    intro n
    induction n with
    | zero => intro x3 x4 H locs ls h; exact nn_el h
    | succ n ih =>
      intro x3 x4 H locs ls h hP hD hS hl
      refine lv_iload hx hb dX12_allTheSea_46 (lv_at hl 4 rfl) ?_
      refine lv_if_lt (tgt := 94) hx hb dX12_allTheSea_48 (by decide) (fun c8 => ?_) (fun c8 => ?_)
      · have h := it_t h c8
        refine lv_iload_n hx hb dX12_allTheSea_94 rfl (lv_at hl 2 rfl) ?_
        refine lv_if_ne (tgt := 105) hx hb dX12_allTheSea_95 (by decide) (fun c9 => ?_) (fun c9 => ?_)
        · have h := it_f h c9
          refine lv_iload_n hx hb dX12_allTheSea_105 rfl (lv_at hl 3 rfl) ?_
          exact RT x3 _ _ _ _ h rfl hP hD hS dX12_allTheSea_106
        · have h := it_t h c9
          refine lv_iload_n hx hb dX12_allTheSea_98 rfl (lv_at hl 3 rfl) ?_
          obtain ⟨u10, hc, h⟩ := bd_el h
          refine ct_iN X hP hD hS (va_runS (As := [.int x3]) (rest := []) ⟨hx, hb, hml, hown, hg⟩ (c_X12_bits l E  H.size x3 u10 hc) (va_cwS 1 hg (gwS wm_X12_291 wst_X12_bits wini_X12 wco_X12_bits) rfl rfl rfl (by decide +kernel) ⟨Nat.le_of_ble_eq_true rfl, Nat.le_of_ble_eq_true rfl⟩) ⟨ct_blind, ct_preN X hS _⟩ rfl rfl hl.1 rfl (lv_room (Nat.le_of_ble_eq_true rfl)) dX12_allTheSea_99 ⟨Nat.zero_le _, Nat.zero_le _⟩) (fun H locs hP hD hS => ?_)
          refine lv_goto (tgt := 106) hx hb dX12_allTheSea_102 (by decide) ?_
          exact RT u10 _ _ _ _ h rfl hP hD hS dX12_allTheSea_106
      · have h := it_f h c8
        refine lv_iload hx hb dX12_allTheSea_51 (lv_at hl 4 rfl) ?_
        refine lv_aload_n hx hb dX12_allTheSea_53 rfl (lv_at hl 0 rfl) ?_
        refine va_get (D := E.1) (ci := 11) (v := .int (S0.1 5)) (C := RX12) (T := TX12) (N := 57) hx hb hg in_X12 hown X.1 hP 0 rfl rfl 5 (by decide) (hg _ wf_X12_114) (fun _ h9 => h9) rfl dX12_allTheSea_54 ?_
        refine lv_iconst (v := (-1)) hx hb dX12_allTheSea_57 (by decide) ?_
        refine lv_ixor hx hb dX12_allTheSea_58 ?_
        refine lv_iand hx hb dX12_allTheSea_59 ?_
        refine lv_if_ne (tgt := 88) hx hb dX12_allTheSea_60 (by decide) (fun c11 => ?_) (fun c11 => ?_)
        · have h := it_f h c11
          obtain ⟨v12, ev12, h⟩ := lt_el h
          refine lv_iinc (v := v12) (lv' := [(4, .int v12), (0, .ref (q0 0)), (1, .int x1), (2, .int x2), (3, .int x3)]) hx hb dX12_allTheSea_88 hl (k := 4) rfl (by rw [ev12]; rfl) (by decide) rfl (fun ls hl => ?_)
          refine lv_goto (tgt := 46) hx hb dX12_allTheSea_91 (by decide) ?_
          exact ih x3 v12 _ _ _ h hP hD hS (lv_sub hl [1, 2, 3, 4, 0] rfl)
        · have h := it_t h c11
          refine lv_iload hx hb dX12_allTheSea_63 (lv_at hl 4 rfl) ?_
          obtain ⟨u13, hc, h⟩ := bd_el h
          refine ct_iN X hP hD hS (va_runS (As := [.int x4]) (rest := []) ⟨hx, hb, hml, hown, hg⟩ (c_X12_bits l E  H.size x4 u13 hc) (va_cwS 1 hg (gwS wm_X12_291 wst_X12_bits wini_X12 wco_X12_bits) rfl rfl rfl (by decide +kernel) ⟨Nat.le_of_ble_eq_true rfl, Nat.le_of_ble_eq_true rfl⟩) ⟨ct_blind, ct_preN X hS _⟩ rfl rfl hl.1 rfl (lv_room (Nat.le_of_ble_eq_true rfl)) dX12_allTheSea_65 ⟨Nat.zero_le _, Nat.zero_le _⟩) (fun H locs hP hD hS => ?_)
          refine lv_iload_n hx hb dX12_allTheSea_68 rfl (lv_at hl 3 rfl) ?_
          obtain ⟨u14, hc, h⟩ := bd_el h
          refine ct_iN X hP hD hS (va_runS (As := [.int x3]) (rest := [.int u13]) ⟨hx, hb, hml, hown, hg⟩ (c_X12_bits l E  H.size x3 u14 hc) (va_cwS 1 hg (gwS wm_X12_291 wst_X12_bits wini_X12 wco_X12_bits) rfl rfl rfl (by decide +kernel) ⟨Nat.le_of_ble_eq_true rfl, Nat.le_of_ble_eq_true rfl⟩) ⟨ct_blind, ct_preN X hS _⟩ rfl rfl hl.1 rfl (lv_room (Nat.le_of_ble_eq_true rfl)) dX12_allTheSea_69 ⟨Nat.zero_le _, Nat.zero_le _⟩) (fun H locs hP hD hS => ?_)
          refine lv_icmp_gt (tgt := 88) hx hb dX12_allTheSea_72 (by decide) (fun c15 => ?_) (fun c15 => ?_)
          · have h := it_t h c15
            obtain ⟨v16, ev16, h⟩ := lt_el h
            refine lv_iinc (v := v16) (lv' := [(4, .int v16), (0, .ref (q0 0)), (1, .int x1), (2, .int x2), (3, .int x3)]) hx hb dX12_allTheSea_88 hl (k := 4) rfl (by rw [ev16]; rfl) (by decide) rfl (fun ls hl => ?_)
            refine lv_goto (tgt := 46) hx hb dX12_allTheSea_91 (by decide) ?_
            exact ih x3 v16 _ _ _ h hP hD hS (lv_sub hl [1, 2, 3, 4, 0] rfl)
          · have h := it_f h c15
            refine lv_aload_n hx hb dX12_allTheSea_75 rfl (lv_at hl 0 rfl) ?_
            refine lv_iload hx hb dX12_allTheSea_76 (lv_at hl 4 rfl) ?_
            refine lv_iload_n hx hb dX12_allTheSea_78 rfl (lv_at hl 1 rfl) ?_
            obtain ⟨u17, hc, h⟩ := bd_el h
            refine ct_iA (w1 := cw_X12 E q0 S0) X hP hD hS (va_runV (C := RX12) (As := [.int x4, .int x1]) (rest := []) ⟨hx, hb, hml, hown, hg⟩ (c_X12_feelsAll l E q0 H.size S0 x4 x1 u17 hc) (cwV 2 hg (gwV wm_X12_360 wi_X12_feelsAll wsl_X12_feelsAll wini_X12 wco_X12_feelsAll) rfl rfl rfl (by decide +kernel) ⟨Nat.le_of_ble_eq_true rfl, Nat.le_of_ble_eq_true rfl⟩) ⟨ct_blind, ct_rv X.1 hP 0 rfl rfl, ct_preA X hP hD hS _⟩ rfl rfl hl.1 rfl (lv_room (Nat.le_of_ble_eq_true rfl)) dX12_allTheSea_79 ⟨Nat.zero_le _, Nat.zero_le _⟩) (fun H locs hP hD hS => ?_)
            refine lv_if_eq (tgt := 88) hx hb dX12_allTheSea_82 (by decide) (fun c18 => ?_) (fun c18 => ?_)
            · have h := it_t h c18
              obtain ⟨v19, ev19, h⟩ := lt_el h
              refine lv_iinc (v := v19) (lv' := [(4, .int v19), (0, .ref (q0 0)), (1, .int x1), (2, .int x2), (3, .int x3)]) hx hb dX12_allTheSea_88 hl (k := 4) rfl (by rw [ev19]; rfl) (by decide) rfl (fun ls hl => ?_)
              refine lv_goto (tgt := 46) hx hb dX12_allTheSea_91 (by decide) ?_
              exact ih x3 v19 _ _ _ h hP hD hS (lv_sub hl [1, 2, 3, 4, 0] rfl)
            · have h := it_f h c18
              refine lv_iload hx hb dX12_allTheSea_85 (lv_at hl 4 rfl) ?_
              refine lv_istore_n (lv' := [(3, .int x4), (0, .ref (q0 0)), (1, .int x1), (2, .int x2), (4, .int x4)]) hx hb dX12_allTheSea_87 rfl hl (by decide) rfl (fun ls hl => ?_)
              obtain ⟨v20, ev20, h⟩ := lt_el h
              refine lv_iinc (v := v20) (lv' := [(4, .int v20), (3, .int x4), (0, .ref (q0 0)), (1, .int x1), (2, .int x2)]) hx hb dX12_allTheSea_88 hl (k := 4) rfl (by rw [ev20]; rfl) (by decide) rfl (fun ls hl => ?_)
              refine lv_goto (tgt := 46) hx hb dX12_allTheSea_91 (by decide) ?_
              exact ih x4 v20 _ _ _ h hP hD hS (lv_sub hl [2, 3, 4, 1, 0] rfl)
  obtain ⟨H, eH⟩ : ∃ z, z = s.heap := ⟨_, rfl⟩
  rw [← eH]
  have hP : va_P E.1 vwCl (cw_X12 E q0 S0) H := by rw [eH]; exact hP
  have hS : va_S A s.heap H [] := by rw [eH]; exact hS
  clear eH
  obtain ⟨locs, el⟩ : ∃ z : List Loc, z = [] := ⟨_, rfl⟩
  rw [← el] at hS ⊢
  clear el
  refine lv_iload_n hx hb dX12_allTheSea_0 rfl (lv_at hl 1 rfl) ?_
  refine lv_iconst (v := 0) hx hb dX12_allTheSea_1 (by decide) ?_
  refine lv_bipush (v := 23) hx hb dX12_allTheSea_2 (by decide) ?_
  obtain ⟨u1, hc, h⟩ := bd_el h
  refine ct_iN X hP hD hS (va_runS (As := [.int x1, .int 0, .int 23]) (rest := []) ⟨hx, hb, hml, hown, hg⟩ (c_X12_in l E  H.size x1 0 23 u1 hc) (va_cwS 3 hg (gwS wm_X12_110 wst_X12_in wini_X12 wco_X12_in) rfl rfl rfl (by decide +kernel) ⟨Nat.le_of_ble_eq_true rfl, Nat.le_of_ble_eq_true rfl⟩) ⟨ct_blind, ct_preN X hS _⟩ rfl rfl hl.1 rfl (lv_room (Nat.le_of_ble_eq_true rfl)) dX12_allTheSea_4 ⟨Nat.zero_le _, Nat.zero_le _⟩) (fun H locs hP hD hS => ?_)
  refine lv_if_eq (tgt := 19) hx hb dX12_allTheSea_7 (by decide) (fun c2 => ?_) (fun c2 => ?_)
  · have h := it_t h c2
    refine lv_iconst (v := (-1)) hx hb dX12_allTheSea_19 (by decide) ?_
    exact RT (-1) _ _ _ _ h rfl hP hD hS dX12_allTheSea_20
  · have h := it_f h c2
    refine lv_iload_n hx hb dX12_allTheSea_10 rfl (lv_at hl 2 rfl) ?_
    refine lv_iconst (v := 0) hx hb dX12_allTheSea_11 (by decide) ?_
    refine lv_iconst (v := 1) hx hb dX12_allTheSea_12 (by decide) ?_
    obtain ⟨u3, hc, h⟩ := bd_el h
    refine ct_iN X hP hD hS (va_runS (As := [.int x2, .int 0, .int 1]) (rest := []) ⟨hx, hb, hml, hown, hg⟩ (c_X12_in l E  H.size x2 0 1 u3 hc) (va_cwS 3 hg (gwS wm_X12_110 wst_X12_in wini_X12 wco_X12_in) rfl rfl rfl (by decide +kernel) ⟨Nat.le_of_ble_eq_true rfl, Nat.le_of_ble_eq_true rfl⟩) ⟨ct_blind, ct_preN X hS _⟩ rfl rfl hl.1 rfl (lv_room (Nat.le_of_ble_eq_true rfl)) dX12_allTheSea_13 ⟨Nat.zero_le _, Nat.zero_le _⟩) (fun H locs hP hD hS => ?_)
    refine lv_if_ne (tgt := 21) hx hb dX12_allTheSea_16 (by decide) (fun c4 => ?_) (fun c4 => ?_)
    · have h := it_f h c4
      refine lv_aload_n hx hb dX12_allTheSea_21 rfl (lv_at hl 0 rfl) ?_
      refine lv_aload_n hx hb dX12_allTheSea_22 rfl (lv_at hl 0 rfl) ?_
      refine va_get (D := E.1) (ci := 11) (v := .int (S0.1 5)) (C := RX12) (T := TX12) (N := 57) hx hb hg in_X12 hown X.1 hP 0 rfl rfl 5 (by decide) (hg _ wf_X12_114) (fun _ h9 => h9) rfl dX12_allTheSea_23 ?_
      refine lv_iload_n hx hb dX12_allTheSea_26 rfl (lv_at hl 1 rfl) ?_
      obtain ⟨u5, hc, h⟩ := bd_el h
      refine ct_iA (w1 := cw_X12 E q0 S0) X hP hD hS (va_runV (C := RX12) (As := [.int (S0.1 5), .int x1]) (rest := []) ⟨hx, hb, hml, hown, hg⟩ (c_X12_feelsAll l E q0 H.size S0 (S0.1 5) x1 u5 hc) (cwV 2 hg (gwV wm_X12_360 wi_X12_feelsAll wsl_X12_feelsAll wini_X12 wco_X12_feelsAll) rfl rfl rfl (by decide +kernel) ⟨Nat.le_of_ble_eq_true rfl, Nat.le_of_ble_eq_true rfl⟩) ⟨ct_blind, ct_rv X.1 hP 0 rfl rfl, ct_preA X hP hD hS _⟩ rfl rfl hl.1 rfl (lv_room (Nat.le_of_ble_eq_true rfl)) dX12_allTheSea_27 ⟨Nat.zero_le _, Nat.zero_le _⟩) (fun H locs hP hD hS => ?_)
      refine lv_if_ne (tgt := 36) hx hb dX12_allTheSea_30 (by decide) (fun c6 => ?_) (fun c6 => ?_)
      · have h := it_f h c6
        refine lv_aload_n hx hb dX12_allTheSea_36 rfl (lv_at hl 0 rfl) ?_
        refine va_get (D := E.1) (ci := 11) (v := .int (S0.1 5)) (C := RX12) (T := TX12) (N := 57) hx hb hg in_X12 hown X.1 hP 0 rfl rfl 5 (by decide) (hg _ wf_X12_114) (fun _ h9 => h9) rfl dX12_allTheSea_37 ?_
        obtain ⟨v7, ev7, h⟩ := lt_el h
        refine lv_top' ev7 ?_
        refine lv_istore_n (lv' := [(3, .int v7), (0, .ref (q0 0)), (1, .int x1), (2, .int x2)]) hx hb dX12_allTheSea_40 rfl hl (by decide) rfl (fun ls hl => ?_)
        refine lv_sipush (v := 255) hx hb dX12_allTheSea_41 (by decide) ?_
        refine lv_istore (lv' := [(4, .int 255), (3, .int v7), (0, .ref (q0 0)), (1, .int x1), (2, .int x2)]) hx hb dX12_allTheSea_44 hl (by decide) rfl (fun ls hl => ?_)
        exact N46 fu v7 255 _ _ _ h hP hD hS (lv_sub hl [2, 3, 4, 1, 0] rfl)
      · have h := it_t h c6
        refine lv_bipush (v := (-2)) hx hb dX12_allTheSea_33 (by decide) ?_
        exact RT (-2) _ _ _ _ h rfl hP hD hS dX12_allTheSea_35
    · have h := it_t h c4
      refine lv_iconst (v := (-1)) hx hb dX12_allTheSea_19 (by decide) ?_
      exact RT (-1) _ _ _ _ h rfl hP hD hS dX12_allTheSea_20
theorem dX12_stepAcross_0 : decode cX12_stepAcross 0 = .ok (.iload_n 0, 1) := by decide +kernel
theorem dX12_stepAcross_1 : decode cX12_stepAcross 1 = .ok (.iconst 1, 1) := by decide +kernel
theorem dX12_stepAcross_2 : decode cX12_stepAcross 2 = .ok (.iconst 3, 1) := by decide +kernel
theorem dX12_stepAcross_3 : decode cX12_stepAcross 3 = .ok (.invokestatic 110, 3) := by decide +kernel
theorem dX12_stepAcross_6 : decode cX12_stepAcross 6 = .ok (.ifCond .eq 7, 3) := by decide +kernel
theorem dX12_stepAcross_9 : decode cX12_stepAcross 9 = .ok (.iconst 1, 1) := by decide +kernel
theorem dX12_stepAcross_10 : decode cX12_stepAcross 10 = .ok (.goto 18, 3) := by decide +kernel
theorem dX12_stepAcross_13 : decode cX12_stepAcross 13 = .ok (.iload_n 0, 1) := by decide +kernel
theorem dX12_stepAcross_14 : decode cX12_stepAcross 14 = .ok (.iconst 5, 1) := by decide +kernel
theorem dX12_stepAcross_15 : decode cX12_stepAcross 15 = .ok (.bipush 7, 2) := by decide +kernel
theorem dX12_stepAcross_17 : decode cX12_stepAcross 17 = .ok (.invokestatic 110, 3) := by decide +kernel
theorem dX12_stepAcross_20 : decode cX12_stepAcross 20 = .ok (.ifCond .eq 7, 3) := by decide +kernel
theorem dX12_stepAcross_23 : decode cX12_stepAcross 23 = .ok (.iconst (-1), 1) := by decide +kernel
theorem dX12_stepAcross_24 : decode cX12_stepAcross 24 = .ok (.goto 4, 3) := by decide +kernel
theorem dX12_stepAcross_27 : decode cX12_stepAcross 27 = .ok (.iconst 0, 1) := by decide +kernel
theorem dX12_stepAcross_28 : decode cX12_stepAcross 28 = .ok (.ireturn, 1) := by decide +kernel
def f_X12_stepAcross (x0 : Int32) : Option (Int32) := (f_X12_in x0 1 3).bind fun u1 => if u1 = 0 then ((f_X12_in x0 5 7).bind fun u3 => if u3 = 0 then (some 0) else (some (-1))) else (some 1)
set_option maxHeartbeats 4000000 in
set_option maxRecDepth 100000 in
theorem c_X12_stepAcross (l : Launch) (E : Ec) (sz : Nat) (x0 : Int32) (Rv : Int32) (h : f_X12_stepAcross x0 = some Rv) : Met l yX12_stepAcross (wsM (.code yX12_stepAcross cX12_stepAcross 1 (some .int))) ({ frames := 1, cells := 0, slots := 0, locals := 22 } : Room) (va_Pc [.int x0] (ctP E ([]) sz)) (ctI E ([]) ([]) sz Rv) 0 0 (va_A ([]) sz) := by
  refine ct_metI (by decide) (Nat.le_of_ble_eq_true rfl) ?_
  intro p e s m ar below meth c A QM hx hb hml hown hg X hP hD hS RET ls hl
  have hown : s.vm.findClass RX12 = some m.cls := hown
  have hl : lv_has ls 1 [(0, .int x0)] := hl
  have RT : ∀ (v : Int32) (H : Heap) (locs : List Loc) (ls : Array Slot) (pc : Nat), some v = some Rv → narrow .int (.int v) = .int v → va_P E.1 vwCl ([]) H → va_D A ([]) → va_S A s.heap H locs → decode cX12_stepAcross pc = .ok (.ireturn, 1) → W p l e ({ frames := 1, cells := 0, slots := 0, locals := 22 } : Room) s m ar below meth c H locs 0 0 QM (F0 m pc ls [.int v]) := by
    intro v H locs ls pc e hn hP hD hS d
    obtain rfl := sm_e e
    exact RET H locs pc ls hn hP hD hS d
  clear RET
  obtain ⟨H, eH⟩ : ∃ z, z = s.heap := ⟨_, rfl⟩
  rw [← eH]
  have hP : va_P E.1 vwCl ([]) H := by rw [eH]; exact hP
  have hS : va_S A s.heap H [] := by rw [eH]; exact hS
  clear eH
  obtain ⟨locs, el⟩ : ∃ z : List Loc, z = [] := ⟨_, rfl⟩
  rw [← el] at hS ⊢
  clear el
  refine lv_iload_n hx hb dX12_stepAcross_0 rfl (lv_at hl 0 rfl) ?_
  refine lv_iconst (v := 1) hx hb dX12_stepAcross_1 (by decide) ?_
  refine lv_iconst (v := 3) hx hb dX12_stepAcross_2 (by decide) ?_
  obtain ⟨u1, hc, h⟩ := bd_el h
  refine ct_iN X hP hD hS (va_runS (As := [.int x0, .int 1, .int 3]) (rest := []) ⟨hx, hb, hml, hown, hg⟩ (c_X12_in l E  H.size x0 1 3 u1 hc) (va_cwS 3 hg (gwS wm_X12_110 wst_X12_in wini_X12 wco_X12_in) rfl rfl rfl (by decide +kernel) ⟨Nat.le_of_ble_eq_true rfl, Nat.le_of_ble_eq_true rfl⟩) ⟨ct_blind, ct_preN X hS _⟩ rfl rfl hl.1 rfl (lv_room (Nat.le_of_ble_eq_true rfl)) dX12_stepAcross_3 ⟨Nat.zero_le _, Nat.zero_le _⟩) (fun H locs hP hD hS => ?_)
  refine lv_if_eq (tgt := 13) hx hb dX12_stepAcross_6 (by decide) (fun c2 => ?_) (fun c2 => ?_)
  · have h := it_t h c2
    refine lv_iload_n hx hb dX12_stepAcross_13 rfl (lv_at hl 0 rfl) ?_
    refine lv_iconst (v := 5) hx hb dX12_stepAcross_14 (by decide) ?_
    refine lv_bipush (v := 7) hx hb dX12_stepAcross_15 (by decide) ?_
    obtain ⟨u3, hc, h⟩ := bd_el h
    refine ct_iN X hP hD hS (va_runS (As := [.int x0, .int 5, .int 7]) (rest := []) ⟨hx, hb, hml, hown, hg⟩ (c_X12_in l E  H.size x0 5 7 u3 hc) (va_cwS 3 hg (gwS wm_X12_110 wst_X12_in wini_X12 wco_X12_in) rfl rfl rfl (by decide +kernel) ⟨Nat.le_of_ble_eq_true rfl, Nat.le_of_ble_eq_true rfl⟩) ⟨ct_blind, ct_preN X hS _⟩ rfl rfl hl.1 rfl (lv_room (Nat.le_of_ble_eq_true rfl)) dX12_stepAcross_17 ⟨Nat.zero_le _, Nat.zero_le _⟩) (fun H locs hP hD hS => ?_)
    refine lv_if_eq (tgt := 27) hx hb dX12_stepAcross_20 (by decide) (fun c4 => ?_) (fun c4 => ?_)
    · have h := it_t h c4
      refine lv_iconst (v := 0) hx hb dX12_stepAcross_27 (by decide) ?_
      exact RT 0 _ _ _ _ h rfl hP hD hS dX12_stepAcross_28
    · have h := it_f h c4
      refine lv_iconst (v := (-1)) hx hb dX12_stepAcross_23 (by decide) ?_
      refine lv_goto (tgt := 28) hx hb dX12_stepAcross_24 (by decide) ?_
      exact RT (-1) _ _ _ _ h rfl hP hD hS dX12_stepAcross_28
  · have h := it_f h c2
    refine lv_iconst (v := 1) hx hb dX12_stepAcross_9 (by decide) ?_
    refine lv_goto (tgt := 28) hx hb dX12_stepAcross_10 (by decide) ?_
    exact RT 1 _ _ _ _ h rfl hP hD hS dX12_stepAcross_28
theorem dX12_stepAlong_0 : decode cX12_stepAlong 0 = .ok (.iload_n 0, 1) := by decide +kernel
theorem dX12_stepAlong_1 : decode cX12_stepAlong 1 = .ok (.iconst 3, 1) := by decide +kernel
theorem dX12_stepAlong_2 : decode cX12_stepAlong 2 = .ok (.iconst 5, 1) := by decide +kernel
theorem dX12_stepAlong_3 : decode cX12_stepAlong 3 = .ok (.invokestatic 110, 3) := by decide +kernel
theorem dX12_stepAlong_6 : decode cX12_stepAlong 6 = .ok (.ifCond .eq 7, 3) := by decide +kernel
theorem dX12_stepAlong_9 : decode cX12_stepAlong 9 = .ok (.iconst 1, 1) := by decide +kernel
theorem dX12_stepAlong_10 : decode cX12_stepAlong 10 = .ok (.goto 23, 3) := by decide +kernel
theorem dX12_stepAlong_13 : decode cX12_stepAlong 13 = .ok (.iload_n 0, 1) := by decide +kernel
theorem dX12_stepAlong_14 : decode cX12_stepAlong 14 = .ok (.ifCond .eq 14, 3) := by decide +kernel
theorem dX12_stepAlong_17 : decode cX12_stepAlong 17 = .ok (.iload_n 0, 1) := by decide +kernel
theorem dX12_stepAlong_18 : decode cX12_stepAlong 18 = .ok (.iconst 1, 1) := by decide +kernel
theorem dX12_stepAlong_19 : decode cX12_stepAlong 19 = .ok (.if_icmp .eq 9, 3) := by decide +kernel
theorem dX12_stepAlong_22 : decode cX12_stepAlong 22 = .ok (.iload_n 0, 1) := by decide +kernel
theorem dX12_stepAlong_23 : decode cX12_stepAlong 23 = .ok (.bipush 7, 2) := by decide +kernel
theorem dX12_stepAlong_25 : decode cX12_stepAlong 25 = .ok (.if_icmp .ne 7, 3) := by decide +kernel
theorem dX12_stepAlong_28 : decode cX12_stepAlong 28 = .ok (.iconst (-1), 1) := by decide +kernel
theorem dX12_stepAlong_29 : decode cX12_stepAlong 29 = .ok (.goto 4, 3) := by decide +kernel
theorem dX12_stepAlong_32 : decode cX12_stepAlong 32 = .ok (.iconst 0, 1) := by decide +kernel
theorem dX12_stepAlong_33 : decode cX12_stepAlong 33 = .ok (.ireturn, 1) := by decide +kernel
def f_X12_stepAlong (x0 : Int32) : Option (Int32) := (f_X12_in x0 3 5).bind fun u1 => if u1 = 0 then (if x0 = 0 then (some (-1)) else (if x0 = 1 then (some (-1)) else (if x0 = 7 then (some (-1)) else (some 0)))) else (some 1)
set_option maxHeartbeats 4000000 in
set_option maxRecDepth 100000 in
theorem c_X12_stepAlong (l : Launch) (E : Ec) (sz : Nat) (x0 : Int32) (Rv : Int32) (h : f_X12_stepAlong x0 = some Rv) : Met l yX12_stepAlong (wsM (.code yX12_stepAlong cX12_stepAlong 1 (some .int))) ({ frames := 1, cells := 0, slots := 0, locals := 22 } : Room) (va_Pc [.int x0] (ctP E ([]) sz)) (ctI E ([]) ([]) sz Rv) 0 0 (va_A ([]) sz) := by
  refine ct_metI (by decide) (Nat.le_of_ble_eq_true rfl) ?_
  intro p e s m ar below meth c A QM hx hb hml hown hg X hP hD hS RET ls hl
  have hown : s.vm.findClass RX12 = some m.cls := hown
  have hl : lv_has ls 1 [(0, .int x0)] := hl
  have RT : ∀ (v : Int32) (H : Heap) (locs : List Loc) (ls : Array Slot) (pc : Nat), some v = some Rv → narrow .int (.int v) = .int v → va_P E.1 vwCl ([]) H → va_D A ([]) → va_S A s.heap H locs → decode cX12_stepAlong pc = .ok (.ireturn, 1) → W p l e ({ frames := 1, cells := 0, slots := 0, locals := 22 } : Room) s m ar below meth c H locs 0 0 QM (F0 m pc ls [.int v]) := by
    intro v H locs ls pc e hn hP hD hS d
    obtain rfl := sm_e e
    exact RET H locs pc ls hn hP hD hS d
  clear RET
  obtain ⟨H, eH⟩ : ∃ z, z = s.heap := ⟨_, rfl⟩
  rw [← eH]
  have hP : va_P E.1 vwCl ([]) H := by rw [eH]; exact hP
  have hS : va_S A s.heap H [] := by rw [eH]; exact hS
  clear eH
  obtain ⟨locs, el⟩ : ∃ z : List Loc, z = [] := ⟨_, rfl⟩
  rw [← el] at hS ⊢
  clear el
  refine lv_iload_n hx hb dX12_stepAlong_0 rfl (lv_at hl 0 rfl) ?_
  refine lv_iconst (v := 3) hx hb dX12_stepAlong_1 (by decide) ?_
  refine lv_iconst (v := 5) hx hb dX12_stepAlong_2 (by decide) ?_
  obtain ⟨u1, hc, h⟩ := bd_el h
  refine ct_iN X hP hD hS (va_runS (As := [.int x0, .int 3, .int 5]) (rest := []) ⟨hx, hb, hml, hown, hg⟩ (c_X12_in l E  H.size x0 3 5 u1 hc) (va_cwS 3 hg (gwS wm_X12_110 wst_X12_in wini_X12 wco_X12_in) rfl rfl rfl (by decide +kernel) ⟨Nat.le_of_ble_eq_true rfl, Nat.le_of_ble_eq_true rfl⟩) ⟨ct_blind, ct_preN X hS _⟩ rfl rfl hl.1 rfl (lv_room (Nat.le_of_ble_eq_true rfl)) dX12_stepAlong_3 ⟨Nat.zero_le _, Nat.zero_le _⟩) (fun H locs hP hD hS => ?_)
  refine lv_if_eq (tgt := 13) hx hb dX12_stepAlong_6 (by decide) (fun c2 => ?_) (fun c2 => ?_)
  · have h := it_t h c2
    refine lv_iload_n hx hb dX12_stepAlong_13 rfl (lv_at hl 0 rfl) ?_
    refine lv_if_eq (tgt := 28) hx hb dX12_stepAlong_14 (by decide) (fun c3 => ?_) (fun c3 => ?_)
    · have h := it_t h c3
      refine lv_iconst (v := (-1)) hx hb dX12_stepAlong_28 (by decide) ?_
      refine lv_goto (tgt := 33) hx hb dX12_stepAlong_29 (by decide) ?_
      exact RT (-1) _ _ _ _ h rfl hP hD hS dX12_stepAlong_33
    · have h := it_f h c3
      refine lv_iload_n hx hb dX12_stepAlong_17 rfl (lv_at hl 0 rfl) ?_
      refine lv_iconst (v := 1) hx hb dX12_stepAlong_18 (by decide) ?_
      refine lv_icmp_eq (tgt := 28) hx hb dX12_stepAlong_19 (by decide) (fun c4 => ?_) (fun c4 => ?_)
      · have h := it_t h c4
        refine lv_iconst (v := (-1)) hx hb dX12_stepAlong_28 (by decide) ?_
        refine lv_goto (tgt := 33) hx hb dX12_stepAlong_29 (by decide) ?_
        exact RT (-1) _ _ _ _ h rfl hP hD hS dX12_stepAlong_33
      · have h := it_f h c4
        refine lv_iload_n hx hb dX12_stepAlong_22 rfl (lv_at hl 0 rfl) ?_
        refine lv_bipush (v := 7) hx hb dX12_stepAlong_23 (by decide) ?_
        refine lv_icmp_ne (tgt := 32) hx hb dX12_stepAlong_25 (by decide) (fun c5 => ?_) (fun c5 => ?_)
        · have h := it_f h c5
          refine lv_iconst (v := 0) hx hb dX12_stepAlong_32 (by decide) ?_
          exact RT 0 _ _ _ _ h rfl hP hD hS dX12_stepAlong_33
        · have h := it_t h c5
          refine lv_iconst (v := (-1)) hx hb dX12_stepAlong_28 (by decide) ?_
          refine lv_goto (tgt := 33) hx hb dX12_stepAlong_29 (by decide) ?_
          exact RT (-1) _ _ _ _ h rfl hP hD hS dX12_stepAlong_33
  · have h := it_f h c2
    refine lv_iconst (v := 1) hx hb dX12_stepAlong_9 (by decide) ?_
    refine lv_goto (tgt := 33) hx hb dX12_stepAlong_10 (by decide) ?_
    exact RT 1 _ _ _ _ h rfl hP hD hS dX12_stepAlong_33
theorem dX12_stepOn_0 : decode cX12_stepOn 0 = .ok (.iload_n 0, 1) := by decide +kernel
theorem dX12_stepOn_1 : decode cX12_stepOn 1 = .ok (.bipush 24, 2) := by decide +kernel
theorem dX12_stepOn_3 : decode cX12_stepOn 3 = .ok (.irem, 1) := by decide +kernel
theorem dX12_stepOn_4 : decode cX12_stepOn 4 = .ok (.iload_n 1, 1) := by decide +kernel
theorem dX12_stepOn_5 : decode cX12_stepOn 5 = .ok (.invokestatic 133, 3) := by decide +kernel
theorem dX12_stepOn_8 : decode cX12_stepOn 8 = .ok (.iadd, 1) := by decide +kernel
theorem dX12_stepOn_9 : decode cX12_stepOn 9 = .ok (.istore_n 2, 1) := by decide +kernel
theorem dX12_stepOn_10 : decode cX12_stepOn 10 = .ok (.iload_n 0, 1) := by decide +kernel
theorem dX12_stepOn_11 : decode cX12_stepOn 11 = .ok (.bipush 24, 2) := by decide +kernel
theorem dX12_stepOn_13 : decode cX12_stepOn 13 = .ok (.idiv, 1) := by decide +kernel
theorem dX12_stepOn_14 : decode cX12_stepOn 14 = .ok (.iload_n 1, 1) := by decide +kernel
theorem dX12_stepOn_15 : decode cX12_stepOn 15 = .ok (.invokestatic 136, 3) := by decide +kernel
theorem dX12_stepOn_18 : decode cX12_stepOn 18 = .ok (.iadd, 1) := by decide +kernel
theorem dX12_stepOn_19 : decode cX12_stepOn 19 = .ok (.istore_n 3, 1) := by decide +kernel
theorem dX12_stepOn_20 : decode cX12_stepOn 20 = .ok (.iload_n 2, 1) := by decide +kernel
theorem dX12_stepOn_21 : decode cX12_stepOn 21 = .ok (.iconst 0, 1) := by decide +kernel
theorem dX12_stepOn_22 : decode cX12_stepOn 22 = .ok (.bipush 23, 2) := by decide +kernel
theorem dX12_stepOn_24 : decode cX12_stepOn 24 = .ok (.invokestatic 110, 3) := by decide +kernel
theorem dX12_stepOn_27 : decode cX12_stepOn 27 = .ok (.ifCond .eq 22, 3) := by decide +kernel
theorem dX12_stepOn_30 : decode cX12_stepOn 30 = .ok (.iload_n 3, 1) := by decide +kernel
theorem dX12_stepOn_31 : decode cX12_stepOn 31 = .ok (.iconst 0, 1) := by decide +kernel
theorem dX12_stepOn_32 : decode cX12_stepOn 32 = .ok (.bipush 15, 2) := by decide +kernel
theorem dX12_stepOn_34 : decode cX12_stepOn 34 = .ok (.invokestatic 110, 3) := by decide +kernel
theorem dX12_stepOn_37 : decode cX12_stepOn 37 = .ok (.ifCond .eq 12, 3) := by decide +kernel
theorem dX12_stepOn_40 : decode cX12_stepOn 40 = .ok (.bipush 24, 2) := by decide +kernel
theorem dX12_stepOn_42 : decode cX12_stepOn 42 = .ok (.iload_n 3, 1) := by decide +kernel
theorem dX12_stepOn_43 : decode cX12_stepOn 43 = .ok (.imul, 1) := by decide +kernel
theorem dX12_stepOn_44 : decode cX12_stepOn 44 = .ok (.iload_n 2, 1) := by decide +kernel
theorem dX12_stepOn_45 : decode cX12_stepOn 45 = .ok (.iadd, 1) := by decide +kernel
theorem dX12_stepOn_46 : decode cX12_stepOn 46 = .ok (.goto 4, 3) := by decide +kernel
theorem dX12_stepOn_49 : decode cX12_stepOn 49 = .ok (.iconst (-1), 1) := by decide +kernel
theorem dX12_stepOn_50 : decode cX12_stepOn 50 = .ok (.ireturn, 1) := by decide +kernel
def f_X12_stepOn (x0 : Int32) (x1 : Int32) : Option (Int32) := lt' (x0 - x0 / 24 * 24) fun v1 => (f_X12_stepAcross x1).bind fun u2 => lt' ((v1 + u2)) fun v3 => lt' (x0 / 24) fun v4 => (f_X12_stepAlong x1).bind fun u5 => lt' ((v4 + u5)) fun v6 => (f_X12_in v3 0 23).bind fun u7 => if u7 = 0 then (some (-1)) else ((f_X12_in v6 0 15).bind fun u9 => if u9 = 0 then (some (-1)) else (some ((24 * v6) + v3)))
set_option maxHeartbeats 4000000 in
set_option maxRecDepth 100000 in
theorem c_X12_stepOn (l : Launch) (E : Ec) (sz : Nat) (x0 : Int32) (x1 : Int32) (Rv : Int32) (h : f_X12_stepOn x0 x1 = some Rv) : Met l yX12_stepOn (wsM (.code yX12_stepOn cX12_stepOn 4 (some .int))) ({ frames := 2, cells := 0, slots := 0, locals := 42 } : Room) (va_Pc [.int x0, .int x1] (ctP E ([]) sz)) (ctI E ([]) ([]) sz Rv) 0 0 (va_A ([]) sz) := by
  refine ct_metI (by decide) (Nat.le_of_ble_eq_true rfl) ?_
  intro p e s m ar below meth c A QM hx hb hml hown hg X hP hD hS RET ls hl
  have hown : s.vm.findClass RX12 = some m.cls := hown
  have hl : lv_has ls 4 [(0, .int x0), (1, .int x1)] := hl
  have RT : ∀ (v : Int32) (H : Heap) (locs : List Loc) (ls : Array Slot) (pc : Nat), some v = some Rv → narrow .int (.int v) = .int v → va_P E.1 vwCl ([]) H → va_D A ([]) → va_S A s.heap H locs → decode cX12_stepOn pc = .ok (.ireturn, 1) → W p l e ({ frames := 2, cells := 0, slots := 0, locals := 42 } : Room) s m ar below meth c H locs 0 0 QM (F0 m pc ls [.int v]) := by
    intro v H locs ls pc e hn hP hD hS d
    obtain rfl := sm_e e
    exact RET H locs pc ls hn hP hD hS d
  clear RET
  obtain ⟨H, eH⟩ : ∃ z, z = s.heap := ⟨_, rfl⟩
  rw [← eH]
  have hP : va_P E.1 vwCl ([]) H := by rw [eH]; exact hP
  have hS : va_S A s.heap H [] := by rw [eH]; exact hS
  clear eH
  obtain ⟨locs, el⟩ : ∃ z : List Loc, z = [] := ⟨_, rfl⟩
  rw [← el] at hS ⊢
  clear el
  refine lv_iload_n hx hb dX12_stepOn_0 rfl (lv_at hl 0 rfl) ?_
  refine lv_bipush (v := 24) hx hb dX12_stepOn_1 (by decide) ?_
  refine lv_irem hx hb dX12_stepOn_3 (by decide) ?_
  obtain ⟨v1, ev1, h⟩ := lt_el h
  refine lv_top' ev1 ?_
  refine lv_iload_n hx hb dX12_stepOn_4 rfl (lv_at hl 1 rfl) ?_
  obtain ⟨u2, hc, h⟩ := bd_el h
  refine ct_iN X hP hD hS (va_runS (As := [.int x1]) (rest := [.int v1]) ⟨hx, hb, hml, hown, hg⟩ (c_X12_stepAcross l E  H.size x1 u2 hc) (va_cwS 1 hg (gwS wm_X12_133 wst_X12_stepAcross wini_X12 wco_X12_stepAcross) rfl rfl rfl (by decide +kernel) ⟨Nat.le_of_ble_eq_true rfl, Nat.le_of_ble_eq_true rfl⟩) ⟨ct_blind, ct_preN X hS _⟩ rfl rfl hl.1 rfl (lv_room (Nat.le_of_ble_eq_true rfl)) dX12_stepOn_5 ⟨Nat.zero_le _, Nat.zero_le _⟩) (fun H locs hP hD hS => ?_)
  refine lv_iadd hx hb dX12_stepOn_8 ?_
  obtain ⟨v3, ev3, h⟩ := lt_el h
  refine lv_top' ev3 ?_
  refine lv_istore_n (lv' := [(2, .int v3), (0, .int x0), (1, .int x1)]) hx hb dX12_stepOn_9 rfl hl (by decide) rfl (fun ls hl => ?_)
  refine lv_iload_n hx hb dX12_stepOn_10 rfl (lv_at hl 1 rfl) ?_
  refine lv_bipush (v := 24) hx hb dX12_stepOn_11 (by decide) ?_
  refine lv_idiv hx hb dX12_stepOn_13 (by decide) ?_
  obtain ⟨v4, ev4, h⟩ := lt_el h
  refine lv_top' ev4 ?_
  refine lv_iload_n hx hb dX12_stepOn_14 rfl (lv_at hl 2 rfl) ?_
  obtain ⟨u5, hc, h⟩ := bd_el h
  refine ct_iN X hP hD hS (va_runS (As := [.int x1]) (rest := [.int v4]) ⟨hx, hb, hml, hown, hg⟩ (c_X12_stepAlong l E  H.size x1 u5 hc) (va_cwS 1 hg (gwS wm_X12_136 wst_X12_stepAlong wini_X12 wco_X12_stepAlong) rfl rfl rfl (by decide +kernel) ⟨Nat.le_of_ble_eq_true rfl, Nat.le_of_ble_eq_true rfl⟩) ⟨ct_blind, ct_preN X hS _⟩ rfl rfl hl.1 rfl (lv_room (Nat.le_of_ble_eq_true rfl)) dX12_stepOn_15 ⟨Nat.zero_le _, Nat.zero_le _⟩) (fun H locs hP hD hS => ?_)
  refine lv_iadd hx hb dX12_stepOn_18 ?_
  obtain ⟨v6, ev6, h⟩ := lt_el h
  refine lv_top' ev6 ?_
  refine lv_istore_n (lv' := [(3, .int v6), (2, .int v3), (0, .int x0), (1, .int x1)]) hx hb dX12_stepOn_19 rfl hl (by decide) rfl (fun ls hl => ?_)
  refine lv_iload_n hx hb dX12_stepOn_20 rfl (lv_at hl 1 rfl) ?_
  refine lv_iconst (v := 0) hx hb dX12_stepOn_21 (by decide) ?_
  refine lv_bipush (v := 23) hx hb dX12_stepOn_22 (by decide) ?_
  obtain ⟨u7, hc, h⟩ := bd_el h
  refine ct_iN X hP hD hS (va_runS (As := [.int v3, .int 0, .int 23]) (rest := []) ⟨hx, hb, hml, hown, hg⟩ (c_X12_in l E  H.size v3 0 23 u7 hc) (va_cwS 3 hg (gwS wm_X12_110 wst_X12_in wini_X12 wco_X12_in) rfl rfl rfl (by decide +kernel) ⟨Nat.le_of_ble_eq_true rfl, Nat.le_of_ble_eq_true rfl⟩) ⟨ct_blind, ct_preN X hS _⟩ rfl rfl hl.1 rfl (lv_room (Nat.le_of_ble_eq_true rfl)) dX12_stepOn_24 ⟨Nat.zero_le _, Nat.zero_le _⟩) (fun H locs hP hD hS => ?_)
  refine lv_if_eq (tgt := 49) hx hb dX12_stepOn_27 (by decide) (fun c8 => ?_) (fun c8 => ?_)
  · have h := it_t h c8
    refine lv_iconst (v := (-1)) hx hb dX12_stepOn_49 (by decide) ?_
    exact RT (-1) _ _ _ _ h rfl hP hD hS dX12_stepOn_50
  · have h := it_f h c8
    refine lv_iload_n hx hb dX12_stepOn_30 rfl (lv_at hl 0 rfl) ?_
    refine lv_iconst (v := 0) hx hb dX12_stepOn_31 (by decide) ?_
    refine lv_bipush (v := 15) hx hb dX12_stepOn_32 (by decide) ?_
    obtain ⟨u9, hc, h⟩ := bd_el h
    refine ct_iN X hP hD hS (va_runS (As := [.int v6, .int 0, .int 15]) (rest := []) ⟨hx, hb, hml, hown, hg⟩ (c_X12_in l E  H.size v6 0 15 u9 hc) (va_cwS 3 hg (gwS wm_X12_110 wst_X12_in wini_X12 wco_X12_in) rfl rfl rfl (by decide +kernel) ⟨Nat.le_of_ble_eq_true rfl, Nat.le_of_ble_eq_true rfl⟩) ⟨ct_blind, ct_preN X hS _⟩ rfl rfl hl.1 rfl (lv_room (Nat.le_of_ble_eq_true rfl)) dX12_stepOn_34 ⟨Nat.zero_le _, Nat.zero_le _⟩) (fun H locs hP hD hS => ?_)
    refine lv_if_eq (tgt := 49) hx hb dX12_stepOn_37 (by decide) (fun c10 => ?_) (fun c10 => ?_)
    · have h := it_t h c10
      refine lv_iconst (v := (-1)) hx hb dX12_stepOn_49 (by decide) ?_
      exact RT (-1) _ _ _ _ h rfl hP hD hS dX12_stepOn_50
    · have h := it_f h c10
      refine lv_bipush (v := 24) hx hb dX12_stepOn_40 (by decide) ?_
      refine lv_iload_n hx hb dX12_stepOn_42 rfl (lv_at hl 0 rfl) ?_
      refine lv_imul hx hb dX12_stepOn_43 ?_
      refine lv_iload_n hx hb dX12_stepOn_44 rfl (lv_at hl 1 rfl) ?_
      refine lv_iadd hx hb dX12_stepOn_45 ?_
      refine lv_goto (tgt := 50) hx hb dX12_stepOn_46 (by decide) ?_
      exact RT ((24 * v6) + v3) _ _ _ _ h rfl hP hD hS dX12_stepOn_50
theorem dX12_isOnWay_0 : decode cX12_isOnWay 0 = .ok (.iload_n 1, 1) := by decide +kernel
theorem dX12_isOnWay_1 : decode cX12_isOnWay 1 = .ok (.iload_n 2, 1) := by decide +kernel
theorem dX12_isOnWay_2 : decode cX12_isOnWay 2 = .ok (.invokestatic 285, 3) := by decide +kernel
theorem dX12_isOnWay_5 : decode cX12_isOnWay 5 = .ok (.istore 4, 2) := by decide +kernel
theorem dX12_isOnWay_7 : decode cX12_isOnWay 7 = .ok (.iload 4, 2) := by decide +kernel
theorem dX12_isOnWay_9 : decode cX12_isOnWay 9 = .ok (.iconst (-1), 1) := by decide +kernel
theorem dX12_isOnWay_10 : decode cX12_isOnWay 10 = .ok (.if_icmp .eq 20, 3) := by decide +kernel
theorem dX12_isOnWay_13 : decode cX12_isOnWay 13 = .ok (.iload 4, 2) := by decide +kernel
theorem dX12_isOnWay_15 : decode cX12_isOnWay 15 = .ok (.iload_n 3, 1) := by decide +kernel
theorem dX12_isOnWay_16 : decode cX12_isOnWay 16 = .ok (.if_icmp .eq 14, 3) := by decide +kernel
theorem dX12_isOnWay_19 : decode cX12_isOnWay 19 = .ok (.iload 4, 2) := by decide +kernel
theorem dX12_isOnWay_21 : decode cX12_isOnWay 21 = .ok (.iload_n 2, 1) := by decide +kernel
theorem dX12_isOnWay_22 : decode cX12_isOnWay 22 = .ok (.invokestatic 285, 3) := by decide +kernel
theorem dX12_isOnWay_25 : decode cX12_isOnWay 25 = .ok (.istore 4, 2) := by decide +kernel
theorem dX12_isOnWay_27 : decode cX12_isOnWay 27 = .ok (.goto (-20), 3) := by decide +kernel
theorem dX12_isOnWay_30 : decode cX12_isOnWay 30 = .ok (.iload 4, 2) := by decide +kernel
theorem dX12_isOnWay_32 : decode cX12_isOnWay 32 = .ok (.iload_n 3, 1) := by decide +kernel
theorem dX12_isOnWay_33 : decode cX12_isOnWay 33 = .ok (.if_icmp .ne 7, 3) := by decide +kernel
theorem dX12_isOnWay_36 : decode cX12_isOnWay 36 = .ok (.iconst 1, 1) := by decide +kernel
theorem dX12_isOnWay_37 : decode cX12_isOnWay 37 = .ok (.goto 4, 3) := by decide +kernel
theorem dX12_isOnWay_40 : decode cX12_isOnWay 40 = .ok (.iconst 0, 1) := by decide +kernel
theorem dX12_isOnWay_41 : decode cX12_isOnWay 41 = .ok (.ireturn, 1) := by decide +kernel
def f_X12_isOnWay_n7 (S0 : Gr) (x1 : Int32) (x2 : Int32) (x3 : Int32) : Nat → Int32 → Option (Int32)
  | 0, _ => none
  | n + 1, x4 => if x4 = (-1) then (if x4 = x3 then (some 1) else (some 0)) else (if x4 = x3 then (if x4 = x3 then (some 1) else (some 0)) else ((f_X12_stepOn x4 x2).bind fun u6 => f_X12_isOnWay_n7 S0 x1 x2 x3 n u6))
def f_X12_isOnWay (S0 : Gr) (x1 : Int32) (x2 : Int32) (x3 : Int32) : Option (Int32) := (f_X12_stepOn x1 x2).bind fun u1 => f_X12_isOnWay_n7 S0 x1 x2 x3 fu u1
set_option maxHeartbeats 4000000 in
set_option maxRecDepth 100000 in
theorem c_X12_isOnWay (l : Launch) (E : Ec) (q0 : Nat → Nat) (sz : Nat) (S0 : Gr) (x1 : Int32) (x2 : Int32) (x3 : Int32) (Rv : Int32) (h : f_X12_isOnWay S0 x1 x2 x3 = some Rv) : Met l yX12_isOnWay (wsM (.code yX12_isOnWay cX12_isOnWay 5 (some .boolean))) ({ frames := 3, cells := 0, slots := 0, locals := 65 } : Room) (va_Pc [.ref (q0 0), .int x1, .int x2, .int x3] (ctP E (cw_X12 E q0 S0) sz)) (ctI E (cw_X12 E q0 S0) (cw_X12 E q0 S0) sz Rv) 0 0 (va_A (cw_X12 E q0 S0) sz) := by
  refine ct_metI (by decide) (Nat.le_of_ble_eq_true rfl) ?_
  intro p e s m ar below meth c A QM hx hb hml hown hg X hP hD hS RET ls hl
  have hown : s.vm.findClass RX12 = some m.cls := hown
  have hl : lv_has ls 5 [(0, .ref (q0 0)), (1, .int x1), (2, .int x2), (3, .int x3)] := hl
  have RT : ∀ (v : Int32) (H : Heap) (locs : List Loc) (ls : Array Slot) (pc : Nat), some v = some Rv → narrow .boolean (.int v) = .int v → va_P E.1 vwCl (cw_X12 E q0 S0) H → va_D A (cw_X12 E q0 S0) → va_S A s.heap H locs → decode cX12_isOnWay pc = .ok (.ireturn, 1) → W p l e ({ frames := 3, cells := 0, slots := 0, locals := 65 } : Room) s m ar below meth c H locs 0 0 QM (F0 m pc ls [.int v]) := by
    intro v H locs ls pc e hn hP hD hS d
    obtain rfl := sm_e e
    exact RET H locs pc ls hn hP hD hS d
  clear RET
  have N7 : ∀ (n : Nat) (x4 : Int32) (H : Heap) (locs : List Loc) (ls : Array Slot), f_X12_isOnWay_n7 S0 x1 x2 x3 n x4 = some Rv → va_P E.1 vwCl (cw_X12 E q0 S0) H → va_D A (cw_X12 E q0 S0) → va_S A s.heap H locs → lv_has ls 5 [(2, .int x2), (3, .int x3), (4, .int x4)] → W p l e ({ frames := 3, cells := 0, slots := 0, locals := 65 } : Room) s m ar below meth c H locs 0 0 QM (F0 m 7 ls []) := by
    intro n
    induction n with
    | zero => intro x4 H locs ls h; exact nn_el h
    | succ n ih =>
      intro x4 H locs ls h hP hD hS hl
      refine lv_iload hx hb dX12_isOnWay_7 (lv_at hl 2 rfl) ?_
      refine lv_iconst (v := (-1)) hx hb dX12_isOnWay_9 (by decide) ?_
      refine lv_icmp_eq (tgt := 30) hx hb dX12_isOnWay_10 (by decide) (fun c2 => ?_) (fun c2 => ?_)
      · have h := it_t h c2
        refine lv_iload hx hb dX12_isOnWay_30 (lv_at hl 2 rfl) ?_
        refine lv_iload_n hx hb dX12_isOnWay_32 rfl (lv_at hl 1 rfl) ?_
        refine lv_icmp_ne (tgt := 40) hx hb dX12_isOnWay_33 (by decide) (fun c3 => ?_) (fun c3 => ?_)
        · have h := it_f h c3
          refine lv_iconst (v := 0) hx hb dX12_isOnWay_40 (by decide) ?_
          exact RT 0 _ _ _ _ h (by decide +kernel) hP hD hS dX12_isOnWay_41
        · have h := it_t h c3
          refine lv_iconst (v := 1) hx hb dX12_isOnWay_36 (by decide) ?_
          refine lv_goto (tgt := 41) hx hb dX12_isOnWay_37 (by decide) ?_
          exact RT 1 _ _ _ _ h (by decide +kernel) hP hD hS dX12_isOnWay_41
      · have h := it_f h c2
        refine lv_iload hx hb dX12_isOnWay_13 (lv_at hl 2 rfl) ?_
        refine lv_iload_n hx hb dX12_isOnWay_15 rfl (lv_at hl 1 rfl) ?_
        refine lv_icmp_eq (tgt := 30) hx hb dX12_isOnWay_16 (by decide) (fun c4 => ?_) (fun c4 => ?_)
        · have h := it_t h c4
          refine lv_iload hx hb dX12_isOnWay_30 (lv_at hl 2 rfl) ?_
          refine lv_iload_n hx hb dX12_isOnWay_32 rfl (lv_at hl 1 rfl) ?_
          refine lv_icmp_ne (tgt := 40) hx hb dX12_isOnWay_33 (by decide) (fun c5 => ?_) (fun c5 => ?_)
          · have h := it_f h c5
            refine lv_iconst (v := 0) hx hb dX12_isOnWay_40 (by decide) ?_
            exact RT 0 _ _ _ _ h (by decide +kernel) hP hD hS dX12_isOnWay_41
          · have h := it_t h c5
            refine lv_iconst (v := 1) hx hb dX12_isOnWay_36 (by decide) ?_
            refine lv_goto (tgt := 41) hx hb dX12_isOnWay_37 (by decide) ?_
            exact RT 1 _ _ _ _ h (by decide +kernel) hP hD hS dX12_isOnWay_41
        · have h := it_f h c4
          refine lv_iload hx hb dX12_isOnWay_19 (lv_at hl 2 rfl) ?_
          refine lv_iload_n hx hb dX12_isOnWay_21 rfl (lv_at hl 0 rfl) ?_
          obtain ⟨u6, hc, h⟩ := bd_el h
          refine ct_iN X hP hD hS (va_runS (As := [.int x4, .int x2]) (rest := []) ⟨hx, hb, hml, hown, hg⟩ (c_X12_stepOn l E  H.size x4 x2 u6 hc) (va_cwS 2 hg (gwS wm_X12_285 wst_X12_stepOn wini_X12 wco_X12_stepOn) rfl rfl rfl (by decide +kernel) ⟨Nat.le_of_ble_eq_true rfl, Nat.le_of_ble_eq_true rfl⟩) ⟨ct_blind, ct_preN X hS _⟩ rfl rfl hl.1 rfl (lv_room (Nat.le_of_ble_eq_true rfl)) dX12_isOnWay_22 ⟨Nat.zero_le _, Nat.zero_le _⟩) (fun H locs hP hD hS => ?_)
          refine lv_istore (lv' := [(4, .int u6), (2, .int x2), (3, .int x3)]) hx hb dX12_isOnWay_25 hl (by decide) rfl (fun ls hl => ?_)
          refine lv_goto (tgt := 7) hx hb dX12_isOnWay_27 (by decide) ?_
          exact ih u6 _ _ _ h hP hD hS (lv_sub hl [1, 2, 0] rfl)
  obtain ⟨H, eH⟩ : ∃ z, z = s.heap := ⟨_, rfl⟩
  rw [← eH]
  have hP : va_P E.1 vwCl (cw_X12 E q0 S0) H := by rw [eH]; exact hP
  have hS : va_S A s.heap H [] := by rw [eH]; exact hS
  clear eH
  obtain ⟨locs, el⟩ : ∃ z : List Loc, z = [] := ⟨_, rfl⟩
  rw [← el] at hS ⊢
  clear el
  refine lv_iload_n hx hb dX12_isOnWay_0 rfl (lv_at hl 1 rfl) ?_
  refine lv_iload_n hx hb dX12_isOnWay_1 rfl (lv_at hl 2 rfl) ?_
  obtain ⟨u1, hc, h⟩ := bd_el h
  refine ct_iN X hP hD hS (va_runS (As := [.int x1, .int x2]) (rest := []) ⟨hx, hb, hml, hown, hg⟩ (c_X12_stepOn l E  H.size x1 x2 u1 hc) (va_cwS 2 hg (gwS wm_X12_285 wst_X12_stepOn wini_X12 wco_X12_stepOn) rfl rfl rfl (by decide +kernel) ⟨Nat.le_of_ble_eq_true rfl, Nat.le_of_ble_eq_true rfl⟩) ⟨ct_blind, ct_preN X hS _⟩ rfl rfl hl.1 rfl (lv_room (Nat.le_of_ble_eq_true rfl)) dX12_isOnWay_2 ⟨Nat.zero_le _, Nat.zero_le _⟩) (fun H locs hP hD hS => ?_)
  refine lv_istore (lv' := [(4, .int u1), (0, .ref (q0 0)), (1, .int x1), (2, .int x2), (3, .int x3)]) hx hb dX12_isOnWay_5 hl (by decide) rfl (fun ls hl => ?_)
  exact N7 fu u1 _ _ _ h hP hD hS (lv_sub hl [3, 4, 0] rfl)
theorem dX12_isWeb_0 : decode cX12_isWeb 0 = .ok (.iload_n 1, 1) := by decide +kernel
theorem dX12_isWeb_1 : decode cX12_isWeb 1 = .ok (.iconst 0, 1) := by decide +kernel
theorem dX12_isWeb_2 : decode cX12_isWeb 2 = .ok (.bipush 7, 2) := by decide +kernel
theorem dX12_isWeb_4 : decode cX12_isWeb 4 = .ok (.invokestatic 110, 3) := by decide +kernel
theorem dX12_isWeb_7 : decode cX12_isWeb 7 = .ok (.ifCond .eq 18, 3) := by decide +kernel
theorem dX12_isWeb_10 : decode cX12_isWeb 10 = .ok (.aload_n 0, 1) := by decide +kernel
theorem dX12_isWeb_11 : decode cX12_isWeb 11 = .ok (.getfield 114, 3) := by decide +kernel
theorem dX12_isWeb_14 : decode cX12_isWeb 14 = .ok (.iload_n 1, 1) := by decide +kernel
theorem dX12_isWeb_15 : decode cX12_isWeb 15 = .ok (.invokestatic 118, 3) := by decide +kernel
theorem dX12_isWeb_18 : decode cX12_isWeb 18 = .ok (.ifCond .eq 7, 3) := by decide +kernel
theorem dX12_isWeb_21 : decode cX12_isWeb 21 = .ok (.iconst 1, 1) := by decide +kernel
theorem dX12_isWeb_22 : decode cX12_isWeb 22 = .ok (.goto 4, 3) := by decide +kernel
theorem dX12_isWeb_25 : decode cX12_isWeb 25 = .ok (.iconst 0, 1) := by decide +kernel
theorem dX12_isWeb_26 : decode cX12_isWeb 26 = .ok (.ireturn, 1) := by decide +kernel
def f_X12_isWeb (S0 : Gr) (x1 : Int32) : Option (Int32) := (f_X12_in x1 0 7).bind fun u1 => if u1 = 0 then (some 0) else ((f_X12_has (S0.1 5) x1).bind fun u3 => if u3 = 0 then (some 0) else (some 1))
set_option maxHeartbeats 4000000 in
set_option maxRecDepth 100000 in
theorem c_X12_isWeb (l : Launch) (E : Ec) (q0 : Nat → Nat) (sz : Nat) (S0 : Gr) (x1 : Int32) (Rv : Int32) (h : f_X12_isWeb S0 x1 = some Rv) : Met l yX12_isWeb (wsM (.code yX12_isWeb cX12_isWeb 2 (some .boolean))) ({ frames := 1, cells := 0, slots := 0, locals := 22 } : Room) (va_Pc [.ref (q0 0), .int x1] (ctP E (cw_X12 E q0 S0) sz)) (ctI E (cw_X12 E q0 S0) (cw_X12 E q0 S0) sz Rv) 0 0 (va_A (cw_X12 E q0 S0) sz) := by
  refine ct_metI (by decide) (Nat.le_of_ble_eq_true rfl) ?_
  intro p e s m ar below meth c A QM hx hb hml hown hg X hP hD hS RET ls hl
  have hown : s.vm.findClass RX12 = some m.cls := hown
  have hl : lv_has ls 2 [(0, .ref (q0 0)), (1, .int x1)] := hl
  have RT : ∀ (v : Int32) (H : Heap) (locs : List Loc) (ls : Array Slot) (pc : Nat), some v = some Rv → narrow .boolean (.int v) = .int v → va_P E.1 vwCl (cw_X12 E q0 S0) H → va_D A (cw_X12 E q0 S0) → va_S A s.heap H locs → decode cX12_isWeb pc = .ok (.ireturn, 1) → W p l e ({ frames := 1, cells := 0, slots := 0, locals := 22 } : Room) s m ar below meth c H locs 0 0 QM (F0 m pc ls [.int v]) := by
    intro v H locs ls pc e hn hP hD hS d
    obtain rfl := sm_e e
    exact RET H locs pc ls hn hP hD hS d
  clear RET
  obtain ⟨H, eH⟩ : ∃ z, z = s.heap := ⟨_, rfl⟩
  rw [← eH]
  have hP : va_P E.1 vwCl (cw_X12 E q0 S0) H := by rw [eH]; exact hP
  have hS : va_S A s.heap H [] := by rw [eH]; exact hS
  clear eH
  obtain ⟨locs, el⟩ : ∃ z : List Loc, z = [] := ⟨_, rfl⟩
  rw [← el] at hS ⊢
  clear el
  refine lv_iload_n hx hb dX12_isWeb_0 rfl (lv_at hl 1 rfl) ?_
  refine lv_iconst (v := 0) hx hb dX12_isWeb_1 (by decide) ?_
  refine lv_bipush (v := 7) hx hb dX12_isWeb_2 (by decide) ?_
  obtain ⟨u1, hc, h⟩ := bd_el h
  refine ct_iN X hP hD hS (va_runS (As := [.int x1, .int 0, .int 7]) (rest := []) ⟨hx, hb, hml, hown, hg⟩ (c_X12_in l E  H.size x1 0 7 u1 hc) (va_cwS 3 hg (gwS wm_X12_110 wst_X12_in wini_X12 wco_X12_in) rfl rfl rfl (by decide +kernel) ⟨Nat.le_of_ble_eq_true rfl, Nat.le_of_ble_eq_true rfl⟩) ⟨ct_blind, ct_preN X hS _⟩ rfl rfl hl.1 rfl (lv_room (Nat.le_of_ble_eq_true rfl)) dX12_isWeb_4 ⟨Nat.zero_le _, Nat.zero_le _⟩) (fun H locs hP hD hS => ?_)
  refine lv_if_eq (tgt := 25) hx hb dX12_isWeb_7 (by decide) (fun c2 => ?_) (fun c2 => ?_)
  · have h := it_t h c2
    refine lv_iconst (v := 0) hx hb dX12_isWeb_25 (by decide) ?_
    exact RT 0 _ _ _ _ h (by decide +kernel) hP hD hS dX12_isWeb_26
  · have h := it_f h c2
    refine lv_aload_n hx hb dX12_isWeb_10 rfl (lv_at hl 0 rfl) ?_
    refine va_get (D := E.1) (ci := 11) (v := .int (S0.1 5)) (C := RX12) (T := TX12) (N := 57) hx hb hg in_X12 hown X.1 hP 0 rfl rfl 5 (by decide) (hg _ wf_X12_114) (fun _ h9 => h9) rfl dX12_isWeb_11 ?_
    refine lv_iload_n hx hb dX12_isWeb_14 rfl (lv_at hl 1 rfl) ?_
    obtain ⟨u3, hc, h⟩ := bd_el h
    refine ct_iN X hP hD hS (va_runS (As := [.int (S0.1 5), .int x1]) (rest := []) ⟨hx, hb, hml, hown, hg⟩ (c_X12_has l E  H.size (S0.1 5) x1 u3 hc) (va_cwS 2 hg (gwS wm_X12_118 wst_X12_has wini_X12 wco_X12_has) rfl rfl rfl (by decide +kernel) ⟨Nat.le_of_ble_eq_true rfl, Nat.le_of_ble_eq_true rfl⟩) ⟨ct_blind, ct_preN X hS _⟩ rfl rfl hl.1 rfl (lv_room (Nat.le_of_ble_eq_true rfl)) dX12_isWeb_15 ⟨Nat.zero_le _, Nat.zero_le _⟩) (fun H locs hP hD hS => ?_)
    refine lv_if_eq (tgt := 25) hx hb dX12_isWeb_18 (by decide) (fun c4 => ?_) (fun c4 => ?_)
    · have h := it_t h c4
      refine lv_iconst (v := 0) hx hb dX12_isWeb_25 (by decide) ?_
      exact RT 0 _ _ _ _ h (by decide +kernel) hP hD hS dX12_isWeb_26
    · have h := it_f h c4
      refine lv_iconst (v := 1) hx hb dX12_isWeb_21 (by decide) ?_
      refine lv_goto (tgt := 26) hx hb dX12_isWeb_22 (by decide) ?_
      exact RT 1 _ _ _ _ h (by decide +kernel) hP hD hS dX12_isWeb_26
theorem dX12_bearings_0 : decode cX12_bearings 0 = .ok (.aload_n 0, 1) := by decide +kernel
theorem dX12_bearings_1 : decode cX12_bearings 1 = .ok (.iload_n 1, 1) := by decide +kernel
theorem dX12_bearings_2 : decode cX12_bearings 2 = .ok (.invokevirtual 139, 3) := by decide +kernel
theorem dX12_bearings_5 : decode cX12_bearings 5 = .ok (.ifCond .eq 37, 3) := by decide +kernel
theorem dX12_bearings_8 : decode cX12_bearings 8 = .ok (.aload_n 0, 1) := by decide +kernel
theorem dX12_bearings_9 : decode cX12_bearings 9 = .ok (.iload_n 3, 1) := by decide +kernel
theorem dX12_bearings_10 : decode cX12_bearings 10 = .ok (.invokevirtual 139, 3) := by decide +kernel
theorem dX12_bearings_13 : decode cX12_bearings 13 = .ok (.ifCond .eq 29, 3) := by decide +kernel
theorem dX12_bearings_16 : decode cX12_bearings 16 = .ok (.iload_n 1, 1) := by decide +kernel
theorem dX12_bearings_17 : decode cX12_bearings 17 = .ok (.iload_n 3, 1) := by decide +kernel
theorem dX12_bearings_18 : decode cX12_bearings 18 = .ok (.if_icmp .eq 24, 3) := by decide +kernel
theorem dX12_bearings_21 : decode cX12_bearings 21 = .ok (.iload_n 2, 1) := by decide +kernel
theorem dX12_bearings_22 : decode cX12_bearings 22 = .ok (.iconst 0, 1) := by decide +kernel
theorem dX12_bearings_23 : decode cX12_bearings 23 = .ok (.bipush 7, 2) := by decide +kernel
theorem dX12_bearings_25 : decode cX12_bearings 25 = .ok (.invokestatic 110, 3) := by decide +kernel
theorem dX12_bearings_28 : decode cX12_bearings 28 = .ok (.ifCond .eq 14, 3) := by decide +kernel
theorem dX12_bearings_31 : decode cX12_bearings 31 = .ok (.iload 4, 2) := by decide +kernel
theorem dX12_bearings_33 : decode cX12_bearings 33 = .ok (.iconst 0, 1) := by decide +kernel
theorem dX12_bearings_34 : decode cX12_bearings 34 = .ok (.bipush 7, 2) := by decide +kernel
theorem dX12_bearings_36 : decode cX12_bearings 36 = .ok (.invokestatic 110, 3) := by decide +kernel
theorem dX12_bearings_39 : decode cX12_bearings 39 = .ok (.ifCond .ne 5, 3) := by decide +kernel
theorem dX12_bearings_42 : decode cX12_bearings 42 = .ok (.iconst (-1), 1) := by decide +kernel
theorem dX12_bearings_43 : decode cX12_bearings 43 = .ok (.ireturn, 1) := by decide +kernel
theorem dX12_bearings_44 : decode cX12_bearings 44 = .ok (.aload_n 0, 1) := by decide +kernel
theorem dX12_bearings_45 : decode cX12_bearings 45 = .ok (.getfield 19, 3) := by decide +kernel
theorem dX12_bearings_48 : decode cX12_bearings 48 = .ok (.iload_n 1, 1) := by decide +kernel
theorem dX12_bearings_49 : decode cX12_bearings 49 = .ok (.iaload, 1) := by decide +kernel
theorem dX12_bearings_50 : decode cX12_bearings 50 = .ok (.iload_n 2, 1) := by decide +kernel
theorem dX12_bearings_51 : decode cX12_bearings 51 = .ok (.invokestatic 285, 3) := by decide +kernel
theorem dX12_bearings_54 : decode cX12_bearings 54 = .ok (.istore 5, 2) := by decide +kernel
theorem dX12_bearings_56 : decode cX12_bearings 56 = .ok (.iload 5, 2) := by decide +kernel
theorem dX12_bearings_58 : decode cX12_bearings 58 = .ok (.iconst (-1), 1) := by decide +kernel
theorem dX12_bearings_59 : decode cX12_bearings 59 = .ok (.if_icmp .eq 56, 3) := by decide +kernel
theorem dX12_bearings_62 : decode cX12_bearings 62 = .ok (.iload 5, 2) := by decide +kernel
theorem dX12_bearings_64 : decode cX12_bearings 64 = .ok (.aload_n 0, 1) := by decide +kernel
theorem dX12_bearings_65 : decode cX12_bearings 65 = .ok (.getfield 19, 3) := by decide +kernel
theorem dX12_bearings_68 : decode cX12_bearings 68 = .ok (.iload_n 1, 1) := by decide +kernel
theorem dX12_bearings_69 : decode cX12_bearings 69 = .ok (.iaload, 1) := by decide +kernel
theorem dX12_bearings_70 : decode cX12_bearings 70 = .ok (.if_icmp .eq 34, 3) := by decide +kernel
theorem dX12_bearings_73 : decode cX12_bearings 73 = .ok (.iload 5, 2) := by decide +kernel
theorem dX12_bearings_75 : decode cX12_bearings 75 = .ok (.aload_n 0, 1) := by decide +kernel
theorem dX12_bearings_76 : decode cX12_bearings 76 = .ok (.getfield 19, 3) := by decide +kernel
theorem dX12_bearings_79 : decode cX12_bearings 79 = .ok (.iload_n 3, 1) := by decide +kernel
theorem dX12_bearings_80 : decode cX12_bearings 80 = .ok (.iaload, 1) := by decide +kernel
theorem dX12_bearings_81 : decode cX12_bearings 81 = .ok (.if_icmp .eq 23, 3) := by decide +kernel
theorem dX12_bearings_84 : decode cX12_bearings 84 = .ok (.aload_n 0, 1) := by decide +kernel
theorem dX12_bearings_85 : decode cX12_bearings 85 = .ok (.aload_n 0, 1) := by decide +kernel
theorem dX12_bearings_86 : decode cX12_bearings 86 = .ok (.getfield 19, 3) := by decide +kernel
theorem dX12_bearings_89 : decode cX12_bearings 89 = .ok (.iload_n 3, 1) := by decide +kernel
theorem dX12_bearings_90 : decode cX12_bearings 90 = .ok (.iaload, 1) := by decide +kernel
theorem dX12_bearings_91 : decode cX12_bearings 91 = .ok (.iload 4, 2) := by decide +kernel
theorem dX12_bearings_93 : decode cX12_bearings 93 = .ok (.iload 5, 2) := by decide +kernel
theorem dX12_bearings_95 : decode cX12_bearings 95 = .ok (.invokevirtual 354, 3) := by decide +kernel
theorem dX12_bearings_98 : decode cX12_bearings 98 = .ok (.ifCond .eq 6, 3) := by decide +kernel
theorem dX12_bearings_101 : decode cX12_bearings 101 = .ok (.iload 5, 2) := by decide +kernel
theorem dX12_bearings_103 : decode cX12_bearings 103 = .ok (.ireturn, 1) := by decide +kernel
theorem dX12_bearings_104 : decode cX12_bearings 104 = .ok (.iload 5, 2) := by decide +kernel
theorem dX12_bearings_106 : decode cX12_bearings 106 = .ok (.iload_n 2, 1) := by decide +kernel
theorem dX12_bearings_107 : decode cX12_bearings 107 = .ok (.invokestatic 285, 3) := by decide +kernel
theorem dX12_bearings_110 : decode cX12_bearings 110 = .ok (.istore 5, 2) := by decide +kernel
theorem dX12_bearings_112 : decode cX12_bearings 112 = .ok (.goto (-56), 3) := by decide +kernel
theorem dX12_bearings_115 : decode cX12_bearings 115 = .ok (.bipush (-2), 2) := by decide +kernel
theorem dX12_bearings_117 : decode cX12_bearings 117 = .ok (.ireturn, 1) := by decide +kernel
def f_X12_bearings_n56 (S0 : Gr) (x1 : Int32) (x2 : Int32) (x3 : Int32) (x4 : Int32) : Nat → Int32 → Option (Int32)
  | 0, _ => none
  | n + 1, x5 => if x5 = (-1) then (some (-2)) else (rd' (S0.2 3) 8 x1 fun v13 => if x5 = v13 then ((f_X12_stepOn x5 x2).bind fun u15 => f_X12_bearings_n56 S0 x1 x2 x3 x4 n u15) else (rd' (S0.2 3) 8 x3 fun v16 => if x5 = v16 then ((f_X12_stepOn x5 x2).bind fun u18 => f_X12_bearings_n56 S0 x1 x2 x3 x4 n u18) else (rd' (S0.2 3) 8 x3 fun v19 => (f_X12_isOnWay S0 v19 x4 x5).bind fun u20 => if u20 = 0 then ((f_X12_stepOn x5 x2).bind fun u22 => f_X12_bearings_n56 S0 x1 x2 x3 x4 n u22) else (some x5))))
def f_X12_bearings (S0 : Gr) (x1 : Int32) (x2 : Int32) (x3 : Int32) (x4 : Int32) : Option (Int32) := (f_X12_isWeb S0 x1).bind fun u1 => if u1 = 0 then (some (-1)) else ((f_X12_isWeb S0 x3).bind fun u3 => if u3 = 0 then (some (-1)) else (if x1 = x3 then (some (-1)) else ((f_X12_in x2 0 7).bind fun u6 => if u6 = 0 then (some (-1)) else ((f_X12_in x4 0 7).bind fun u8 => if u8 = 0 then (some (-1)) else (rd' (S0.2 3) 8 x1 fun v10 => (f_X12_stepOn v10 x2).bind fun u11 => f_X12_bearings_n56 S0 x1 x2 x3 x4 fu u11)))))
set_option maxHeartbeats 4000000 in
set_option maxRecDepth 100000 in
theorem c_X12_bearings (l : Launch) (E : Ec) (q0 : Nat → Nat) (sz : Nat) (S0 : Gr) (x1 : Int32) (x2 : Int32) (x3 : Int32) (x4 : Int32) (Rv : Int32) (h : f_X12_bearings S0 x1 x2 x3 x4 = some Rv) : Met l yX12_bearings (wsM (.code yX12_bearings cX12_bearings 6 (some .int))) ({ frames := 4, cells := 0, slots := 0, locals := 89 } : Room) (va_Pc [.ref (q0 0), .int x1, .int x2, .int x3, .int x4] (ctP E (cw_X12 E q0 S0) sz)) (ctI E (cw_X12 E q0 S0) (cw_X12 E q0 S0) sz Rv) 0 0 (va_A (cw_X12 E q0 S0) sz) := by
  refine ct_metI (by decide) (Nat.le_of_ble_eq_true rfl) ?_
  intro p e s m ar below meth c A QM hx hb hml hown hg X hP hD hS RET ls hl
  have hown : s.vm.findClass RX12 = some m.cls := hown
  have hl : lv_has ls 6 [(0, .ref (q0 0)), (1, .int x1), (2, .int x2), (3, .int x3), (4, .int x4)] := hl
  have RT : ∀ (v : Int32) (H : Heap) (locs : List Loc) (ls : Array Slot) (pc : Nat), some v = some Rv → narrow .int (.int v) = .int v → va_P E.1 vwCl (cw_X12 E q0 S0) H → va_D A (cw_X12 E q0 S0) → va_S A s.heap H locs → decode cX12_bearings pc = .ok (.ireturn, 1) → W p l e ({ frames := 4, cells := 0, slots := 0, locals := 89 } : Room) s m ar below meth c H locs 0 0 QM (F0 m pc ls [.int v]) := by
    intro v H locs ls pc e hn hP hD hS d
    obtain rfl := sm_e e
    exact RET H locs pc ls hn hP hD hS d
  clear RET
  have N56 : ∀ (n : Nat) (x5 : Int32) (H : Heap) (locs : List Loc) (ls : Array Slot), f_X12_bearings_n56 S0 x1 x2 x3 x4 n x5 = some Rv → va_P E.1 vwCl (cw_X12 E q0 S0) H → va_D A (cw_X12 E q0 S0) → va_S A s.heap H locs → lv_has ls 6 [(0, .ref (q0 0)), (1, .int x1), (2, .int x2), (3, .int x3), (4, .int x4), (5, .int x5)] → W p l e ({ frames := 4, cells := 0, slots := 0, locals := 89 } : Room) s m ar below meth c H locs 0 0 QM (F0 m 56 ls []) := by
    intro n
    induction n with
    | zero => intro x5 H locs ls h; exact nn_el h
    | succ n ih =>
      intro x5 H locs ls h hP hD hS hl
      refine lv_iload hx hb dX12_bearings_56 (lv_at hl 5 rfl) ?_
      refine lv_iconst (v := (-1)) hx hb dX12_bearings_58 (by decide) ?_
      refine lv_icmp_eq (tgt := 115) hx hb dX12_bearings_59 (by decide) (fun c12 => ?_) (fun c12 => ?_)
      · have h := it_t h c12
        refine lv_bipush (v := (-2)) hx hb dX12_bearings_115 (by decide) ?_
        exact RT (-2) _ _ _ _ h rfl hP hD hS dX12_bearings_117
      · have h := it_f h c12
        refine lv_iload hx hb dX12_bearings_62 (lv_at hl 5 rfl) ?_
        refine lv_aload_n hx hb dX12_bearings_64 rfl (lv_at hl 0 rfl) ?_
        refine va_get (D := E.1) (ci := 11) (v := .ref (q0 4)) (C := RX12) (T := TX12) (N := 57) hx hb hg in_X12 hown X.1 hP 0 rfl rfl 3 (by decide) (hg _ wf_X12_19) (fun _ h9 => h9) rfl dX12_bearings_65 ?_
        refine lv_iload_n hx hb dX12_bearings_68 rfl (lv_at hl 1 rfl) ?_
        obtain ⟨hi, v13, ev13, h⟩ := rd_el h
        refine va_iald hx hb X.1 hP 4 0 rfl rfl hi dX12_bearings_69 ?_
        refine lv_top' ev13 ?_
        refine lv_icmp_eq (tgt := 104) hx hb dX12_bearings_70 (by decide) (fun c14 => ?_) (fun c14 => ?_)
        · have h := it_t h c14
          refine lv_iload hx hb dX12_bearings_104 (lv_at hl 5 rfl) ?_
          refine lv_iload_n hx hb dX12_bearings_106 rfl (lv_at hl 2 rfl) ?_
          obtain ⟨u15, hc, h⟩ := bd_el h
          refine ct_iN X hP hD hS (va_runS (As := [.int x5, .int x2]) (rest := []) ⟨hx, hb, hml, hown, hg⟩ (c_X12_stepOn l E  H.size x5 x2 u15 hc) (va_cwS 2 hg (gwS wm_X12_285 wst_X12_stepOn wini_X12 wco_X12_stepOn) rfl rfl rfl (by decide +kernel) ⟨Nat.le_of_ble_eq_true rfl, Nat.le_of_ble_eq_true rfl⟩) ⟨ct_blind, ct_preN X hS _⟩ rfl rfl hl.1 rfl (lv_room (Nat.le_of_ble_eq_true rfl)) dX12_bearings_107 ⟨Nat.zero_le _, Nat.zero_le _⟩) (fun H locs hP hD hS => ?_)
          refine lv_istore (lv' := [(5, .int u15), (0, .ref (q0 0)), (1, .int x1), (2, .int x2), (3, .int x3), (4, .int x4)]) hx hb dX12_bearings_110 hl (by decide) rfl (fun ls hl => ?_)
          refine lv_goto (tgt := 56) hx hb dX12_bearings_112 (by decide) ?_
          exact ih u15 _ _ _ h hP hD hS (lv_sub hl [1, 2, 3, 4, 5, 0] rfl)
        · have h := it_f h c14
          refine lv_iload hx hb dX12_bearings_73 (lv_at hl 5 rfl) ?_
          refine lv_aload_n hx hb dX12_bearings_75 rfl (lv_at hl 0 rfl) ?_
          refine va_get (D := E.1) (ci := 11) (v := .ref (q0 4)) (C := RX12) (T := TX12) (N := 57) hx hb hg in_X12 hown X.1 hP 0 rfl rfl 3 (by decide) (hg _ wf_X12_19) (fun _ h9 => h9) rfl dX12_bearings_76 ?_
          refine lv_iload_n hx hb dX12_bearings_79 rfl (lv_at hl 3 rfl) ?_
          obtain ⟨hi, v16, ev16, h⟩ := rd_el h
          refine va_iald hx hb X.1 hP 4 0 rfl rfl hi dX12_bearings_80 ?_
          refine lv_top' ev16 ?_
          refine lv_icmp_eq (tgt := 104) hx hb dX12_bearings_81 (by decide) (fun c17 => ?_) (fun c17 => ?_)
          · have h := it_t h c17
            refine lv_iload hx hb dX12_bearings_104 (lv_at hl 5 rfl) ?_
            refine lv_iload_n hx hb dX12_bearings_106 rfl (lv_at hl 2 rfl) ?_
            obtain ⟨u18, hc, h⟩ := bd_el h
            refine ct_iN X hP hD hS (va_runS (As := [.int x5, .int x2]) (rest := []) ⟨hx, hb, hml, hown, hg⟩ (c_X12_stepOn l E  H.size x5 x2 u18 hc) (va_cwS 2 hg (gwS wm_X12_285 wst_X12_stepOn wini_X12 wco_X12_stepOn) rfl rfl rfl (by decide +kernel) ⟨Nat.le_of_ble_eq_true rfl, Nat.le_of_ble_eq_true rfl⟩) ⟨ct_blind, ct_preN X hS _⟩ rfl rfl hl.1 rfl (lv_room (Nat.le_of_ble_eq_true rfl)) dX12_bearings_107 ⟨Nat.zero_le _, Nat.zero_le _⟩) (fun H locs hP hD hS => ?_)
            refine lv_istore (lv' := [(5, .int u18), (0, .ref (q0 0)), (1, .int x1), (2, .int x2), (3, .int x3), (4, .int x4)]) hx hb dX12_bearings_110 hl (by decide) rfl (fun ls hl => ?_)
            refine lv_goto (tgt := 56) hx hb dX12_bearings_112 (by decide) ?_
            exact ih u18 _ _ _ h hP hD hS (lv_sub hl [1, 2, 3, 4, 5, 0] rfl)
          · have h := it_f h c17
            refine lv_aload_n hx hb dX12_bearings_84 rfl (lv_at hl 0 rfl) ?_
            refine lv_aload_n hx hb dX12_bearings_85 rfl (lv_at hl 0 rfl) ?_
            refine va_get (D := E.1) (ci := 11) (v := .ref (q0 4)) (C := RX12) (T := TX12) (N := 57) hx hb hg in_X12 hown X.1 hP 0 rfl rfl 3 (by decide) (hg _ wf_X12_19) (fun _ h9 => h9) rfl dX12_bearings_86 ?_
            refine lv_iload_n hx hb dX12_bearings_89 rfl (lv_at hl 3 rfl) ?_
            obtain ⟨hi, v19, ev19, h⟩ := rd_el h
            refine va_iald hx hb X.1 hP 4 0 rfl rfl hi dX12_bearings_90 ?_
            refine lv_top' ev19 ?_
            refine lv_iload hx hb dX12_bearings_91 (lv_at hl 4 rfl) ?_
            refine lv_iload hx hb dX12_bearings_93 (lv_at hl 5 rfl) ?_
            obtain ⟨u20, hc, h⟩ := bd_el h
            refine ct_iA (w1 := cw_X12 E q0 S0) X hP hD hS (va_runV (C := RX12) (As := [.int v19, .int x4, .int x5]) (rest := []) ⟨hx, hb, hml, hown, hg⟩ (c_X12_isOnWay l E q0 H.size S0 v19 x4 x5 u20 hc) (cwV 3 hg (gwV wm_X12_354 wi_X12_isOnWay wsl_X12_isOnWay wini_X12 wco_X12_isOnWay) rfl rfl rfl (by decide +kernel) ⟨Nat.le_of_ble_eq_true rfl, Nat.le_of_ble_eq_true rfl⟩) ⟨ct_blind, ct_rv X.1 hP 0 rfl rfl, ct_preA X hP hD hS _⟩ rfl rfl hl.1 rfl (lv_room (Nat.le_of_ble_eq_true rfl)) dX12_bearings_95 ⟨Nat.zero_le _, Nat.zero_le _⟩) (fun H locs hP hD hS => ?_)
            refine lv_if_eq (tgt := 104) hx hb dX12_bearings_98 (by decide) (fun c21 => ?_) (fun c21 => ?_)
            · have h := it_t h c21
              refine lv_iload hx hb dX12_bearings_104 (lv_at hl 5 rfl) ?_
              refine lv_iload_n hx hb dX12_bearings_106 rfl (lv_at hl 2 rfl) ?_
              obtain ⟨u22, hc, h⟩ := bd_el h
              refine ct_iN X hP hD hS (va_runS (As := [.int x5, .int x2]) (rest := []) ⟨hx, hb, hml, hown, hg⟩ (c_X12_stepOn l E  H.size x5 x2 u22 hc) (va_cwS 2 hg (gwS wm_X12_285 wst_X12_stepOn wini_X12 wco_X12_stepOn) rfl rfl rfl (by decide +kernel) ⟨Nat.le_of_ble_eq_true rfl, Nat.le_of_ble_eq_true rfl⟩) ⟨ct_blind, ct_preN X hS _⟩ rfl rfl hl.1 rfl (lv_room (Nat.le_of_ble_eq_true rfl)) dX12_bearings_107 ⟨Nat.zero_le _, Nat.zero_le _⟩) (fun H locs hP hD hS => ?_)
              refine lv_istore (lv' := [(5, .int u22), (0, .ref (q0 0)), (1, .int x1), (2, .int x2), (3, .int x3), (4, .int x4)]) hx hb dX12_bearings_110 hl (by decide) rfl (fun ls hl => ?_)
              refine lv_goto (tgt := 56) hx hb dX12_bearings_112 (by decide) ?_
              exact ih u22 _ _ _ h hP hD hS (lv_sub hl [1, 2, 3, 4, 5, 0] rfl)
            · have h := it_f h c21
              refine lv_iload hx hb dX12_bearings_101 (lv_at hl 5 rfl) ?_
              exact RT x5 _ _ _ _ h rfl hP hD hS dX12_bearings_103
  obtain ⟨H, eH⟩ : ∃ z, z = s.heap := ⟨_, rfl⟩
  rw [← eH]
  have hP : va_P E.1 vwCl (cw_X12 E q0 S0) H := by rw [eH]; exact hP
  have hS : va_S A s.heap H [] := by rw [eH]; exact hS
  clear eH
  obtain ⟨locs, el⟩ : ∃ z : List Loc, z = [] := ⟨_, rfl⟩
  rw [← el] at hS ⊢
  clear el
  refine lv_aload_n hx hb dX12_bearings_0 rfl (lv_at hl 0 rfl) ?_
  refine lv_iload_n hx hb dX12_bearings_1 rfl (lv_at hl 1 rfl) ?_
  obtain ⟨u1, hc, h⟩ := bd_el h
  refine ct_iA (w1 := cw_X12 E q0 S0) X hP hD hS (va_runV (C := RX12) (As := [.int x1]) (rest := []) ⟨hx, hb, hml, hown, hg⟩ (c_X12_isWeb l E q0 H.size S0 x1 u1 hc) (cwV 1 hg (gwV wm_X12_139 wi_X12_isWeb wsl_X12_isWeb wini_X12 wco_X12_isWeb) rfl rfl rfl (by decide +kernel) ⟨Nat.le_of_ble_eq_true rfl, Nat.le_of_ble_eq_true rfl⟩) ⟨ct_blind, ct_rv X.1 hP 0 rfl rfl, ct_preA X hP hD hS _⟩ rfl rfl hl.1 rfl (lv_room (Nat.le_of_ble_eq_true rfl)) dX12_bearings_2 ⟨Nat.zero_le _, Nat.zero_le _⟩) (fun H locs hP hD hS => ?_)
  refine lv_if_eq (tgt := 42) hx hb dX12_bearings_5 (by decide) (fun c2 => ?_) (fun c2 => ?_)
  · have h := it_t h c2
    refine lv_iconst (v := (-1)) hx hb dX12_bearings_42 (by decide) ?_
    exact RT (-1) _ _ _ _ h rfl hP hD hS dX12_bearings_43
  · have h := it_f h c2
    refine lv_aload_n hx hb dX12_bearings_8 rfl (lv_at hl 0 rfl) ?_
    refine lv_iload_n hx hb dX12_bearings_9 rfl (lv_at hl 3 rfl) ?_
    obtain ⟨u3, hc, h⟩ := bd_el h
    refine ct_iA (w1 := cw_X12 E q0 S0) X hP hD hS (va_runV (C := RX12) (As := [.int x3]) (rest := []) ⟨hx, hb, hml, hown, hg⟩ (c_X12_isWeb l E q0 H.size S0 x3 u3 hc) (cwV 1 hg (gwV wm_X12_139 wi_X12_isWeb wsl_X12_isWeb wini_X12 wco_X12_isWeb) rfl rfl rfl (by decide +kernel) ⟨Nat.le_of_ble_eq_true rfl, Nat.le_of_ble_eq_true rfl⟩) ⟨ct_blind, ct_rv X.1 hP 0 rfl rfl, ct_preA X hP hD hS _⟩ rfl rfl hl.1 rfl (lv_room (Nat.le_of_ble_eq_true rfl)) dX12_bearings_10 ⟨Nat.zero_le _, Nat.zero_le _⟩) (fun H locs hP hD hS => ?_)
    refine lv_if_eq (tgt := 42) hx hb dX12_bearings_13 (by decide) (fun c4 => ?_) (fun c4 => ?_)
    · have h := it_t h c4
      refine lv_iconst (v := (-1)) hx hb dX12_bearings_42 (by decide) ?_
      exact RT (-1) _ _ _ _ h rfl hP hD hS dX12_bearings_43
    · have h := it_f h c4
      refine lv_iload_n hx hb dX12_bearings_16 rfl (lv_at hl 1 rfl) ?_
      refine lv_iload_n hx hb dX12_bearings_17 rfl (lv_at hl 3 rfl) ?_
      refine lv_icmp_eq (tgt := 42) hx hb dX12_bearings_18 (by decide) (fun c5 => ?_) (fun c5 => ?_)
      · have h := it_t h c5
        refine lv_iconst (v := (-1)) hx hb dX12_bearings_42 (by decide) ?_
        exact RT (-1) _ _ _ _ h rfl hP hD hS dX12_bearings_43
      · have h := it_f h c5
        refine lv_iload_n hx hb dX12_bearings_21 rfl (lv_at hl 2 rfl) ?_
        refine lv_iconst (v := 0) hx hb dX12_bearings_22 (by decide) ?_
        refine lv_bipush (v := 7) hx hb dX12_bearings_23 (by decide) ?_
        obtain ⟨u6, hc, h⟩ := bd_el h
        refine ct_iN X hP hD hS (va_runS (As := [.int x2, .int 0, .int 7]) (rest := []) ⟨hx, hb, hml, hown, hg⟩ (c_X12_in l E  H.size x2 0 7 u6 hc) (va_cwS 3 hg (gwS wm_X12_110 wst_X12_in wini_X12 wco_X12_in) rfl rfl rfl (by decide +kernel) ⟨Nat.le_of_ble_eq_true rfl, Nat.le_of_ble_eq_true rfl⟩) ⟨ct_blind, ct_preN X hS _⟩ rfl rfl hl.1 rfl (lv_room (Nat.le_of_ble_eq_true rfl)) dX12_bearings_25 ⟨Nat.zero_le _, Nat.zero_le _⟩) (fun H locs hP hD hS => ?_)
        refine lv_if_eq (tgt := 42) hx hb dX12_bearings_28 (by decide) (fun c7 => ?_) (fun c7 => ?_)
        · have h := it_t h c7
          refine lv_iconst (v := (-1)) hx hb dX12_bearings_42 (by decide) ?_
          exact RT (-1) _ _ _ _ h rfl hP hD hS dX12_bearings_43
        · have h := it_f h c7
          refine lv_iload hx hb dX12_bearings_31 (lv_at hl 4 rfl) ?_
          refine lv_iconst (v := 0) hx hb dX12_bearings_33 (by decide) ?_
          refine lv_bipush (v := 7) hx hb dX12_bearings_34 (by decide) ?_
          obtain ⟨u8, hc, h⟩ := bd_el h
          refine ct_iN X hP hD hS (va_runS (As := [.int x4, .int 0, .int 7]) (rest := []) ⟨hx, hb, hml, hown, hg⟩ (c_X12_in l E  H.size x4 0 7 u8 hc) (va_cwS 3 hg (gwS wm_X12_110 wst_X12_in wini_X12 wco_X12_in) rfl rfl rfl (by decide +kernel) ⟨Nat.le_of_ble_eq_true rfl, Nat.le_of_ble_eq_true rfl⟩) ⟨ct_blind, ct_preN X hS _⟩ rfl rfl hl.1 rfl (lv_room (Nat.le_of_ble_eq_true rfl)) dX12_bearings_36 ⟨Nat.zero_le _, Nat.zero_le _⟩) (fun H locs hP hD hS => ?_)
          refine lv_if_ne (tgt := 44) hx hb dX12_bearings_39 (by decide) (fun c9 => ?_) (fun c9 => ?_)
          · have h := it_f h c9
            refine lv_aload_n hx hb dX12_bearings_44 rfl (lv_at hl 0 rfl) ?_
            refine va_get (D := E.1) (ci := 11) (v := .ref (q0 4)) (C := RX12) (T := TX12) (N := 57) hx hb hg in_X12 hown X.1 hP 0 rfl rfl 3 (by decide) (hg _ wf_X12_19) (fun _ h9 => h9) rfl dX12_bearings_45 ?_
            refine lv_iload_n hx hb dX12_bearings_48 rfl (lv_at hl 1 rfl) ?_
            obtain ⟨hi, v10, ev10, h⟩ := rd_el h
            refine va_iald hx hb X.1 hP 4 0 rfl rfl hi dX12_bearings_49 ?_
            refine lv_top' ev10 ?_
            refine lv_iload_n hx hb dX12_bearings_50 rfl (lv_at hl 2 rfl) ?_
            obtain ⟨u11, hc, h⟩ := bd_el h
            refine ct_iN X hP hD hS (va_runS (As := [.int v10, .int x2]) (rest := []) ⟨hx, hb, hml, hown, hg⟩ (c_X12_stepOn l E  H.size v10 x2 u11 hc) (va_cwS 2 hg (gwS wm_X12_285 wst_X12_stepOn wini_X12 wco_X12_stepOn) rfl rfl rfl (by decide +kernel) ⟨Nat.le_of_ble_eq_true rfl, Nat.le_of_ble_eq_true rfl⟩) ⟨ct_blind, ct_preN X hS _⟩ rfl rfl hl.1 rfl (lv_room (Nat.le_of_ble_eq_true rfl)) dX12_bearings_51 ⟨Nat.zero_le _, Nat.zero_le _⟩) (fun H locs hP hD hS => ?_)
            refine lv_istore (lv' := [(5, .int u11), (0, .ref (q0 0)), (1, .int x1), (2, .int x2), (3, .int x3), (4, .int x4)]) hx hb dX12_bearings_54 hl (by decide) rfl (fun ls hl => ?_)
            exact N56 fu u11 _ _ _ h hP hD hS (lv_sub hl [1, 2, 3, 4, 5, 0] rfl)
          · have h := it_t h c9
            refine lv_iconst (v := (-1)) hx hb dX12_bearings_42 (by decide) ?_
            exact RT (-1) _ _ _ _ h rfl hP hD hS dX12_bearings_43
theorem dX12_beginsText_0 : decode cX12_beginsText 0 = .ok (.aload_n 0, 1) := by decide +kernel
theorem dX12_beginsText_1 : decode cX12_beginsText 1 = .ok (.iconst 0, 1) := by decide +kernel
theorem dX12_beginsText_2 : decode cX12_beginsText 2 = .ok (.putfield 150, 3) := by decide +kernel
theorem dX12_beginsText_5 : decode cX12_beginsText 5 = .ok (.aload_n 0, 1) := by decide +kernel
theorem dX12_beginsText_6 : decode cX12_beginsText 6 = .ok (.iload_n 1, 1) := by decide +kernel
theorem dX12_beginsText_7 : decode cX12_beginsText 7 = .ok (.putfield 153, 3) := by decide +kernel
theorem dX12_beginsText_10 : decode cX12_beginsText 10 = .ok (.aload_n 0, 1) := by decide +kernel
theorem dX12_beginsText_11 : decode cX12_beginsText 11 = .ok (.iconst 0, 1) := by decide +kernel
theorem dX12_beginsText_12 : decode cX12_beginsText 12 = .ok (.putfield 173, 3) := by decide +kernel
theorem dX12_beginsText_15 : decode cX12_beginsText 15 = .ok (.aload_n 0, 1) := by decide +kernel
theorem dX12_beginsText_16 : decode cX12_beginsText 16 = .ok (.iconst 0, 1) := by decide +kernel
theorem dX12_beginsText_17 : decode cX12_beginsText 17 = .ok (.putfield 227, 3) := by decide +kernel
theorem dX12_beginsText_20 : decode cX12_beginsText 20 = .ok (.return_, 1) := by decide +kernel
def f_X12_beginsText (S0 : Gr) (x1 : Int32) : Option (Gr) := lt' (sI S0 9 0) fun S0_1 => lt' (sI S0_1 10 x1) fun S0_2 => lt' (sI S0_2 14 0) fun S0_3 => lt' (sI S0_3 16 0) fun S0_4 => some S0_4
set_option maxHeartbeats 4000000 in
set_option maxRecDepth 100000 in
theorem c_X12_beginsText (l : Launch) (E : Ec) (q0 : Nat → Nat) (sz : Nat) (S0 : Gr) (x1 : Int32) (Rv : Gr) (h : f_X12_beginsText S0 x1 = some Rv) : Met l yX12_beginsText (wsM (.code yX12_beginsText cX12_beginsText 2 none)) ({ frames := 0, cells := 0, slots := 0, locals := 0 } : Room) (va_Pc [.ref (q0 0), .int x1] (ctP E (cw_X12 E q0 S0) sz)) (ctV E (cw_X12 E q0 S0) (cw_X12 E q0 Rv) sz) 0 0 (va_A (cw_X12 E q0 S0) sz) := by
  refine ct_metV (by decide) (Nat.le_of_ble_eq_true rfl) ?_
  intro p e s m ar below meth c A QM hx hb hml hown hg X hP hD hS RET ls hl
  have hown : s.vm.findClass RX12 = some m.cls := hown
  have hl : lv_has ls 2 [(0, .ref (q0 0)), (1, .int x1)] := hl
  have RT : ∀ (S0 : Gr) (H : Heap) (locs : List Loc) (ls : Array Slot) (pc : Nat), some S0 = some Rv → va_P E.1 vwCl (cw_X12 E q0 S0) H → va_D A (cw_X12 E q0 S0) → va_S A s.heap H locs → decode cX12_beginsText pc = .ok (.return_, 1) → W p l e ({ frames := 0, cells := 0, slots := 0, locals := 0 } : Room) s m ar below meth c H locs 0 0 QM (F0 m pc ls []) := by
    intro S0 H locs ls pc e hP hD hS d
    obtain rfl := sm_e e
    exact RET H locs pc ls hP hD hS d
  clear RET
  obtain ⟨H, eH⟩ : ∃ z, z = s.heap := ⟨_, rfl⟩
  rw [← eH]
  have hP : va_P E.1 vwCl (cw_X12 E q0 S0) H := by rw [eH]; exact hP
  have hS : va_S A s.heap H [] := by rw [eH]; exact hS
  clear eH
  obtain ⟨locs, el⟩ : ∃ z : List Loc, z = [] := ⟨_, rfl⟩
  rw [← el] at hS ⊢
  clear el
  refine lv_aload_n hx hb dX12_beginsText_0 rfl (lv_at hl 0 rfl) ?_
  refine lv_iconst (v := 0) hx hb dX12_beginsText_1 (by decide) ?_
  obtain ⟨S0_1, eS, h⟩ := lt_el h
  refine va_put (D := E.1) (ci := 11) (v := .int 0) (ty := .int) (C := RX12) (T := TX12) (N := 57) hx hb hg in_X12 tyX12 tyX12_ok nmX12 hown X.1 hP hD hS 0 rfl rfl 9 (by decide) (hg _ wf_X12_150) (fun _ h9 => h9) rfl (by decide +kernel) rfl rfl (Nat.le_of_ble_eq_true rfl) dX12_beginsText_2 (fun H locs hP hD hS => ?_)
  have hP : va_P E.1 vwCl (cw_X12 E q0 S0_1) H := by rw [eS]; exact hP
  have hD : va_D A (cw_X12 E q0 S0_1) := by rw [eS]; exact hD
  clear eS
  refine lv_aload_n hx hb dX12_beginsText_5 rfl (lv_at hl 0 rfl) ?_
  refine lv_iload_n hx hb dX12_beginsText_6 rfl (lv_at hl 1 rfl) ?_
  obtain ⟨S0_2, eS, h⟩ := lt_el h
  refine va_put (D := E.1) (ci := 11) (v := .int x1) (ty := .int) (C := RX12) (T := TX12) (N := 57) hx hb hg in_X12 tyX12 tyX12_ok nmX12 hown X.1 hP hD hS 0 rfl rfl 10 (by decide) (hg _ wf_X12_153) (fun _ h9 => h9) rfl (by decide +kernel) rfl rfl (Nat.le_of_ble_eq_true rfl) dX12_beginsText_7 (fun H locs hP hD hS => ?_)
  have hP : va_P E.1 vwCl (cw_X12 E q0 S0_2) H := by rw [eS]; exact hP
  have hD : va_D A (cw_X12 E q0 S0_2) := by rw [eS]; exact hD
  clear eS
  refine lv_aload_n hx hb dX12_beginsText_10 rfl (lv_at hl 0 rfl) ?_
  refine lv_iconst (v := 0) hx hb dX12_beginsText_11 (by decide) ?_
  obtain ⟨S0_3, eS, h⟩ := lt_el h
  refine va_put (D := E.1) (ci := 11) (v := .int 0) (ty := .int) (C := RX12) (T := TX12) (N := 57) hx hb hg in_X12 tyX12 tyX12_ok nmX12 hown X.1 hP hD hS 0 rfl rfl 14 (by decide) (hg _ wf_X12_173) (fun _ h9 => h9) rfl (by decide +kernel) rfl rfl (Nat.le_of_ble_eq_true rfl) dX12_beginsText_12 (fun H locs hP hD hS => ?_)
  have hP : va_P E.1 vwCl (cw_X12 E q0 S0_3) H := by rw [eS]; exact hP
  have hD : va_D A (cw_X12 E q0 S0_3) := by rw [eS]; exact hD
  clear eS
  refine lv_aload_n hx hb dX12_beginsText_15 rfl (lv_at hl 0 rfl) ?_
  refine lv_iconst (v := 0) hx hb dX12_beginsText_16 (by decide) ?_
  obtain ⟨S0_4, eS, h⟩ := lt_el h
  refine va_put (D := E.1) (ci := 11) (v := .int 0) (ty := .int) (C := RX12) (T := TX12) (N := 57) hx hb hg in_X12 tyX12 tyX12_ok nmX12 hown X.1 hP hD hS 0 rfl rfl 16 (by decide) (hg _ wf_X12_227) (fun _ h9 => h9) rfl (by decide +kernel) rfl rfl (Nat.le_of_ble_eq_true rfl) dX12_beginsText_17 (fun H locs hP hD hS => ?_)
  have hP : va_P E.1 vwCl (cw_X12 E q0 S0_4) H := by rw [eS]; exact hP
  have hD : va_D A (cw_X12 E q0 S0_4) := by rw [eS]; exact hD
  clear eS
  exact RT S0_4 _ _ _ _ h hP hD hS dX12_beginsText_20
theorem dX12_here_0 : decode cX12_here 0 = .ok (.aload_n 0, 1) := by decide +kernel
theorem dX12_here_1 : decode cX12_here 1 = .ok (.getfield 150, 3) := by decide +kernel
theorem dX12_here_4 : decode cX12_here 4 = .ok (.aload_n 0, 1) := by decide +kernel
theorem dX12_here_5 : decode cX12_here 5 = .ok (.getfield 153, 3) := by decide +kernel
theorem dX12_here_8 : decode cX12_here 8 = .ok (.if_icmp .ge 19, 3) := by decide +kernel
theorem dX12_here_11 : decode cX12_here 11 = .ok (.aload_n 0, 1) := by decide +kernel
theorem dX12_here_12 : decode cX12_here 12 = .ok (.getfield 25, 3) := by decide +kernel
theorem dX12_here_15 : decode cX12_here 15 = .ok (.aload_n 0, 1) := by decide +kernel
theorem dX12_here_16 : decode cX12_here 16 = .ok (.getfield 150, 3) := by decide +kernel
theorem dX12_here_19 : decode cX12_here 19 = .ok (.baload, 1) := by decide +kernel
theorem dX12_here_20 : decode cX12_here 20 = .ok (.sipush 255, 3) := by decide +kernel
theorem dX12_here_23 : decode cX12_here 23 = .ok (.iand, 1) := by decide +kernel
theorem dX12_here_24 : decode cX12_here 24 = .ok (.goto 4, 3) := by decide +kernel
theorem dX12_here_27 : decode cX12_here 27 = .ok (.iconst (-1), 1) := by decide +kernel
theorem dX12_here_28 : decode cX12_here 28 = .ok (.ireturn, 1) := by decide +kernel
def f_X12_here (S0 : Gr) : Option (Int32) := if (S0.1 10) ≤ (S0.1 9) then (some (-1)) else (rd' (S0.2 7) 260 (S0.1 9) fun v2 => some (v2 &&& 255))
set_option maxHeartbeats 4000000 in
set_option maxRecDepth 100000 in
theorem c_X12_here (l : Launch) (E : Ec) (q0 : Nat → Nat) (sz : Nat) (S0 : Gr) (Rv : Int32) (h : f_X12_here S0 = some Rv) : Met l yX12_here (wsM (.code yX12_here cX12_here 1 (some .int))) ({ frames := 0, cells := 0, slots := 0, locals := 0 } : Room) (va_Pc [.ref (q0 0)] (ctP E (cw_X12 E q0 S0) sz)) (ctI E (cw_X12 E q0 S0) (cw_X12 E q0 S0) sz Rv) 0 0 (va_A (cw_X12 E q0 S0) sz) := by
  refine ct_metI (by decide) (Nat.le_of_ble_eq_true rfl) ?_
  intro p e s m ar below meth c A QM hx hb hml hown hg X hP hD hS RET ls hl
  have hown : s.vm.findClass RX12 = some m.cls := hown
  have hl : lv_has ls 1 [(0, .ref (q0 0))] := hl
  have RT : ∀ (v : Int32) (H : Heap) (locs : List Loc) (ls : Array Slot) (pc : Nat), some v = some Rv → narrow .int (.int v) = .int v → va_P E.1 vwCl (cw_X12 E q0 S0) H → va_D A (cw_X12 E q0 S0) → va_S A s.heap H locs → decode cX12_here pc = .ok (.ireturn, 1) → W p l e ({ frames := 0, cells := 0, slots := 0, locals := 0 } : Room) s m ar below meth c H locs 0 0 QM (F0 m pc ls [.int v]) := by
    intro v H locs ls pc e hn hP hD hS d
    obtain rfl := sm_e e
    exact RET H locs pc ls hn hP hD hS d
  clear RET
  obtain ⟨H, eH⟩ : ∃ z, z = s.heap := ⟨_, rfl⟩
  rw [← eH]
  have hP : va_P E.1 vwCl (cw_X12 E q0 S0) H := by rw [eH]; exact hP
  have hS : va_S A s.heap H [] := by rw [eH]; exact hS
  clear eH
  obtain ⟨locs, el⟩ : ∃ z : List Loc, z = [] := ⟨_, rfl⟩
  rw [← el] at hS ⊢
  clear el
  refine lv_aload_n hx hb dX12_here_0 rfl (lv_at hl 0 rfl) ?_
  refine va_get (D := E.1) (ci := 11) (v := .int (S0.1 9)) (C := RX12) (T := TX12) (N := 57) hx hb hg in_X12 hown X.1 hP 0 rfl rfl 9 (by decide) (hg _ wf_X12_150) (fun _ h9 => h9) rfl dX12_here_1 ?_
  refine lv_aload_n hx hb dX12_here_4 rfl (lv_at hl 0 rfl) ?_
  refine va_get (D := E.1) (ci := 11) (v := .int (S0.1 10)) (C := RX12) (T := TX12) (N := 57) hx hb hg in_X12 hown X.1 hP 0 rfl rfl 10 (by decide) (hg _ wf_X12_153) (fun _ h9 => h9) rfl dX12_here_5 ?_
  refine lv_icmp_ge (tgt := 27) hx hb dX12_here_8 (by decide) (fun c1 => ?_) (fun c1 => ?_)
  · have h := it_t h c1
    refine lv_iconst (v := (-1)) hx hb dX12_here_27 (by decide) ?_
    exact RT (-1) _ _ _ _ h rfl hP hD hS dX12_here_28
  · have h := it_f h c1
    refine lv_aload_n hx hb dX12_here_11 rfl (lv_at hl 0 rfl) ?_
    refine va_get (D := E.1) (ci := 11) (v := .ref (q0 6)) (C := RX12) (T := TX12) (N := 57) hx hb hg in_X12 hown X.1 hP 0 rfl rfl 7 (by decide) (hg _ wf_X12_25) (fun _ h9 => h9) rfl dX12_here_12 ?_
    refine lv_aload_n hx hb dX12_here_15 rfl (lv_at hl 0 rfl) ?_
    refine va_get (D := E.1) (ci := 11) (v := .int (S0.1 9)) (C := RX12) (T := TX12) (N := 57) hx hb hg in_X12 hown X.1 hP 0 rfl rfl 9 (by decide) (hg _ wf_X12_150) (fun _ h9 => h9) rfl dX12_here_16 ?_
    obtain ⟨hi, v2, ev2, h⟩ := rd_el h
    refine va_bald hx hb X.1 hP 6 2 rfl rfl hi dX12_here_19 ?_
    refine lv_top' ev2 ?_
    refine lv_sipush (v := 255) hx hb dX12_here_20 (by decide) ?_
    refine lv_iand hx hb dX12_here_23 ?_
    refine lv_goto (tgt := 28) hx hb dX12_here_24 (by decide) ?_
    exact RT (v2 &&& 255) _ _ _ _ h rfl hP hD hS dX12_here_28
theorem dX12_isFleetLetter_0 : decode cX12_isFleetLetter 0 = .ok (.aload_n 0, 1) := by decide +kernel
theorem dX12_isFleetLetter_1 : decode cX12_isFleetLetter 1 = .ok (.invokevirtual 156, 3) := by decide +kernel
theorem dX12_isFleetLetter_4 : decode cX12_isFleetLetter 4 = .ok (.bipush 65, 2) := by decide +kernel
theorem dX12_isFleetLetter_6 : decode cX12_isFleetLetter 6 = .ok (.isub, 1) := by decide +kernel
theorem dX12_isFleetLetter_7 : decode cX12_isFleetLetter 7 = .ok (.iconst 0, 1) := by decide +kernel
theorem dX12_isFleetLetter_8 : decode cX12_isFleetLetter 8 = .ok (.bipush 7, 2) := by decide +kernel
theorem dX12_isFleetLetter_10 : decode cX12_isFleetLetter 10 = .ok (.invokestatic 110, 3) := by decide +kernel
theorem dX12_isFleetLetter_13 : decode cX12_isFleetLetter 13 = .ok (.ireturn, 1) := by decide +kernel
def f_X12_isFleetLetter (S0 : Gr) : Option (Int32) := (f_X12_here S0).bind fun u1 => (f_X12_in (u1 - 65) 0 7).bind fun u2 => zb' u2 (some u2)
set_option maxHeartbeats 4000000 in
set_option maxRecDepth 100000 in
theorem c_X12_isFleetLetter (l : Launch) (E : Ec) (q0 : Nat → Nat) (sz : Nat) (S0 : Gr) (Rv : Int32) (h : f_X12_isFleetLetter S0 = some Rv) : Met l yX12_isFleetLetter (wsM (.code yX12_isFleetLetter cX12_isFleetLetter 1 (some .boolean))) ({ frames := 1, cells := 0, slots := 0, locals := 22 } : Room) (va_Pc [.ref (q0 0)] (ctP E (cw_X12 E q0 S0) sz)) (ctI E (cw_X12 E q0 S0) (cw_X12 E q0 S0) sz Rv) 0 0 (va_A (cw_X12 E q0 S0) sz) := by
  refine ct_metI (by decide) (Nat.le_of_ble_eq_true rfl) ?_
  intro p e s m ar below meth c A QM hx hb hml hown hg X hP hD hS RET ls hl
  have hown : s.vm.findClass RX12 = some m.cls := hown
  have hl : lv_has ls 1 [(0, .ref (q0 0))] := hl
  have RT : ∀ (v : Int32) (H : Heap) (locs : List Loc) (ls : Array Slot) (pc : Nat), some v = some Rv → narrow .boolean (.int v) = .int v → va_P E.1 vwCl (cw_X12 E q0 S0) H → va_D A (cw_X12 E q0 S0) → va_S A s.heap H locs → decode cX12_isFleetLetter pc = .ok (.ireturn, 1) → W p l e ({ frames := 1, cells := 0, slots := 0, locals := 22 } : Room) s m ar below meth c H locs 0 0 QM (F0 m pc ls [.int v]) := by
    intro v H locs ls pc e hn hP hD hS d
    obtain rfl := sm_e e
    exact RET H locs pc ls hn hP hD hS d
  clear RET
  obtain ⟨H, eH⟩ : ∃ z, z = s.heap := ⟨_, rfl⟩
  rw [← eH]
  have hP : va_P E.1 vwCl (cw_X12 E q0 S0) H := by rw [eH]; exact hP
  have hS : va_S A s.heap H [] := by rw [eH]; exact hS
  clear eH
  obtain ⟨locs, el⟩ : ∃ z : List Loc, z = [] := ⟨_, rfl⟩
  rw [← el] at hS ⊢
  clear el
  refine lv_aload_n hx hb dX12_isFleetLetter_0 rfl (lv_at hl 0 rfl) ?_
  obtain ⟨u1, hc, h⟩ := bd_el h
  refine ct_iA (w1 := cw_X12 E q0 S0) X hP hD hS (va_runV (C := RX12) (As := []) (rest := []) ⟨hx, hb, hml, hown, hg⟩ (c_X12_here l E q0 H.size S0 u1 hc) (cwV 0 hg (gwV wm_X12_156 wi_X12_here wsl_X12_here wini_X12 wco_X12_here) rfl rfl rfl (by decide +kernel) ⟨Nat.le_of_ble_eq_true rfl, Nat.le_of_ble_eq_true rfl⟩) ⟨ct_blind, ct_rv X.1 hP 0 rfl rfl, ct_preA X hP hD hS _⟩ rfl rfl hl.1 rfl (lv_room (Nat.le_of_ble_eq_true rfl)) dX12_isFleetLetter_1 ⟨Nat.zero_le _, Nat.zero_le _⟩) (fun H locs hP hD hS => ?_)
  refine lv_bipush (v := 65) hx hb dX12_isFleetLetter_4 (by decide) ?_
  refine lv_isub hx hb dX12_isFleetLetter_6 ?_
  refine lv_iconst (v := 0) hx hb dX12_isFleetLetter_7 (by decide) ?_
  refine lv_bipush (v := 7) hx hb dX12_isFleetLetter_8 (by decide) ?_
  obtain ⟨u2, hc, h⟩ := bd_el h
  refine ct_iN X hP hD hS (va_runS (As := [.int (u1 - 65), .int 0, .int 7]) (rest := []) ⟨hx, hb, hml, hown, hg⟩ (c_X12_in l E  H.size (u1 - 65) 0 7 u2 hc) (va_cwS 3 hg (gwS wm_X12_110 wst_X12_in wini_X12 wco_X12_in) rfl rfl rfl (by decide +kernel) ⟨Nat.le_of_ble_eq_true rfl, Nat.le_of_ble_eq_true rfl⟩) ⟨ct_blind, ct_preN X hS _⟩ rfl rfl hl.1 rfl (lv_room (Nat.le_of_ble_eq_true rfl)) dX12_isFleetLetter_10 ⟨Nat.zero_le _, Nat.zero_le _⟩) (fun H locs hP hD hS => ?_)
  obtain ⟨hn1, -, h⟩ := zb_el h
  exact RT u2 _ _ _ _ h hn1 hP hD hS dX12_isFleetLetter_13
theorem dX12_isWebLetter_0 : decode cX12_isWebLetter 0 = .ok (.aload_n 0, 1) := by decide +kernel
theorem dX12_isWebLetter_1 : decode cX12_isWebLetter 1 = .ok (.invokevirtual 156, 3) := by decide +kernel
theorem dX12_isWebLetter_4 : decode cX12_isWebLetter 4 = .ok (.bipush 97, 2) := by decide +kernel
theorem dX12_isWebLetter_6 : decode cX12_isWebLetter 6 = .ok (.isub, 1) := by decide +kernel
theorem dX12_isWebLetter_7 : decode cX12_isWebLetter 7 = .ok (.iconst 0, 1) := by decide +kernel
theorem dX12_isWebLetter_8 : decode cX12_isWebLetter 8 = .ok (.bipush 7, 2) := by decide +kernel
theorem dX12_isWebLetter_10 : decode cX12_isWebLetter 10 = .ok (.invokestatic 110, 3) := by decide +kernel
theorem dX12_isWebLetter_13 : decode cX12_isWebLetter 13 = .ok (.ireturn, 1) := by decide +kernel
def f_X12_isWebLetter (S0 : Gr) : Option (Int32) := (f_X12_here S0).bind fun u1 => (f_X12_in (u1 - 97) 0 7).bind fun u2 => zb' u2 (some u2)
set_option maxHeartbeats 4000000 in
set_option maxRecDepth 100000 in
theorem c_X12_isWebLetter (l : Launch) (E : Ec) (q0 : Nat → Nat) (sz : Nat) (S0 : Gr) (Rv : Int32) (h : f_X12_isWebLetter S0 = some Rv) : Met l yX12_isWebLetter (wsM (.code yX12_isWebLetter cX12_isWebLetter 1 (some .boolean))) ({ frames := 1, cells := 0, slots := 0, locals := 22 } : Room) (va_Pc [.ref (q0 0)] (ctP E (cw_X12 E q0 S0) sz)) (ctI E (cw_X12 E q0 S0) (cw_X12 E q0 S0) sz Rv) 0 0 (va_A (cw_X12 E q0 S0) sz) := by
  refine ct_metI (by decide) (Nat.le_of_ble_eq_true rfl) ?_
  intro p e s m ar below meth c A QM hx hb hml hown hg X hP hD hS RET ls hl
  have hown : s.vm.findClass RX12 = some m.cls := hown
  have hl : lv_has ls 1 [(0, .ref (q0 0))] := hl
  have RT : ∀ (v : Int32) (H : Heap) (locs : List Loc) (ls : Array Slot) (pc : Nat), some v = some Rv → narrow .boolean (.int v) = .int v → va_P E.1 vwCl (cw_X12 E q0 S0) H → va_D A (cw_X12 E q0 S0) → va_S A s.heap H locs → decode cX12_isWebLetter pc = .ok (.ireturn, 1) → W p l e ({ frames := 1, cells := 0, slots := 0, locals := 22 } : Room) s m ar below meth c H locs 0 0 QM (F0 m pc ls [.int v]) := by
    intro v H locs ls pc e hn hP hD hS d
    obtain rfl := sm_e e
    exact RET H locs pc ls hn hP hD hS d
  clear RET
  obtain ⟨H, eH⟩ : ∃ z, z = s.heap := ⟨_, rfl⟩
  rw [← eH]
  have hP : va_P E.1 vwCl (cw_X12 E q0 S0) H := by rw [eH]; exact hP
  have hS : va_S A s.heap H [] := by rw [eH]; exact hS
  clear eH
  obtain ⟨locs, el⟩ : ∃ z : List Loc, z = [] := ⟨_, rfl⟩
  rw [← el] at hS ⊢
  clear el
  refine lv_aload_n hx hb dX12_isWebLetter_0 rfl (lv_at hl 0 rfl) ?_
  obtain ⟨u1, hc, h⟩ := bd_el h
  refine ct_iA (w1 := cw_X12 E q0 S0) X hP hD hS (va_runV (C := RX12) (As := []) (rest := []) ⟨hx, hb, hml, hown, hg⟩ (c_X12_here l E q0 H.size S0 u1 hc) (cwV 0 hg (gwV wm_X12_156 wi_X12_here wsl_X12_here wini_X12 wco_X12_here) rfl rfl rfl (by decide +kernel) ⟨Nat.le_of_ble_eq_true rfl, Nat.le_of_ble_eq_true rfl⟩) ⟨ct_blind, ct_rv X.1 hP 0 rfl rfl, ct_preA X hP hD hS _⟩ rfl rfl hl.1 rfl (lv_room (Nat.le_of_ble_eq_true rfl)) dX12_isWebLetter_1 ⟨Nat.zero_le _, Nat.zero_le _⟩) (fun H locs hP hD hS => ?_)
  refine lv_bipush (v := 97) hx hb dX12_isWebLetter_4 (by decide) ?_
  refine lv_isub hx hb dX12_isWebLetter_6 ?_
  refine lv_iconst (v := 0) hx hb dX12_isWebLetter_7 (by decide) ?_
  refine lv_bipush (v := 7) hx hb dX12_isWebLetter_8 (by decide) ?_
  obtain ⟨u2, hc, h⟩ := bd_el h
  refine ct_iN X hP hD hS (va_runS (As := [.int (u1 - 97), .int 0, .int 7]) (rest := []) ⟨hx, hb, hml, hown, hg⟩ (c_X12_in l E  H.size (u1 - 97) 0 7 u2 hc) (va_cwS 3 hg (gwS wm_X12_110 wst_X12_in wini_X12 wco_X12_in) rfl rfl rfl (by decide +kernel) ⟨Nat.le_of_ble_eq_true rfl, Nat.le_of_ble_eq_true rfl⟩) ⟨ct_blind, ct_preN X hS _⟩ rfl rfl hl.1 rfl (lv_room (Nat.le_of_ble_eq_true rfl)) dX12_isWebLetter_10 ⟨Nat.zero_le _, Nat.zero_le _⟩) (fun H locs hP hD hS => ?_)
  obtain ⟨hn1, -, h⟩ := zb_el h
  exact RT u2 _ _ _ _ h hn1 hP hD hS dX12_isWebLetter_13
theorem dX12_isDigit_0 : decode cX12_isDigit 0 = .ok (.aload_n 0, 1) := by decide +kernel
theorem dX12_isDigit_1 : decode cX12_isDigit 1 = .ok (.invokevirtual 156, 3) := by decide +kernel
theorem dX12_isDigit_4 : decode cX12_isDigit 4 = .ok (.bipush 48, 2) := by decide +kernel
theorem dX12_isDigit_6 : decode cX12_isDigit 6 = .ok (.if_icmp .lt 16, 3) := by decide +kernel
theorem dX12_isDigit_9 : decode cX12_isDigit 9 = .ok (.aload_n 0, 1) := by decide +kernel
theorem dX12_isDigit_10 : decode cX12_isDigit 10 = .ok (.invokevirtual 156, 3) := by decide +kernel
theorem dX12_isDigit_13 : decode cX12_isDigit 13 = .ok (.bipush 57, 2) := by decide +kernel
theorem dX12_isDigit_15 : decode cX12_isDigit 15 = .ok (.if_icmp .gt 7, 3) := by decide +kernel
theorem dX12_isDigit_18 : decode cX12_isDigit 18 = .ok (.iconst 1, 1) := by decide +kernel
theorem dX12_isDigit_19 : decode cX12_isDigit 19 = .ok (.goto 4, 3) := by decide +kernel
theorem dX12_isDigit_22 : decode cX12_isDigit 22 = .ok (.iconst 0, 1) := by decide +kernel
theorem dX12_isDigit_23 : decode cX12_isDigit 23 = .ok (.ireturn, 1) := by decide +kernel
def f_X12_isDigit (S0 : Gr) : Option (Int32) := (f_X12_here S0).bind fun u1 => if u1 < 48 then (some 0) else ((f_X12_here S0).bind fun u3 => if 57 < u3 then (some 0) else (some 1))
set_option maxHeartbeats 4000000 in
set_option maxRecDepth 100000 in
theorem c_X12_isDigit (l : Launch) (E : Ec) (q0 : Nat → Nat) (sz : Nat) (S0 : Gr) (Rv : Int32) (h : f_X12_isDigit S0 = some Rv) : Met l yX12_isDigit (wsM (.code yX12_isDigit cX12_isDigit 1 (some .boolean))) ({ frames := 1, cells := 0, slots := 0, locals := 20 } : Room) (va_Pc [.ref (q0 0)] (ctP E (cw_X12 E q0 S0) sz)) (ctI E (cw_X12 E q0 S0) (cw_X12 E q0 S0) sz Rv) 0 0 (va_A (cw_X12 E q0 S0) sz) := by
  refine ct_metI (by decide) (Nat.le_of_ble_eq_true rfl) ?_
  intro p e s m ar below meth c A QM hx hb hml hown hg X hP hD hS RET ls hl
  have hown : s.vm.findClass RX12 = some m.cls := hown
  have hl : lv_has ls 1 [(0, .ref (q0 0))] := hl
  have RT : ∀ (v : Int32) (H : Heap) (locs : List Loc) (ls : Array Slot) (pc : Nat), some v = some Rv → narrow .boolean (.int v) = .int v → va_P E.1 vwCl (cw_X12 E q0 S0) H → va_D A (cw_X12 E q0 S0) → va_S A s.heap H locs → decode cX12_isDigit pc = .ok (.ireturn, 1) → W p l e ({ frames := 1, cells := 0, slots := 0, locals := 20 } : Room) s m ar below meth c H locs 0 0 QM (F0 m pc ls [.int v]) := by
    intro v H locs ls pc e hn hP hD hS d
    obtain rfl := sm_e e
    exact RET H locs pc ls hn hP hD hS d
  clear RET
  obtain ⟨H, eH⟩ : ∃ z, z = s.heap := ⟨_, rfl⟩
  rw [← eH]
  have hP : va_P E.1 vwCl (cw_X12 E q0 S0) H := by rw [eH]; exact hP
  have hS : va_S A s.heap H [] := by rw [eH]; exact hS
  clear eH
  obtain ⟨locs, el⟩ : ∃ z : List Loc, z = [] := ⟨_, rfl⟩
  rw [← el] at hS ⊢
  clear el
  refine lv_aload_n hx hb dX12_isDigit_0 rfl (lv_at hl 0 rfl) ?_
  obtain ⟨u1, hc, h⟩ := bd_el h
  refine ct_iA (w1 := cw_X12 E q0 S0) X hP hD hS (va_runV (C := RX12) (As := []) (rest := []) ⟨hx, hb, hml, hown, hg⟩ (c_X12_here l E q0 H.size S0 u1 hc) (cwV 0 hg (gwV wm_X12_156 wi_X12_here wsl_X12_here wini_X12 wco_X12_here) rfl rfl rfl (by decide +kernel) ⟨Nat.le_of_ble_eq_true rfl, Nat.le_of_ble_eq_true rfl⟩) ⟨ct_blind, ct_rv X.1 hP 0 rfl rfl, ct_preA X hP hD hS _⟩ rfl rfl hl.1 rfl (lv_room (Nat.le_of_ble_eq_true rfl)) dX12_isDigit_1 ⟨Nat.zero_le _, Nat.zero_le _⟩) (fun H locs hP hD hS => ?_)
  refine lv_bipush (v := 48) hx hb dX12_isDigit_4 (by decide) ?_
  refine lv_icmp_lt (tgt := 22) hx hb dX12_isDigit_6 (by decide) (fun c2 => ?_) (fun c2 => ?_)
  · have h := it_t h c2
    refine lv_iconst (v := 0) hx hb dX12_isDigit_22 (by decide) ?_
    exact RT 0 _ _ _ _ h (by decide +kernel) hP hD hS dX12_isDigit_23
  · have h := it_f h c2
    refine lv_aload_n hx hb dX12_isDigit_9 rfl (lv_at hl 0 rfl) ?_
    obtain ⟨u3, hc, h⟩ := bd_el h
    refine ct_iA (w1 := cw_X12 E q0 S0) X hP hD hS (va_runV (C := RX12) (As := []) (rest := []) ⟨hx, hb, hml, hown, hg⟩ (c_X12_here l E q0 H.size S0 u3 hc) (cwV 0 hg (gwV wm_X12_156 wi_X12_here wsl_X12_here wini_X12 wco_X12_here) rfl rfl rfl (by decide +kernel) ⟨Nat.le_of_ble_eq_true rfl, Nat.le_of_ble_eq_true rfl⟩) ⟨ct_blind, ct_rv X.1 hP 0 rfl rfl, ct_preA X hP hD hS _⟩ rfl rfl hl.1 rfl (lv_room (Nat.le_of_ble_eq_true rfl)) dX12_isDigit_10 ⟨Nat.zero_le _, Nat.zero_le _⟩) (fun H locs hP hD hS => ?_)
    refine lv_bipush (v := 57) hx hb dX12_isDigit_13 (by decide) ?_
    refine lv_icmp_gt (tgt := 22) hx hb dX12_isDigit_15 (by decide) (fun c4 => ?_) (fun c4 => ?_)
    · have h := it_t h c4
      refine lv_iconst (v := 0) hx hb dX12_isDigit_22 (by decide) ?_
      exact RT 0 _ _ _ _ h (by decide +kernel) hP hD hS dX12_isDigit_23
    · have h := it_f h c4
      refine lv_iconst (v := 1) hx hb dX12_isDigit_18 (by decide) ?_
      refine lv_goto (tgt := 23) hx hb dX12_isDigit_19 (by decide) ?_
      exact RT 1 _ _ _ _ h (by decide +kernel) hP hD hS dX12_isDigit_23
theorem dX12_wrongAt_0 : decode cX12_wrongAt 0 = .ok (.aload_n 0, 1) := by decide +kernel
theorem dX12_wrongAt_1 : decode cX12_wrongAt 1 = .ok (.sipush (-1000), 3) := by decide +kernel
theorem dX12_wrongAt_4 : decode cX12_wrongAt 4 = .ok (.iload_n 1, 1) := by decide +kernel
theorem dX12_wrongAt_5 : decode cX12_wrongAt 5 = .ok (.imul, 1) := by decide +kernel
theorem dX12_wrongAt_6 : decode cX12_wrongAt 6 = .ok (.iload_n 2, 1) := by decide +kernel
theorem dX12_wrongAt_7 : decode cX12_wrongAt 7 = .ok (.isub, 1) := by decide +kernel
theorem dX12_wrongAt_8 : decode cX12_wrongAt 8 = .ok (.putfield 160, 3) := by decide +kernel
theorem dX12_wrongAt_11 : decode cX12_wrongAt 11 = .ok (.iconst 0, 1) := by decide +kernel
theorem dX12_wrongAt_12 : decode cX12_wrongAt 12 = .ok (.ireturn, 1) := by decide +kernel
def f_X12_wrongAt (S0 : Gr) (x1 : Int32) (x2 : Int32) : Option (Int32 × Gr) := lt' (sI S0 11 (((-1000) * x1) - x2)) fun S0_1 => some (0, S0_1)
set_option maxHeartbeats 4000000 in
set_option maxRecDepth 100000 in
theorem c_X12_wrongAt (l : Launch) (E : Ec) (q0 : Nat → Nat) (sz : Nat) (S0 : Gr) (x1 : Int32) (x2 : Int32) (Rv : Int32 × Gr) (h : f_X12_wrongAt S0 x1 x2 = some Rv) : Met l yX12_wrongAt (wsM (.code yX12_wrongAt cX12_wrongAt 3 (some .boolean))) ({ frames := 0, cells := 0, slots := 0, locals := 0 } : Room) (va_Pc [.ref (q0 0), .int x1, .int x2] (ctP E (cw_X12 E q0 S0) sz)) (ctI E (cw_X12 E q0 S0) (cw_X12 E q0 Rv.2) sz Rv.1) 0 0 (va_A (cw_X12 E q0 S0) sz) := by
  refine ct_metI (by decide) (Nat.le_of_ble_eq_true rfl) ?_
  intro p e s m ar below meth c A QM hx hb hml hown hg X hP hD hS RET ls hl
  have hown : s.vm.findClass RX12 = some m.cls := hown
  have hl : lv_has ls 3 [(0, .ref (q0 0)), (1, .int x1), (2, .int x2)] := hl
  have RT : ∀ (v : Int32) (S0 : Gr) (H : Heap) (locs : List Loc) (ls : Array Slot) (pc : Nat), some (v, S0) = some Rv → narrow .boolean (.int v) = .int v → va_P E.1 vwCl (cw_X12 E q0 S0) H → va_D A (cw_X12 E q0 S0) → va_S A s.heap H locs → decode cX12_wrongAt pc = .ok (.ireturn, 1) → W p l e ({ frames := 0, cells := 0, slots := 0, locals := 0 } : Room) s m ar below meth c H locs 0 0 QM (F0 m pc ls [.int v]) := by
    intro v S0 H locs ls pc e hn hP hD hS d
    obtain rfl := sm_e e
    exact RET H locs pc ls hn hP hD hS d
  clear RET
  obtain ⟨H, eH⟩ : ∃ z, z = s.heap := ⟨_, rfl⟩
  rw [← eH]
  have hP : va_P E.1 vwCl (cw_X12 E q0 S0) H := by rw [eH]; exact hP
  have hS : va_S A s.heap H [] := by rw [eH]; exact hS
  clear eH
  obtain ⟨locs, el⟩ : ∃ z : List Loc, z = [] := ⟨_, rfl⟩
  rw [← el] at hS ⊢
  clear el
  refine lv_aload_n hx hb dX12_wrongAt_0 rfl (lv_at hl 0 rfl) ?_
  refine lv_sipush (v := (-1000)) hx hb dX12_wrongAt_1 (by decide) ?_
  refine lv_iload_n hx hb dX12_wrongAt_4 rfl (lv_at hl 1 rfl) ?_
  refine lv_imul hx hb dX12_wrongAt_5 ?_
  refine lv_iload_n hx hb dX12_wrongAt_6 rfl (lv_at hl 2 rfl) ?_
  refine lv_isub hx hb dX12_wrongAt_7 ?_
  obtain ⟨S0_1, eS, h⟩ := lt_el h
  refine va_put (D := E.1) (ci := 11) (v := .int (((-1000) * x1) - x2)) (ty := .int) (C := RX12) (T := TX12) (N := 57) hx hb hg in_X12 tyX12 tyX12_ok nmX12 hown X.1 hP hD hS 0 rfl rfl 11 (by decide) (hg _ wf_X12_160) (fun _ h9 => h9) rfl (by decide +kernel) rfl rfl (Nat.le_of_ble_eq_true rfl) dX12_wrongAt_8 (fun H locs hP hD hS => ?_)
  have hP : va_P E.1 vwCl (cw_X12 E q0 S0_1) H := by rw [eS]; exact hP
  have hD : va_D A (cw_X12 E q0 S0_1) := by rw [eS]; exact hD
  clear eS
  refine lv_iconst (v := 0) hx hb dX12_wrongAt_11 (by decide) ?_
  exact RT 0 S0_1 _ _ _ _ h (by decide +kernel) hP hD hS dX12_wrongAt_12
theorem dX12_readsWithin_0 : decode cX12_readsWithin 0 = .ok (.aload_n 0, 1) := by decide +kernel
theorem dX12_readsWithin_1 : decode cX12_readsWithin 1 = .ok (.getfield 150, 3) := by decide +kernel
theorem dX12_readsWithin_4 : decode cX12_readsWithin 4 = .ok (.istore_n 2, 1) := by decide +kernel
theorem dX12_readsWithin_5 : decode cX12_readsWithin 5 = .ok (.aload_n 0, 1) := by decide +kernel
theorem dX12_readsWithin_6 : decode cX12_readsWithin 6 = .ok (.invokevirtual 169, 3) := by decide +kernel
theorem dX12_readsWithin_9 : decode cX12_readsWithin 9 = .ok (.ifCond .ne 13, 3) := by decide +kernel
theorem dX12_readsWithin_12 : decode cX12_readsWithin 12 = .ok (.aload_n 0, 1) := by decide +kernel
theorem dX12_readsWithin_13 : decode cX12_readsWithin 13 = .ok (.iconst 1, 1) := by decide +kernel
theorem dX12_readsWithin_14 : decode cX12_readsWithin 14 = .ok (.aload_n 0, 1) := by decide +kernel
theorem dX12_readsWithin_15 : decode cX12_readsWithin 15 = .ok (.getfield 150, 3) := by decide +kernel
theorem dX12_readsWithin_18 : decode cX12_readsWithin 18 = .ok (.invokevirtual 163, 3) := by decide +kernel
theorem dX12_readsWithin_21 : decode cX12_readsWithin 21 = .ok (.ireturn, 1) := by decide +kernel
theorem dX12_readsWithin_22 : decode cX12_readsWithin 22 = .ok (.aload_n 0, 1) := by decide +kernel
theorem dX12_readsWithin_23 : decode cX12_readsWithin 23 = .ok (.iconst 0, 1) := by decide +kernel
theorem dX12_readsWithin_24 : decode cX12_readsWithin 24 = .ok (.putfield 166, 3) := by decide +kernel
theorem dX12_readsWithin_27 : decode cX12_readsWithin 27 = .ok (.aload_n 0, 1) := by decide +kernel
theorem dX12_readsWithin_28 : decode cX12_readsWithin 28 = .ok (.invokevirtual 169, 3) := by decide +kernel
theorem dX12_readsWithin_31 : decode cX12_readsWithin 31 = .ok (.ifCond .eq 55, 3) := by decide +kernel
theorem dX12_readsWithin_34 : decode cX12_readsWithin 34 = .ok (.aload_n 0, 1) := by decide +kernel
theorem dX12_readsWithin_35 : decode cX12_readsWithin 35 = .ok (.getfield 150, 3) := by decide +kernel
theorem dX12_readsWithin_38 : decode cX12_readsWithin 38 = .ok (.iload_n 2, 1) := by decide +kernel
theorem dX12_readsWithin_39 : decode cX12_readsWithin 39 = .ok (.iconst 2, 1) := by decide +kernel
theorem dX12_readsWithin_40 : decode cX12_readsWithin 40 = .ok (.iadd, 1) := by decide +kernel
theorem dX12_readsWithin_41 : decode cX12_readsWithin 41 = .ok (.if_icmp .ne 13, 3) := by decide +kernel
theorem dX12_readsWithin_44 : decode cX12_readsWithin 44 = .ok (.aload_n 0, 1) := by decide +kernel
theorem dX12_readsWithin_45 : decode cX12_readsWithin 45 = .ok (.iconst 2, 1) := by decide +kernel
theorem dX12_readsWithin_46 : decode cX12_readsWithin 46 = .ok (.aload_n 0, 1) := by decide +kernel
theorem dX12_readsWithin_47 : decode cX12_readsWithin 47 = .ok (.getfield 150, 3) := by decide +kernel
theorem dX12_readsWithin_50 : decode cX12_readsWithin 50 = .ok (.invokevirtual 163, 3) := by decide +kernel
theorem dX12_readsWithin_53 : decode cX12_readsWithin 53 = .ok (.ireturn, 1) := by decide +kernel
theorem dX12_readsWithin_54 : decode cX12_readsWithin 54 = .ok (.aload_n 0, 1) := by decide +kernel
theorem dX12_readsWithin_55 : decode cX12_readsWithin 55 = .ok (.bipush 10, 2) := by decide +kernel
theorem dX12_readsWithin_57 : decode cX12_readsWithin 57 = .ok (.aload_n 0, 1) := by decide +kernel
theorem dX12_readsWithin_58 : decode cX12_readsWithin 58 = .ok (.getfield 166, 3) := by decide +kernel
theorem dX12_readsWithin_61 : decode cX12_readsWithin 61 = .ok (.imul, 1) := by decide +kernel
theorem dX12_readsWithin_62 : decode cX12_readsWithin 62 = .ok (.aload_n 0, 1) := by decide +kernel
theorem dX12_readsWithin_63 : decode cX12_readsWithin 63 = .ok (.invokevirtual 156, 3) := by decide +kernel
theorem dX12_readsWithin_66 : decode cX12_readsWithin 66 = .ok (.iadd, 1) := by decide +kernel
theorem dX12_readsWithin_67 : decode cX12_readsWithin 67 = .ok (.bipush 48, 2) := by decide +kernel
theorem dX12_readsWithin_69 : decode cX12_readsWithin 69 = .ok (.isub, 1) := by decide +kernel
theorem dX12_readsWithin_70 : decode cX12_readsWithin 70 = .ok (.putfield 166, 3) := by decide +kernel
theorem dX12_readsWithin_73 : decode cX12_readsWithin 73 = .ok (.aload_n 0, 1) := by decide +kernel
theorem dX12_readsWithin_74 : decode cX12_readsWithin 74 = .ok (.aload_n 0, 1) := by decide +kernel
theorem dX12_readsWithin_75 : decode cX12_readsWithin 75 = .ok (.getfield 150, 3) := by decide +kernel
theorem dX12_readsWithin_78 : decode cX12_readsWithin 78 = .ok (.iconst 1, 1) := by decide +kernel
theorem dX12_readsWithin_79 : decode cX12_readsWithin 79 = .ok (.iadd, 1) := by decide +kernel
theorem dX12_readsWithin_80 : decode cX12_readsWithin 80 = .ok (.putfield 150, 3) := by decide +kernel
theorem dX12_readsWithin_83 : decode cX12_readsWithin 83 = .ok (.goto (-56), 3) := by decide +kernel
theorem dX12_readsWithin_86 : decode cX12_readsWithin 86 = .ok (.aload_n 0, 1) := by decide +kernel
theorem dX12_readsWithin_87 : decode cX12_readsWithin 87 = .ok (.getfield 166, 3) := by decide +kernel
theorem dX12_readsWithin_90 : decode cX12_readsWithin 90 = .ok (.iload_n 1, 1) := by decide +kernel
theorem dX12_readsWithin_91 : decode cX12_readsWithin 91 = .ok (.if_icmp .le 12, 3) := by decide +kernel
theorem dX12_readsWithin_94 : decode cX12_readsWithin 94 = .ok (.aload_n 0, 1) := by decide +kernel
theorem dX12_readsWithin_95 : decode cX12_readsWithin 95 = .ok (.iconst 3, 1) := by decide +kernel
theorem dX12_readsWithin_96 : decode cX12_readsWithin 96 = .ok (.iload_n 2, 1) := by decide +kernel
theorem dX12_readsWithin_97 : decode cX12_readsWithin 97 = .ok (.invokevirtual 163, 3) := by decide +kernel
theorem dX12_readsWithin_100 : decode cX12_readsWithin 100 = .ok (.ifCond .eq 7, 3) := by decide +kernel
theorem dX12_readsWithin_103 : decode cX12_readsWithin 103 = .ok (.iconst 1, 1) := by decide +kernel
theorem dX12_readsWithin_104 : decode cX12_readsWithin 104 = .ok (.goto 4, 3) := by decide +kernel
theorem dX12_readsWithin_107 : decode cX12_readsWithin 107 = .ok (.iconst 0, 1) := by decide +kernel
theorem dX12_readsWithin_108 : decode cX12_readsWithin 108 = .ok (.ireturn, 1) := by decide +kernel
def f_X12_readsWithin_n27 (x1 : Int32) : Nat → Gr → Int32 → Option (Int32 × Gr)
  | 0, _, _ => none
  | n + 1, S0, x2 => (f_X12_isDigit S0).bind fun u6 => if u6 = 0 then (if (S0.1 12) ≤ x1 then (some (1, S0)) else ((f_X12_wrongAt S0 3 x2).bind fun u9 => if u9.1 = 0 then (some (0, u9.2)) else (some (1, u9.2)))) else (if (S0.1 9) = (x2 + 2) then ((f_X12_wrongAt S0 2 (S0.1 9)).bind fun u15 => zb' u15.1 (some (u15.1, u15.2))) else ((f_X12_here S0).bind fun u12 => lt' (sI S0 12 (((10 * (S0.1 12)) + u12) - 48)) fun S0_13 => lt' (sI S0_13 9 ((S0_13.1 9) + 1)) fun S0_14 => f_X12_readsWithin_n27 x1 n S0_14 x2))
def f_X12_readsWithin (S0 : Gr) (x1 : Int32) : Option (Int32 × Gr) := lt' ((S0.1 9)) fun v1 => (f_X12_isDigit S0).bind fun u2 => if u2 = 0 then ((f_X12_wrongAt S0 1 (S0.1 9)).bind fun u5 => zb' u5.1 (some (u5.1, u5.2))) else (lt' (sI S0 12 0) fun S0_4 => f_X12_readsWithin_n27 x1 fu S0_4 v1)
set_option maxHeartbeats 4000000 in
set_option maxRecDepth 100000 in
theorem c_X12_readsWithin (l : Launch) (E : Ec) (q0 : Nat → Nat) (sz : Nat) (S0 : Gr) (x1 : Int32) (Rv : Int32 × Gr) (h : f_X12_readsWithin S0 x1 = some Rv) : Met l yX12_readsWithin (wsM (.code yX12_readsWithin cX12_readsWithin 3 (some .boolean))) ({ frames := 2, cells := 0, slots := 0, locals := 40 } : Room) (va_Pc [.ref (q0 0), .int x1] (ctP E (cw_X12 E q0 S0) sz)) (ctI E (cw_X12 E q0 S0) (cw_X12 E q0 Rv.2) sz Rv.1) 0 0 (va_A (cw_X12 E q0 S0) sz) := by
  refine ct_metI (by decide) (Nat.le_of_ble_eq_true rfl) ?_
  intro p e s m ar below meth c A QM hx hb hml hown hg X hP hD hS RET ls hl
  have hown : s.vm.findClass RX12 = some m.cls := hown
  have hl : lv_has ls 3 [(0, .ref (q0 0)), (1, .int x1)] := hl
  have RT : ∀ (v : Int32) (S0 : Gr) (H : Heap) (locs : List Loc) (ls : Array Slot) (pc : Nat), some (v, S0) = some Rv → narrow .boolean (.int v) = .int v → va_P E.1 vwCl (cw_X12 E q0 S0) H → va_D A (cw_X12 E q0 S0) → va_S A s.heap H locs → decode cX12_readsWithin pc = .ok (.ireturn, 1) → W p l e ({ frames := 2, cells := 0, slots := 0, locals := 40 } : Room) s m ar below meth c H locs 0 0 QM (F0 m pc ls [.int v]) := by
    intro v S0 H locs ls pc e hn hP hD hS d
    obtain rfl := sm_e e
    exact RET H locs pc ls hn hP hD hS d
  clear RET
  have N27 : ∀ (n : Nat) (S0 : Gr) (x2 : Int32) (H : Heap) (locs : List Loc) (ls : Array Slot), f_X12_readsWithin_n27 x1 n S0 x2 = some Rv → va_P E.1 vwCl (cw_X12 E q0 S0) H → va_D A (cw_X12 E q0 S0) → va_S A s.heap H locs → lv_has ls 3 [(0, .ref (q0 0)), (1, .int x1), (2, .int x2)] → W p l e ({ frames := 2, cells := 0, slots := 0, locals := 40 } : Room) s m ar below meth c H locs 0 0 QM (F0 m 27 ls []) := by
    intro n
    induction n with
    | zero => intro S0 x2 H locs ls h; exact nn_el h
    | succ n ih =>
      intro S0 x2 H locs ls h hP hD hS hl
      refine lv_aload_n hx hb dX12_readsWithin_27 rfl (lv_at hl 0 rfl) ?_
      obtain ⟨u6, hc, h⟩ := bd_el h
      refine ct_iA (w1 := cw_X12 E q0 S0) X hP hD hS (va_runV (C := RX12) (As := []) (rest := []) ⟨hx, hb, hml, hown, hg⟩ (c_X12_isDigit l E q0 H.size S0 u6 hc) (cwV 0 hg (gwV wm_X12_169 wi_X12_isDigit wsl_X12_isDigit wini_X12 wco_X12_isDigit) rfl rfl rfl (by decide +kernel) ⟨Nat.le_of_ble_eq_true rfl, Nat.le_of_ble_eq_true rfl⟩) ⟨ct_blind, ct_rv X.1 hP 0 rfl rfl, ct_preA X hP hD hS _⟩ rfl rfl hl.1 rfl (lv_room (Nat.le_of_ble_eq_true rfl)) dX12_readsWithin_28 ⟨Nat.zero_le _, Nat.zero_le _⟩) (fun H locs hP hD hS => ?_)
      refine lv_if_eq (tgt := 86) hx hb dX12_readsWithin_31 (by decide) (fun c7 => ?_) (fun c7 => ?_)
      · have h := it_t h c7
        refine lv_aload_n hx hb dX12_readsWithin_86 rfl (lv_at hl 0 rfl) ?_
        refine va_get (D := E.1) (ci := 11) (v := .int (S0.1 12)) (C := RX12) (T := TX12) (N := 57) hx hb hg in_X12 hown X.1 hP 0 rfl rfl 12 (by decide) (hg _ wf_X12_166) (fun _ h9 => h9) rfl dX12_readsWithin_87 ?_
        refine lv_iload_n hx hb dX12_readsWithin_90 rfl (lv_at hl 1 rfl) ?_
        refine lv_icmp_le (tgt := 103) hx hb dX12_readsWithin_91 (by decide) (fun c8 => ?_) (fun c8 => ?_)
        · have h := it_t h c8
          refine lv_iconst (v := 1) hx hb dX12_readsWithin_103 (by decide) ?_
          refine lv_goto (tgt := 108) hx hb dX12_readsWithin_104 (by decide) ?_
          exact RT 1 S0 _ _ _ _ h (by decide +kernel) hP hD hS dX12_readsWithin_108
        · have h := it_f h c8
          refine lv_aload_n hx hb dX12_readsWithin_94 rfl (lv_at hl 0 rfl) ?_
          refine lv_iconst (v := 3) hx hb dX12_readsWithin_95 (by decide) ?_
          refine lv_iload_n hx hb dX12_readsWithin_96 rfl (lv_at hl 2 rfl) ?_
          obtain ⟨u9, hc, h⟩ := bd_el h
          refine ct_iA (w1 := cw_X12 E q0 u9.2) X hP hD hS (va_runV (C := RX12) (As := [.int 3, .int x2]) (rest := []) ⟨hx, hb, hml, hown, hg⟩ (c_X12_wrongAt l E q0 H.size S0 3 x2 u9 hc) (cwV 2 hg (gwV wm_X12_163 wi_X12_wrongAt wsl_X12_wrongAt wini_X12 wco_X12_wrongAt) rfl rfl rfl (by decide +kernel) ⟨Nat.le_of_ble_eq_true rfl, Nat.le_of_ble_eq_true rfl⟩) ⟨ct_blind, ct_rv X.1 hP 0 rfl rfl, ct_preA X hP hD hS _⟩ rfl rfl hl.1 rfl (lv_room (Nat.le_of_ble_eq_true rfl)) dX12_readsWithin_97 ⟨Nat.zero_le _, Nat.zero_le _⟩) (fun H locs hP hD hS => ?_)
          refine lv_if_eq (tgt := 107) hx hb dX12_readsWithin_100 (by decide) (fun c10 => ?_) (fun c10 => ?_)
          · have h := it_t h c10
            refine lv_iconst (v := 0) hx hb dX12_readsWithin_107 (by decide) ?_
            exact RT 0 u9.2 _ _ _ _ h (by decide +kernel) hP hD hS dX12_readsWithin_108
          · have h := it_f h c10
            refine lv_iconst (v := 1) hx hb dX12_readsWithin_103 (by decide) ?_
            refine lv_goto (tgt := 108) hx hb dX12_readsWithin_104 (by decide) ?_
            exact RT 1 u9.2 _ _ _ _ h (by decide +kernel) hP hD hS dX12_readsWithin_108
      · have h := it_f h c7
        refine lv_aload_n hx hb dX12_readsWithin_34 rfl (lv_at hl 0 rfl) ?_
        refine va_get (D := E.1) (ci := 11) (v := .int (S0.1 9)) (C := RX12) (T := TX12) (N := 57) hx hb hg in_X12 hown X.1 hP 0 rfl rfl 9 (by decide) (hg _ wf_X12_150) (fun _ h9 => h9) rfl dX12_readsWithin_35 ?_
        refine lv_iload_n hx hb dX12_readsWithin_38 rfl (lv_at hl 2 rfl) ?_
        refine lv_iconst (v := 2) hx hb dX12_readsWithin_39 (by decide) ?_
        refine lv_iadd hx hb dX12_readsWithin_40 ?_
        refine lv_icmp_ne (tgt := 54) hx hb dX12_readsWithin_41 (by decide) (fun c11 => ?_) (fun c11 => ?_)
        · have h := it_f h c11
          refine lv_aload_n hx hb dX12_readsWithin_54 rfl (lv_at hl 0 rfl) ?_
          refine lv_bipush (v := 10) hx hb dX12_readsWithin_55 (by decide) ?_
          refine lv_aload_n hx hb dX12_readsWithin_57 rfl (lv_at hl 0 rfl) ?_
          refine va_get (D := E.1) (ci := 11) (v := .int (S0.1 12)) (C := RX12) (T := TX12) (N := 57) hx hb hg in_X12 hown X.1 hP 0 rfl rfl 12 (by decide) (hg _ wf_X12_166) (fun _ h9 => h9) rfl dX12_readsWithin_58 ?_
          refine lv_imul hx hb dX12_readsWithin_61 ?_
          refine lv_aload_n hx hb dX12_readsWithin_62 rfl (lv_at hl 0 rfl) ?_
          obtain ⟨u12, hc, h⟩ := bd_el h
          refine ct_iA (w1 := cw_X12 E q0 S0) X hP hD hS (va_runV (C := RX12) (As := []) (rest := [.int (10 * (S0.1 12)), .ref (q0 0)]) ⟨hx, hb, hml, hown, hg⟩ (c_X12_here l E q0 H.size S0 u12 hc) (cwV 0 hg (gwV wm_X12_156 wi_X12_here wsl_X12_here wini_X12 wco_X12_here) rfl rfl rfl (by decide +kernel) ⟨Nat.le_of_ble_eq_true rfl, Nat.le_of_ble_eq_true rfl⟩) ⟨ct_blind, ct_rv X.1 hP 0 rfl rfl, ct_preA X hP hD hS _⟩ rfl rfl hl.1 rfl (lv_room (Nat.le_of_ble_eq_true rfl)) dX12_readsWithin_63 ⟨Nat.zero_le _, Nat.zero_le _⟩) (fun H locs hP hD hS => ?_)
          refine lv_iadd hx hb dX12_readsWithin_66 ?_
          refine lv_bipush (v := 48) hx hb dX12_readsWithin_67 (by decide) ?_
          refine lv_isub hx hb dX12_readsWithin_69 ?_
          obtain ⟨S0_13, eS, h⟩ := lt_el h
          refine va_put (D := E.1) (ci := 11) (v := .int (((10 * (S0.1 12)) + u12) - 48)) (ty := .int) (C := RX12) (T := TX12) (N := 57) hx hb hg in_X12 tyX12 tyX12_ok nmX12 hown X.1 hP hD hS 0 rfl rfl 12 (by decide) (hg _ wf_X12_166) (fun _ h9 => h9) rfl (by decide +kernel) rfl rfl (Nat.le_of_ble_eq_true rfl) dX12_readsWithin_70 (fun H locs hP hD hS => ?_)
          have hP : va_P E.1 vwCl (cw_X12 E q0 S0_13) H := by rw [eS]; exact hP
          have hD : va_D A (cw_X12 E q0 S0_13) := by rw [eS]; exact hD
          clear eS
          refine lv_aload_n hx hb dX12_readsWithin_73 rfl (lv_at hl 0 rfl) ?_
          refine lv_aload_n hx hb dX12_readsWithin_74 rfl (lv_at hl 0 rfl) ?_
          refine va_get (D := E.1) (ci := 11) (v := .int (S0_13.1 9)) (C := RX12) (T := TX12) (N := 57) hx hb hg in_X12 hown X.1 hP 0 rfl rfl 9 (by decide) (hg _ wf_X12_150) (fun _ h9 => h9) rfl dX12_readsWithin_75 ?_
          refine lv_iconst (v := 1) hx hb dX12_readsWithin_78 (by decide) ?_
          refine lv_iadd hx hb dX12_readsWithin_79 ?_
          obtain ⟨S0_14, eS, h⟩ := lt_el h
          refine va_put (D := E.1) (ci := 11) (v := .int ((S0_13.1 9) + 1)) (ty := .int) (C := RX12) (T := TX12) (N := 57) hx hb hg in_X12 tyX12 tyX12_ok nmX12 hown X.1 hP hD hS 0 rfl rfl 9 (by decide) (hg _ wf_X12_150) (fun _ h9 => h9) rfl (by decide +kernel) rfl rfl (Nat.le_of_ble_eq_true rfl) dX12_readsWithin_80 (fun H locs hP hD hS => ?_)
          have hP : va_P E.1 vwCl (cw_X12 E q0 S0_14) H := by rw [eS]; exact hP
          have hD : va_D A (cw_X12 E q0 S0_14) := by rw [eS]; exact hD
          clear eS
          refine lv_goto (tgt := 27) hx hb dX12_readsWithin_83 (by decide) ?_
          exact ih S0_14 x2 _ _ _ h hP hD hS (lv_sub hl [0, 1, 2] rfl)
        · have h := it_t h c11
          refine lv_aload_n hx hb dX12_readsWithin_44 rfl (lv_at hl 0 rfl) ?_
          refine lv_iconst (v := 2) hx hb dX12_readsWithin_45 (by decide) ?_
          refine lv_aload_n hx hb dX12_readsWithin_46 rfl (lv_at hl 0 rfl) ?_
          refine va_get (D := E.1) (ci := 11) (v := .int (S0.1 9)) (C := RX12) (T := TX12) (N := 57) hx hb hg in_X12 hown X.1 hP 0 rfl rfl 9 (by decide) (hg _ wf_X12_150) (fun _ h9 => h9) rfl dX12_readsWithin_47 ?_
          obtain ⟨u15, hc, h⟩ := bd_el h
          refine ct_iA (w1 := cw_X12 E q0 u15.2) X hP hD hS (va_runV (C := RX12) (As := [.int 2, .int (S0.1 9)]) (rest := []) ⟨hx, hb, hml, hown, hg⟩ (c_X12_wrongAt l E q0 H.size S0 2 (S0.1 9) u15 hc) (cwV 2 hg (gwV wm_X12_163 wi_X12_wrongAt wsl_X12_wrongAt wini_X12 wco_X12_wrongAt) rfl rfl rfl (by decide +kernel) ⟨Nat.le_of_ble_eq_true rfl, Nat.le_of_ble_eq_true rfl⟩) ⟨ct_blind, ct_rv X.1 hP 0 rfl rfl, ct_preA X hP hD hS _⟩ rfl rfl hl.1 rfl (lv_room (Nat.le_of_ble_eq_true rfl)) dX12_readsWithin_50 ⟨Nat.zero_le _, Nat.zero_le _⟩) (fun H locs hP hD hS => ?_)
          obtain ⟨hn1, -, h⟩ := zb_el h
          exact RT u15.1 u15.2 _ _ _ _ h hn1 hP hD hS dX12_readsWithin_53
  obtain ⟨H, eH⟩ : ∃ z, z = s.heap := ⟨_, rfl⟩
  rw [← eH]
  have hP : va_P E.1 vwCl (cw_X12 E q0 S0) H := by rw [eH]; exact hP
  have hS : va_S A s.heap H [] := by rw [eH]; exact hS
  clear eH
  obtain ⟨locs, el⟩ : ∃ z : List Loc, z = [] := ⟨_, rfl⟩
  rw [← el] at hS ⊢
  clear el
  refine lv_aload_n hx hb dX12_readsWithin_0 rfl (lv_at hl 0 rfl) ?_
  refine va_get (D := E.1) (ci := 11) (v := .int (S0.1 9)) (C := RX12) (T := TX12) (N := 57) hx hb hg in_X12 hown X.1 hP 0 rfl rfl 9 (by decide) (hg _ wf_X12_150) (fun _ h9 => h9) rfl dX12_readsWithin_1 ?_
  obtain ⟨v1, ev1, h⟩ := lt_el h
  refine lv_top' ev1 ?_
  refine lv_istore_n (lv' := [(2, .int v1), (0, .ref (q0 0)), (1, .int x1)]) hx hb dX12_readsWithin_4 rfl hl (by decide) rfl (fun ls hl => ?_)
  refine lv_aload_n hx hb dX12_readsWithin_5 rfl (lv_at hl 1 rfl) ?_
  obtain ⟨u2, hc, h⟩ := bd_el h
  refine ct_iA (w1 := cw_X12 E q0 S0) X hP hD hS (va_runV (C := RX12) (As := []) (rest := []) ⟨hx, hb, hml, hown, hg⟩ (c_X12_isDigit l E q0 H.size S0 u2 hc) (cwV 0 hg (gwV wm_X12_169 wi_X12_isDigit wsl_X12_isDigit wini_X12 wco_X12_isDigit) rfl rfl rfl (by decide +kernel) ⟨Nat.le_of_ble_eq_true rfl, Nat.le_of_ble_eq_true rfl⟩) ⟨ct_blind, ct_rv X.1 hP 0 rfl rfl, ct_preA X hP hD hS _⟩ rfl rfl hl.1 rfl (lv_room (Nat.le_of_ble_eq_true rfl)) dX12_readsWithin_6 ⟨Nat.zero_le _, Nat.zero_le _⟩) (fun H locs hP hD hS => ?_)
  refine lv_if_ne (tgt := 22) hx hb dX12_readsWithin_9 (by decide) (fun c3 => ?_) (fun c3 => ?_)
  · have h := it_f h c3
    refine lv_aload_n hx hb dX12_readsWithin_22 rfl (lv_at hl 1 rfl) ?_
    refine lv_iconst (v := 0) hx hb dX12_readsWithin_23 (by decide) ?_
    obtain ⟨S0_4, eS, h⟩ := lt_el h
    refine va_put (D := E.1) (ci := 11) (v := .int 0) (ty := .int) (C := RX12) (T := TX12) (N := 57) hx hb hg in_X12 tyX12 tyX12_ok nmX12 hown X.1 hP hD hS 0 rfl rfl 12 (by decide) (hg _ wf_X12_166) (fun _ h9 => h9) rfl (by decide +kernel) rfl rfl (Nat.le_of_ble_eq_true rfl) dX12_readsWithin_24 (fun H locs hP hD hS => ?_)
    have hP : va_P E.1 vwCl (cw_X12 E q0 S0_4) H := by rw [eS]; exact hP
    have hD : va_D A (cw_X12 E q0 S0_4) := by rw [eS]; exact hD
    clear eS
    exact N27 fu S0_4 v1 _ _ _ h hP hD hS (lv_sub hl [1, 2, 0] rfl)
  · have h := it_t h c3
    refine lv_aload_n hx hb dX12_readsWithin_12 rfl (lv_at hl 1 rfl) ?_
    refine lv_iconst (v := 1) hx hb dX12_readsWithin_13 (by decide) ?_
    refine lv_aload_n hx hb dX12_readsWithin_14 rfl (lv_at hl 1 rfl) ?_
    refine va_get (D := E.1) (ci := 11) (v := .int (S0.1 9)) (C := RX12) (T := TX12) (N := 57) hx hb hg in_X12 hown X.1 hP 0 rfl rfl 9 (by decide) (hg _ wf_X12_150) (fun _ h9 => h9) rfl dX12_readsWithin_15 ?_
    obtain ⟨u5, hc, h⟩ := bd_el h
    refine ct_iA (w1 := cw_X12 E q0 u5.2) X hP hD hS (va_runV (C := RX12) (As := [.int 1, .int (S0.1 9)]) (rest := []) ⟨hx, hb, hml, hown, hg⟩ (c_X12_wrongAt l E q0 H.size S0 1 (S0.1 9) u5 hc) (cwV 2 hg (gwV wm_X12_163 wi_X12_wrongAt wsl_X12_wrongAt wini_X12 wco_X12_wrongAt) rfl rfl rfl (by decide +kernel) ⟨Nat.le_of_ble_eq_true rfl, Nat.le_of_ble_eq_true rfl⟩) ⟨ct_blind, ct_rv X.1 hP 0 rfl rfl, ct_preA X hP hD hS _⟩ rfl rfl hl.1 rfl (lv_room (Nat.le_of_ble_eq_true rfl)) dX12_readsWithin_18 ⟨Nat.zero_le _, Nat.zero_le _⟩) (fun H locs hP hD hS => ?_)
    obtain ⟨hn1, -, h⟩ := zb_el h
    exact RT u5.1 u5.2 _ _ _ _ h hn1 hP hD hS dX12_readsWithin_21
theorem dX12_takes_0 : decode cX12_takes 0 = .ok (.aload_n 0, 1) := by decide +kernel
theorem dX12_takes_1 : decode cX12_takes 1 = .ok (.invokevirtual 156, 3) := by decide +kernel
theorem dX12_takes_4 : decode cX12_takes 4 = .ok (.iload_n 1, 1) := by decide +kernel
theorem dX12_takes_5 : decode cX12_takes 5 = .ok (.if_icmp .eq 13, 3) := by decide +kernel
theorem dX12_takes_8 : decode cX12_takes 8 = .ok (.aload_n 0, 1) := by decide +kernel
theorem dX12_takes_9 : decode cX12_takes 9 = .ok (.iconst 1, 1) := by decide +kernel
theorem dX12_takes_10 : decode cX12_takes 10 = .ok (.aload_n 0, 1) := by decide +kernel
theorem dX12_takes_11 : decode cX12_takes 11 = .ok (.getfield 150, 3) := by decide +kernel
theorem dX12_takes_14 : decode cX12_takes 14 = .ok (.invokevirtual 163, 3) := by decide +kernel
theorem dX12_takes_17 : decode cX12_takes 17 = .ok (.ireturn, 1) := by decide +kernel
theorem dX12_takes_18 : decode cX12_takes 18 = .ok (.aload_n 0, 1) := by decide +kernel
theorem dX12_takes_19 : decode cX12_takes 19 = .ok (.aload_n 0, 1) := by decide +kernel
theorem dX12_takes_20 : decode cX12_takes 20 = .ok (.getfield 150, 3) := by decide +kernel
theorem dX12_takes_23 : decode cX12_takes 23 = .ok (.iconst 1, 1) := by decide +kernel
theorem dX12_takes_24 : decode cX12_takes 24 = .ok (.iadd, 1) := by decide +kernel
theorem dX12_takes_25 : decode cX12_takes 25 = .ok (.putfield 150, 3) := by decide +kernel
theorem dX12_takes_28 : decode cX12_takes 28 = .ok (.iconst 1, 1) := by decide +kernel
theorem dX12_takes_29 : decode cX12_takes 29 = .ok (.ireturn, 1) := by decide +kernel
def f_X12_takes (S0 : Gr) (x1 : Int32) : Option (Int32 × Gr) := (f_X12_here S0).bind fun u1 => if u1 = x1 then (lt' (sI S0 9 ((S0.1 9) + 1)) fun S0_3 => some (1, S0_3)) else ((f_X12_wrongAt S0 1 (S0.1 9)).bind fun u4 => zb' u4.1 (some (u4.1, u4.2)))
set_option maxHeartbeats 4000000 in
set_option maxRecDepth 100000 in
theorem c_X12_takes (l : Launch) (E : Ec) (q0 : Nat → Nat) (sz : Nat) (S0 : Gr) (x1 : Int32) (Rv : Int32 × Gr) (h : f_X12_takes S0 x1 = some Rv) : Met l yX12_takes (wsM (.code yX12_takes cX12_takes 2 (some .boolean))) ({ frames := 1, cells := 0, slots := 0, locals := 22 } : Room) (va_Pc [.ref (q0 0), .int x1] (ctP E (cw_X12 E q0 S0) sz)) (ctI E (cw_X12 E q0 S0) (cw_X12 E q0 Rv.2) sz Rv.1) 0 0 (va_A (cw_X12 E q0 S0) sz) := by
  refine ct_metI (by decide) (Nat.le_of_ble_eq_true rfl) ?_
  intro p e s m ar below meth c A QM hx hb hml hown hg X hP hD hS RET ls hl
  have hown : s.vm.findClass RX12 = some m.cls := hown
  have hl : lv_has ls 2 [(0, .ref (q0 0)), (1, .int x1)] := hl
  have RT : ∀ (v : Int32) (S0 : Gr) (H : Heap) (locs : List Loc) (ls : Array Slot) (pc : Nat), some (v, S0) = some Rv → narrow .boolean (.int v) = .int v → va_P E.1 vwCl (cw_X12 E q0 S0) H → va_D A (cw_X12 E q0 S0) → va_S A s.heap H locs → decode cX12_takes pc = .ok (.ireturn, 1) → W p l e ({ frames := 1, cells := 0, slots := 0, locals := 22 } : Room) s m ar below meth c H locs 0 0 QM (F0 m pc ls [.int v]) := by
    intro v S0 H locs ls pc e hn hP hD hS d
    obtain rfl := sm_e e
    exact RET H locs pc ls hn hP hD hS d
  clear RET
  obtain ⟨H, eH⟩ : ∃ z, z = s.heap := ⟨_, rfl⟩
  rw [← eH]
  have hP : va_P E.1 vwCl (cw_X12 E q0 S0) H := by rw [eH]; exact hP
  have hS : va_S A s.heap H [] := by rw [eH]; exact hS
  clear eH
  obtain ⟨locs, el⟩ : ∃ z : List Loc, z = [] := ⟨_, rfl⟩
  rw [← el] at hS ⊢
  clear el
  refine lv_aload_n hx hb dX12_takes_0 rfl (lv_at hl 0 rfl) ?_
  obtain ⟨u1, hc, h⟩ := bd_el h
  refine ct_iA (w1 := cw_X12 E q0 S0) X hP hD hS (va_runV (C := RX12) (As := []) (rest := []) ⟨hx, hb, hml, hown, hg⟩ (c_X12_here l E q0 H.size S0 u1 hc) (cwV 0 hg (gwV wm_X12_156 wi_X12_here wsl_X12_here wini_X12 wco_X12_here) rfl rfl rfl (by decide +kernel) ⟨Nat.le_of_ble_eq_true rfl, Nat.le_of_ble_eq_true rfl⟩) ⟨ct_blind, ct_rv X.1 hP 0 rfl rfl, ct_preA X hP hD hS _⟩ rfl rfl hl.1 rfl (lv_room (Nat.le_of_ble_eq_true rfl)) dX12_takes_1 ⟨Nat.zero_le _, Nat.zero_le _⟩) (fun H locs hP hD hS => ?_)
  refine lv_iload_n hx hb dX12_takes_4 rfl (lv_at hl 1 rfl) ?_
  refine lv_icmp_eq (tgt := 18) hx hb dX12_takes_5 (by decide) (fun c2 => ?_) (fun c2 => ?_)
  · have h := it_t h c2
    refine lv_aload_n hx hb dX12_takes_18 rfl (lv_at hl 0 rfl) ?_
    refine lv_aload_n hx hb dX12_takes_19 rfl (lv_at hl 0 rfl) ?_
    refine va_get (D := E.1) (ci := 11) (v := .int (S0.1 9)) (C := RX12) (T := TX12) (N := 57) hx hb hg in_X12 hown X.1 hP 0 rfl rfl 9 (by decide) (hg _ wf_X12_150) (fun _ h9 => h9) rfl dX12_takes_20 ?_
    refine lv_iconst (v := 1) hx hb dX12_takes_23 (by decide) ?_
    refine lv_iadd hx hb dX12_takes_24 ?_
    obtain ⟨S0_3, eS, h⟩ := lt_el h
    refine va_put (D := E.1) (ci := 11) (v := .int ((S0.1 9) + 1)) (ty := .int) (C := RX12) (T := TX12) (N := 57) hx hb hg in_X12 tyX12 tyX12_ok nmX12 hown X.1 hP hD hS 0 rfl rfl 9 (by decide) (hg _ wf_X12_150) (fun _ h9 => h9) rfl (by decide +kernel) rfl rfl (Nat.le_of_ble_eq_true rfl) dX12_takes_25 (fun H locs hP hD hS => ?_)
    have hP : va_P E.1 vwCl (cw_X12 E q0 S0_3) H := by rw [eS]; exact hP
    have hD : va_D A (cw_X12 E q0 S0_3) := by rw [eS]; exact hD
    clear eS
    refine lv_iconst (v := 1) hx hb dX12_takes_28 (by decide) ?_
    exact RT 1 S0_3 _ _ _ _ h (by decide +kernel) hP hD hS dX12_takes_29
  · have h := it_f h c2
    refine lv_aload_n hx hb dX12_takes_8 rfl (lv_at hl 0 rfl) ?_
    refine lv_iconst (v := 1) hx hb dX12_takes_9 (by decide) ?_
    refine lv_aload_n hx hb dX12_takes_10 rfl (lv_at hl 0 rfl) ?_
    refine va_get (D := E.1) (ci := 11) (v := .int (S0.1 9)) (C := RX12) (T := TX12) (N := 57) hx hb hg in_X12 hown X.1 hP 0 rfl rfl 9 (by decide) (hg _ wf_X12_150) (fun _ h9 => h9) rfl dX12_takes_11 ?_
    obtain ⟨u4, hc, h⟩ := bd_el h
    refine ct_iA (w1 := cw_X12 E q0 u4.2) X hP hD hS (va_runV (C := RX12) (As := [.int 1, .int (S0.1 9)]) (rest := []) ⟨hx, hb, hml, hown, hg⟩ (c_X12_wrongAt l E q0 H.size S0 1 (S0.1 9) u4 hc) (cwV 2 hg (gwV wm_X12_163 wi_X12_wrongAt wsl_X12_wrongAt wini_X12 wco_X12_wrongAt) rfl rfl rfl (by decide +kernel) ⟨Nat.le_of_ble_eq_true rfl, Nat.le_of_ble_eq_true rfl⟩) ⟨ct_blind, ct_rv X.1 hP 0 rfl rfl, ct_preA X hP hD hS _⟩ rfl rfl hl.1 rfl (lv_room (Nat.le_of_ble_eq_true rfl)) dX12_takes_14 ⟨Nat.zero_le _, Nat.zero_le _⟩) (fun H locs hP hD hS => ?_)
    obtain ⟨hn1, -, h⟩ := zb_el h
    exact RT u4.1 u4.2 _ _ _ _ h hn1 hP hD hS dX12_takes_17
theorem dX12_readsSpot_0 : decode cX12_readsSpot 0 = .ok (.aload_n 0, 1) := by decide +kernel
theorem dX12_readsSpot_1 : decode cX12_readsSpot 1 = .ok (.bipush 64, 2) := by decide +kernel
theorem dX12_readsSpot_3 : decode cX12_readsSpot 3 = .ok (.invokevirtual 239, 3) := by decide +kernel
theorem dX12_readsSpot_6 : decode cX12_readsSpot 6 = .ok (.ifCond .eq 12, 3) := by decide +kernel
theorem dX12_readsSpot_9 : decode cX12_readsSpot 9 = .ok (.aload_n 0, 1) := by decide +kernel
theorem dX12_readsSpot_10 : decode cX12_readsSpot 10 = .ok (.bipush 23, 2) := by decide +kernel
theorem dX12_readsSpot_12 : decode cX12_readsSpot 12 = .ok (.invokevirtual 252, 3) := by decide +kernel
theorem dX12_readsSpot_15 : decode cX12_readsSpot 15 = .ok (.ifCond .ne 5, 3) := by decide +kernel
theorem dX12_readsSpot_18 : decode cX12_readsSpot 18 = .ok (.iconst 0, 1) := by decide +kernel
theorem dX12_readsSpot_19 : decode cX12_readsSpot 19 = .ok (.ireturn, 1) := by decide +kernel
theorem dX12_readsSpot_20 : decode cX12_readsSpot 20 = .ok (.aload_n 0, 1) := by decide +kernel
theorem dX12_readsSpot_21 : decode cX12_readsSpot 21 = .ok (.getfield 166, 3) := by decide +kernel
theorem dX12_readsSpot_24 : decode cX12_readsSpot 24 = .ok (.istore_n 1, 1) := by decide +kernel
theorem dX12_readsSpot_25 : decode cX12_readsSpot 25 = .ok (.aload_n 0, 1) := by decide +kernel
theorem dX12_readsSpot_26 : decode cX12_readsSpot 26 = .ok (.bipush 44, 2) := by decide +kernel
theorem dX12_readsSpot_28 : decode cX12_readsSpot 28 = .ok (.invokevirtual 239, 3) := by decide +kernel
theorem dX12_readsSpot_31 : decode cX12_readsSpot 31 = .ok (.ifCond .eq 12, 3) := by decide +kernel
theorem dX12_readsSpot_34 : decode cX12_readsSpot 34 = .ok (.aload_n 0, 1) := by decide +kernel
theorem dX12_readsSpot_35 : decode cX12_readsSpot 35 = .ok (.bipush 15, 2) := by decide +kernel
theorem dX12_readsSpot_37 : decode cX12_readsSpot 37 = .ok (.invokevirtual 252, 3) := by decide +kernel
theorem dX12_readsSpot_40 : decode cX12_readsSpot 40 = .ok (.ifCond .ne 5, 3) := by decide +kernel
theorem dX12_readsSpot_43 : decode cX12_readsSpot 43 = .ok (.iconst 0, 1) := by decide +kernel
theorem dX12_readsSpot_44 : decode cX12_readsSpot 44 = .ok (.ireturn, 1) := by decide +kernel
theorem dX12_readsSpot_45 : decode cX12_readsSpot 45 = .ok (.aload_n 0, 1) := by decide +kernel
theorem dX12_readsSpot_46 : decode cX12_readsSpot 46 = .ok (.bipush 24, 2) := by decide +kernel
theorem dX12_readsSpot_48 : decode cX12_readsSpot 48 = .ok (.aload_n 0, 1) := by decide +kernel
theorem dX12_readsSpot_49 : decode cX12_readsSpot 49 = .ok (.getfield 166, 3) := by decide +kernel
theorem dX12_readsSpot_52 : decode cX12_readsSpot 52 = .ok (.imul, 1) := by decide +kernel
theorem dX12_readsSpot_53 : decode cX12_readsSpot 53 = .ok (.iload_n 1, 1) := by decide +kernel
theorem dX12_readsSpot_54 : decode cX12_readsSpot 54 = .ok (.iadd, 1) := by decide +kernel
theorem dX12_readsSpot_55 : decode cX12_readsSpot 55 = .ok (.putfield 255, 3) := by decide +kernel
theorem dX12_readsSpot_58 : decode cX12_readsSpot 58 = .ok (.iconst 1, 1) := by decide +kernel
theorem dX12_readsSpot_59 : decode cX12_readsSpot 59 = .ok (.ireturn, 1) := by decide +kernel
def f_X12_readsSpot (S0 : Gr) : Option (Int32 × Gr) := (f_X12_takes S0 64).bind fun u1 => if u1.1 = 0 then (some (0, u1.2)) else ((f_X12_readsWithin u1.2 23).bind fun u3 => if u3.1 = 0 then (some (0, u3.2)) else (lt' ((u3.2.1 12)) fun v5 => (f_X12_takes u3.2 44).bind fun u6 => if u6.1 = 0 then (some (0, u6.2)) else ((f_X12_readsWithin u6.2 15).bind fun u8 => if u8.1 = 0 then (some (0, u8.2)) else (lt' (sI u8.2 38 ((24 * (u8.2.1 12)) + v5)) fun S0_10 => some (1, S0_10)))))
set_option maxHeartbeats 4000000 in
set_option maxRecDepth 100000 in
theorem c_X12_readsSpot (l : Launch) (E : Ec) (q0 : Nat → Nat) (sz : Nat) (S0 : Gr) (Rv : Int32 × Gr) (h : f_X12_readsSpot S0 = some Rv) : Met l yX12_readsSpot (wsM (.code yX12_readsSpot cX12_readsSpot 2 (some .boolean))) ({ frames := 3, cells := 0, slots := 0, locals := 62 } : Room) (va_Pc [.ref (q0 0)] (ctP E (cw_X12 E q0 S0) sz)) (ctI E (cw_X12 E q0 S0) (cw_X12 E q0 Rv.2) sz Rv.1) 0 0 (va_A (cw_X12 E q0 S0) sz) := by
  refine ct_metI (by decide) (Nat.le_of_ble_eq_true rfl) ?_
  intro p e s m ar below meth c A QM hx hb hml hown hg X hP hD hS RET ls hl
  have hown : s.vm.findClass RX12 = some m.cls := hown
  have hl : lv_has ls 2 [(0, .ref (q0 0))] := hl
  have RT : ∀ (v : Int32) (S0 : Gr) (H : Heap) (locs : List Loc) (ls : Array Slot) (pc : Nat), some (v, S0) = some Rv → narrow .boolean (.int v) = .int v → va_P E.1 vwCl (cw_X12 E q0 S0) H → va_D A (cw_X12 E q0 S0) → va_S A s.heap H locs → decode cX12_readsSpot pc = .ok (.ireturn, 1) → W p l e ({ frames := 3, cells := 0, slots := 0, locals := 62 } : Room) s m ar below meth c H locs 0 0 QM (F0 m pc ls [.int v]) := by
    intro v S0 H locs ls pc e hn hP hD hS d
    obtain rfl := sm_e e
    exact RET H locs pc ls hn hP hD hS d
  clear RET
  obtain ⟨H, eH⟩ : ∃ z, z = s.heap := ⟨_, rfl⟩
  rw [← eH]
  have hP : va_P E.1 vwCl (cw_X12 E q0 S0) H := by rw [eH]; exact hP
  have hS : va_S A s.heap H [] := by rw [eH]; exact hS
  clear eH
  obtain ⟨locs, el⟩ : ∃ z : List Loc, z = [] := ⟨_, rfl⟩
  rw [← el] at hS ⊢
  clear el
  refine lv_aload_n hx hb dX12_readsSpot_0 rfl (lv_at hl 0 rfl) ?_
  refine lv_bipush (v := 64) hx hb dX12_readsSpot_1 (by decide) ?_
  obtain ⟨u1, hc, h⟩ := bd_el h
  refine ct_iA (w1 := cw_X12 E q0 u1.2) X hP hD hS (va_runV (C := RX12) (As := [.int 64]) (rest := []) ⟨hx, hb, hml, hown, hg⟩ (c_X12_takes l E q0 H.size S0 64 u1 hc) (cwV 1 hg (gwV wm_X12_239 wi_X12_takes wsl_X12_takes wini_X12 wco_X12_takes) rfl rfl rfl (by decide +kernel) ⟨Nat.le_of_ble_eq_true rfl, Nat.le_of_ble_eq_true rfl⟩) ⟨ct_blind, ct_rv X.1 hP 0 rfl rfl, ct_preA X hP hD hS _⟩ rfl rfl hl.1 rfl (lv_room (Nat.le_of_ble_eq_true rfl)) dX12_readsSpot_3 ⟨Nat.zero_le _, Nat.zero_le _⟩) (fun H locs hP hD hS => ?_)
  refine lv_if_eq (tgt := 18) hx hb dX12_readsSpot_6 (by decide) (fun c2 => ?_) (fun c2 => ?_)
  · have h := it_t h c2
    refine lv_iconst (v := 0) hx hb dX12_readsSpot_18 (by decide) ?_
    exact RT 0 u1.2 _ _ _ _ h (by decide +kernel) hP hD hS dX12_readsSpot_19
  · have h := it_f h c2
    refine lv_aload_n hx hb dX12_readsSpot_9 rfl (lv_at hl 0 rfl) ?_
    refine lv_bipush (v := 23) hx hb dX12_readsSpot_10 (by decide) ?_
    obtain ⟨u3, hc, h⟩ := bd_el h
    refine ct_iA (w1 := cw_X12 E q0 u3.2) X hP hD hS (va_runV (C := RX12) (As := [.int 23]) (rest := []) ⟨hx, hb, hml, hown, hg⟩ (c_X12_readsWithin l E q0 H.size u1.2 23 u3 hc) (cwV 1 hg (gwV wm_X12_252 wi_X12_readsWithin wsl_X12_readsWithin wini_X12 wco_X12_readsWithin) rfl rfl rfl (by decide +kernel) ⟨Nat.le_of_ble_eq_true rfl, Nat.le_of_ble_eq_true rfl⟩) ⟨ct_blind, ct_rv X.1 hP 0 rfl rfl, ct_preA X hP hD hS _⟩ rfl rfl hl.1 rfl (lv_room (Nat.le_of_ble_eq_true rfl)) dX12_readsSpot_12 ⟨Nat.zero_le _, Nat.zero_le _⟩) (fun H locs hP hD hS => ?_)
    refine lv_if_ne (tgt := 20) hx hb dX12_readsSpot_15 (by decide) (fun c4 => ?_) (fun c4 => ?_)
    · have h := it_f h c4
      refine lv_aload_n hx hb dX12_readsSpot_20 rfl (lv_at hl 0 rfl) ?_
      refine va_get (D := E.1) (ci := 11) (v := .int (u3.2.1 12)) (C := RX12) (T := TX12) (N := 57) hx hb hg in_X12 hown X.1 hP 0 rfl rfl 12 (by decide) (hg _ wf_X12_166) (fun _ h9 => h9) rfl dX12_readsSpot_21 ?_
      obtain ⟨v5, ev5, h⟩ := lt_el h
      refine lv_top' ev5 ?_
      refine lv_istore_n (lv' := [(1, .int v5), (0, .ref (q0 0))]) hx hb dX12_readsSpot_24 rfl hl (by decide) rfl (fun ls hl => ?_)
      refine lv_aload_n hx hb dX12_readsSpot_25 rfl (lv_at hl 1 rfl) ?_
      refine lv_bipush (v := 44) hx hb dX12_readsSpot_26 (by decide) ?_
      obtain ⟨u6, hc, h⟩ := bd_el h
      refine ct_iA (w1 := cw_X12 E q0 u6.2) X hP hD hS (va_runV (C := RX12) (As := [.int 44]) (rest := []) ⟨hx, hb, hml, hown, hg⟩ (c_X12_takes l E q0 H.size u3.2 44 u6 hc) (cwV 1 hg (gwV wm_X12_239 wi_X12_takes wsl_X12_takes wini_X12 wco_X12_takes) rfl rfl rfl (by decide +kernel) ⟨Nat.le_of_ble_eq_true rfl, Nat.le_of_ble_eq_true rfl⟩) ⟨ct_blind, ct_rv X.1 hP 0 rfl rfl, ct_preA X hP hD hS _⟩ rfl rfl hl.1 rfl (lv_room (Nat.le_of_ble_eq_true rfl)) dX12_readsSpot_28 ⟨Nat.zero_le _, Nat.zero_le _⟩) (fun H locs hP hD hS => ?_)
      refine lv_if_eq (tgt := 43) hx hb dX12_readsSpot_31 (by decide) (fun c7 => ?_) (fun c7 => ?_)
      · have h := it_t h c7
        refine lv_iconst (v := 0) hx hb dX12_readsSpot_43 (by decide) ?_
        exact RT 0 u6.2 _ _ _ _ h (by decide +kernel) hP hD hS dX12_readsSpot_44
      · have h := it_f h c7
        refine lv_aload_n hx hb dX12_readsSpot_34 rfl (lv_at hl 1 rfl) ?_
        refine lv_bipush (v := 15) hx hb dX12_readsSpot_35 (by decide) ?_
        obtain ⟨u8, hc, h⟩ := bd_el h
        refine ct_iA (w1 := cw_X12 E q0 u8.2) X hP hD hS (va_runV (C := RX12) (As := [.int 15]) (rest := []) ⟨hx, hb, hml, hown, hg⟩ (c_X12_readsWithin l E q0 H.size u6.2 15 u8 hc) (cwV 1 hg (gwV wm_X12_252 wi_X12_readsWithin wsl_X12_readsWithin wini_X12 wco_X12_readsWithin) rfl rfl rfl (by decide +kernel) ⟨Nat.le_of_ble_eq_true rfl, Nat.le_of_ble_eq_true rfl⟩) ⟨ct_blind, ct_rv X.1 hP 0 rfl rfl, ct_preA X hP hD hS _⟩ rfl rfl hl.1 rfl (lv_room (Nat.le_of_ble_eq_true rfl)) dX12_readsSpot_37 ⟨Nat.zero_le _, Nat.zero_le _⟩) (fun H locs hP hD hS => ?_)
        refine lv_if_ne (tgt := 45) hx hb dX12_readsSpot_40 (by decide) (fun c9 => ?_) (fun c9 => ?_)
        · have h := it_f h c9
          refine lv_aload_n hx hb dX12_readsSpot_45 rfl (lv_at hl 1 rfl) ?_
          refine lv_bipush (v := 24) hx hb dX12_readsSpot_46 (by decide) ?_
          refine lv_aload_n hx hb dX12_readsSpot_48 rfl (lv_at hl 1 rfl) ?_
          refine va_get (D := E.1) (ci := 11) (v := .int (u8.2.1 12)) (C := RX12) (T := TX12) (N := 57) hx hb hg in_X12 hown X.1 hP 0 rfl rfl 12 (by decide) (hg _ wf_X12_166) (fun _ h9 => h9) rfl dX12_readsSpot_49 ?_
          refine lv_imul hx hb dX12_readsSpot_52 ?_
          refine lv_iload_n hx hb dX12_readsSpot_53 rfl (lv_at hl 0 rfl) ?_
          refine lv_iadd hx hb dX12_readsSpot_54 ?_
          obtain ⟨S0_10, eS, h⟩ := lt_el h
          refine va_put (D := E.1) (ci := 11) (v := .int ((24 * (u8.2.1 12)) + v5)) (ty := .int) (C := RX12) (T := TX12) (N := 57) hx hb hg in_X12 tyX12 tyX12_ok nmX12 hown X.1 hP hD hS 0 rfl rfl 38 (by decide) (hg _ wf_X12_255) (fun _ h9 => h9) rfl (by decide +kernel) rfl rfl (Nat.le_of_ble_eq_true rfl) dX12_readsSpot_55 (fun H locs hP hD hS => ?_)
          have hP : va_P E.1 vwCl (cw_X12 E q0 S0_10) H := by rw [eS]; exact hP
          have hD : va_D A (cw_X12 E q0 S0_10) := by rw [eS]; exact hD
          clear eS
          refine lv_iconst (v := 1) hx hb dX12_readsSpot_58 (by decide) ?_
          exact RT 1 S0_10 _ _ _ _ h (by decide +kernel) hP hD hS dX12_readsSpot_59
        · have h := it_t h c9
          refine lv_iconst (v := 0) hx hb dX12_readsSpot_43 (by decide) ?_
          exact RT 0 u8.2 _ _ _ _ h (by decide +kernel) hP hD hS dX12_readsSpot_44
    · have h := it_t h c4
      refine lv_iconst (v := 0) hx hb dX12_readsSpot_18 (by decide) ?_
      exact RT 0 u3.2 _ _ _ _ h (by decide +kernel) hP hD hS dX12_readsSpot_19
theorem dX12_readsFleet_0 : decode cX12_readsFleet 0 = .ok (.aload_n 0, 1) := by decide +kernel
theorem dX12_readsFleet_1 : decode cX12_readsFleet 1 = .ok (.invokevirtual 258, 3) := by decide +kernel
theorem dX12_readsFleet_4 : decode cX12_readsFleet 4 = .ok (.ifCond .ne 5, 3) := by decide +kernel
theorem dX12_readsFleet_7 : decode cX12_readsFleet 7 = .ok (.iconst 0, 1) := by decide +kernel
theorem dX12_readsFleet_8 : decode cX12_readsFleet 8 = .ok (.ireturn, 1) := by decide +kernel
theorem dX12_readsFleet_9 : decode cX12_readsFleet 9 = .ok (.aload_n 0, 1) := by decide +kernel
theorem dX12_readsFleet_10 : decode cX12_readsFleet 10 = .ok (.getfield 71, 3) := by decide +kernel
theorem dX12_readsFleet_13 : decode cX12_readsFleet 13 = .ok (.iload_n 1, 1) := by decide +kernel
theorem dX12_readsFleet_14 : decode cX12_readsFleet 14 = .ok (.aload_n 0, 1) := by decide +kernel
theorem dX12_readsFleet_15 : decode cX12_readsFleet 15 = .ok (.getfield 255, 3) := by decide +kernel
theorem dX12_readsFleet_18 : decode cX12_readsFleet 18 = .ok (.iastore, 1) := by decide +kernel
theorem dX12_readsFleet_19 : decode cX12_readsFleet 19 = .ok (.aload_n 0, 1) := by decide +kernel
theorem dX12_readsFleet_20 : decode cX12_readsFleet 20 = .ok (.bipush 58, 2) := by decide +kernel
theorem dX12_readsFleet_22 : decode cX12_readsFleet 22 = .ok (.invokevirtual 239, 3) := by decide +kernel
theorem dX12_readsFleet_25 : decode cX12_readsFleet 25 = .ok (.ifCond .eq 12, 3) := by decide +kernel
theorem dX12_readsFleet_28 : decode cX12_readsFleet 28 = .ok (.aload_n 0, 1) := by decide +kernel
theorem dX12_readsFleet_29 : decode cX12_readsFleet 29 = .ok (.bipush 99, 2) := by decide +kernel
theorem dX12_readsFleet_31 : decode cX12_readsFleet 31 = .ok (.invokevirtual 252, 3) := by decide +kernel
theorem dX12_readsFleet_34 : decode cX12_readsFleet 34 = .ok (.ifCond .ne 5, 3) := by decide +kernel
theorem dX12_readsFleet_37 : decode cX12_readsFleet 37 = .ok (.iconst 0, 1) := by decide +kernel
theorem dX12_readsFleet_38 : decode cX12_readsFleet 38 = .ok (.ireturn, 1) := by decide +kernel
theorem dX12_readsFleet_39 : decode cX12_readsFleet 39 = .ok (.aload_n 0, 1) := by decide +kernel
theorem dX12_readsFleet_40 : decode cX12_readsFleet 40 = .ok (.getfield 74, 3) := by decide +kernel
theorem dX12_readsFleet_43 : decode cX12_readsFleet 43 = .ok (.iload_n 1, 1) := by decide +kernel
theorem dX12_readsFleet_44 : decode cX12_readsFleet 44 = .ok (.aload_n 0, 1) := by decide +kernel
theorem dX12_readsFleet_45 : decode cX12_readsFleet 45 = .ok (.getfield 166, 3) := by decide +kernel
theorem dX12_readsFleet_48 : decode cX12_readsFleet 48 = .ok (.iastore, 1) := by decide +kernel
theorem dX12_readsFleet_49 : decode cX12_readsFleet 49 = .ok (.aload_n 0, 1) := by decide +kernel
theorem dX12_readsFleet_50 : decode cX12_readsFleet 50 = .ok (.getfield 77, 3) := by decide +kernel
theorem dX12_readsFleet_53 : decode cX12_readsFleet 53 = .ok (.iload_n 1, 1) := by decide +kernel
theorem dX12_readsFleet_54 : decode cX12_readsFleet 54 = .ok (.iconst (-1), 1) := by decide +kernel
theorem dX12_readsFleet_55 : decode cX12_readsFleet 55 = .ok (.iastore, 1) := by decide +kernel
theorem dX12_readsFleet_56 : decode cX12_readsFleet 56 = .ok (.aload_n 0, 1) := by decide +kernel
theorem dX12_readsFleet_57 : decode cX12_readsFleet 57 = .ok (.invokevirtual 156, 3) := by decide +kernel
theorem dX12_readsFleet_60 : decode cX12_readsFleet 60 = .ok (.bipush 62, 2) := by decide +kernel
theorem dX12_readsFleet_62 : decode cX12_readsFleet 62 = .ok (.if_icmp .eq 5, 3) := by decide +kernel
theorem dX12_readsFleet_65 : decode cX12_readsFleet 65 = .ok (.iconst 1, 1) := by decide +kernel
theorem dX12_readsFleet_66 : decode cX12_readsFleet 66 = .ok (.ireturn, 1) := by decide +kernel
theorem dX12_readsFleet_67 : decode cX12_readsFleet 67 = .ok (.aload_n 0, 1) := by decide +kernel
theorem dX12_readsFleet_68 : decode cX12_readsFleet 68 = .ok (.aload_n 0, 1) := by decide +kernel
theorem dX12_readsFleet_69 : decode cX12_readsFleet 69 = .ok (.getfield 150, 3) := by decide +kernel
theorem dX12_readsFleet_72 : decode cX12_readsFleet 72 = .ok (.iconst 1, 1) := by decide +kernel
theorem dX12_readsFleet_73 : decode cX12_readsFleet 73 = .ok (.iadd, 1) := by decide +kernel
theorem dX12_readsFleet_74 : decode cX12_readsFleet 74 = .ok (.putfield 150, 3) := by decide +kernel
theorem dX12_readsFleet_77 : decode cX12_readsFleet 77 = .ok (.aload_n 0, 1) := by decide +kernel
theorem dX12_readsFleet_78 : decode cX12_readsFleet 78 = .ok (.invokevirtual 156, 3) := by decide +kernel
theorem dX12_readsFleet_81 : decode cX12_readsFleet 81 = .ok (.bipush 48, 2) := by decide +kernel
theorem dX12_readsFleet_83 : decode cX12_readsFleet 83 = .ok (.bipush 55, 2) := by decide +kernel
theorem dX12_readsFleet_85 : decode cX12_readsFleet 85 = .ok (.invokestatic 110, 3) := by decide +kernel
theorem dX12_readsFleet_88 : decode cX12_readsFleet 88 = .ok (.ifCond .ne 13, 3) := by decide +kernel
theorem dX12_readsFleet_91 : decode cX12_readsFleet 91 = .ok (.aload_n 0, 1) := by decide +kernel
theorem dX12_readsFleet_92 : decode cX12_readsFleet 92 = .ok (.iconst 1, 1) := by decide +kernel
theorem dX12_readsFleet_93 : decode cX12_readsFleet 93 = .ok (.aload_n 0, 1) := by decide +kernel
theorem dX12_readsFleet_94 : decode cX12_readsFleet 94 = .ok (.getfield 150, 3) := by decide +kernel
theorem dX12_readsFleet_97 : decode cX12_readsFleet 97 = .ok (.invokevirtual 163, 3) := by decide +kernel
theorem dX12_readsFleet_100 : decode cX12_readsFleet 100 = .ok (.ireturn, 1) := by decide +kernel
theorem dX12_readsFleet_101 : decode cX12_readsFleet 101 = .ok (.aload_n 0, 1) := by decide +kernel
theorem dX12_readsFleet_102 : decode cX12_readsFleet 102 = .ok (.getfield 77, 3) := by decide +kernel
theorem dX12_readsFleet_105 : decode cX12_readsFleet 105 = .ok (.iload_n 1, 1) := by decide +kernel
theorem dX12_readsFleet_106 : decode cX12_readsFleet 106 = .ok (.aload_n 0, 1) := by decide +kernel
theorem dX12_readsFleet_107 : decode cX12_readsFleet 107 = .ok (.invokevirtual 156, 3) := by decide +kernel
theorem dX12_readsFleet_110 : decode cX12_readsFleet 110 = .ok (.bipush 48, 2) := by decide +kernel
theorem dX12_readsFleet_112 : decode cX12_readsFleet 112 = .ok (.isub, 1) := by decide +kernel
theorem dX12_readsFleet_113 : decode cX12_readsFleet 113 = .ok (.iastore, 1) := by decide +kernel
theorem dX12_readsFleet_114 : decode cX12_readsFleet 114 = .ok (.aload_n 0, 1) := by decide +kernel
theorem dX12_readsFleet_115 : decode cX12_readsFleet 115 = .ok (.aload_n 0, 1) := by decide +kernel
theorem dX12_readsFleet_116 : decode cX12_readsFleet 116 = .ok (.getfield 150, 3) := by decide +kernel
theorem dX12_readsFleet_119 : decode cX12_readsFleet 119 = .ok (.iconst 1, 1) := by decide +kernel
theorem dX12_readsFleet_120 : decode cX12_readsFleet 120 = .ok (.iadd, 1) := by decide +kernel
theorem dX12_readsFleet_121 : decode cX12_readsFleet 121 = .ok (.putfield 150, 3) := by decide +kernel
theorem dX12_readsFleet_124 : decode cX12_readsFleet 124 = .ok (.iconst 1, 1) := by decide +kernel
theorem dX12_readsFleet_125 : decode cX12_readsFleet 125 = .ok (.ireturn, 1) := by decide +kernel
def f_X12_readsFleet (S0 : Gr) (x1 : Int32) : Option (Int32 × Gr) := (f_X12_readsSpot S0).bind fun u1 => if u1.1 = 0 then (some (0, u1.2)) else (ck' 8 x1 (lt' (sA u1.2 32 (Int32.toNatClampNeg x1) (u1.2.1 38)) fun S0_3 => (f_X12_takes S0_3 58).bind fun u4 => if u4.1 = 0 then (some (0, u4.2)) else ((f_X12_readsWithin u4.2 99).bind fun u6 => if u6.1 = 0 then (some (0, u6.2)) else (ck' 8 x1 (lt' (sA u6.2 33 (Int32.toNatClampNeg x1) (u6.2.1 12)) fun S0_8 => ck' 8 x1 (lt' (sA S0_8 34 (Int32.toNatClampNeg x1) (-1)) fun S0_9 => (f_X12_here S0_9).bind fun u10 => if u10 = 62 then (lt' (sI S0_9 9 ((S0_9.1 9) + 1)) fun S0_12 => (f_X12_here S0_12).bind fun u13 => (f_X12_in u13 48 55).bind fun u14 => if u14 = 0 then ((f_X12_wrongAt S0_12 1 (S0_12.1 9)).bind fun u19 => zb' u19.1 (some (u19.1, u19.2))) else ((f_X12_here S0_12).bind fun u16 => ck' 8 x1 (lt' (sA S0_12 34 (Int32.toNatClampNeg x1) (u16 - 48)) fun S0_17 => lt' (sI S0_17 9 ((S0_17.1 9) + 1)) fun S0_18 => some (1, S0_18)))) else (some (1, S0_9))))))))
set_option maxHeartbeats 4000000 in
set_option maxRecDepth 100000 in
theorem c_X12_readsFleet (l : Launch) (E : Ec) (q0 : Nat → Nat) (sz : Nat) (S0 : Gr) (x1 : Int32) (Rv : Int32 × Gr) (h : f_X12_readsFleet S0 x1 = some Rv) : Met l yX12_readsFleet (wsM (.code yX12_readsFleet cX12_readsFleet 2 (some .boolean))) ({ frames := 4, cells := 0, slots := 0, locals := 83 } : Room) (va_Pc [.ref (q0 0), .int x1] (ctP E (cw_X12 E q0 S0) sz)) (ctI E (cw_X12 E q0 S0) (cw_X12 E q0 Rv.2) sz Rv.1) 0 0 (va_A (cw_X12 E q0 S0) sz) := by
  refine ct_metI (by decide) (Nat.le_of_ble_eq_true rfl) ?_
  intro p e s m ar below meth c A QM hx hb hml hown hg X hP hD hS RET ls hl
  have hown : s.vm.findClass RX12 = some m.cls := hown
  have hl : lv_has ls 2 [(0, .ref (q0 0)), (1, .int x1)] := hl
  have RT : ∀ (v : Int32) (S0 : Gr) (H : Heap) (locs : List Loc) (ls : Array Slot) (pc : Nat), some (v, S0) = some Rv → narrow .boolean (.int v) = .int v → va_P E.1 vwCl (cw_X12 E q0 S0) H → va_D A (cw_X12 E q0 S0) → va_S A s.heap H locs → decode cX12_readsFleet pc = .ok (.ireturn, 1) → W p l e ({ frames := 4, cells := 0, slots := 0, locals := 83 } : Room) s m ar below meth c H locs 0 0 QM (F0 m pc ls [.int v]) := by
    intro v S0 H locs ls pc e hn hP hD hS d
    obtain rfl := sm_e e
    exact RET H locs pc ls hn hP hD hS d
  clear RET
  obtain ⟨H, eH⟩ : ∃ z, z = s.heap := ⟨_, rfl⟩
  rw [← eH]
  have hP : va_P E.1 vwCl (cw_X12 E q0 S0) H := by rw [eH]; exact hP
  have hS : va_S A s.heap H [] := by rw [eH]; exact hS
  clear eH
  obtain ⟨locs, el⟩ : ∃ z : List Loc, z = [] := ⟨_, rfl⟩
  rw [← el] at hS ⊢
  clear el
  refine lv_aload_n hx hb dX12_readsFleet_0 rfl (lv_at hl 0 rfl) ?_
  obtain ⟨u1, hc, h⟩ := bd_el h
  refine ct_iA (w1 := cw_X12 E q0 u1.2) X hP hD hS (va_runV (C := RX12) (As := []) (rest := []) ⟨hx, hb, hml, hown, hg⟩ (c_X12_readsSpot l E q0 H.size S0 u1 hc) (cwV 0 hg (gwV wm_X12_258 wi_X12_readsSpot wsl_X12_readsSpot wini_X12 wco_X12_readsSpot) rfl rfl rfl (by decide +kernel) ⟨Nat.le_of_ble_eq_true rfl, Nat.le_of_ble_eq_true rfl⟩) ⟨ct_blind, ct_rv X.1 hP 0 rfl rfl, ct_preA X hP hD hS _⟩ rfl rfl hl.1 rfl (lv_room (Nat.le_of_ble_eq_true rfl)) dX12_readsFleet_1 ⟨Nat.zero_le _, Nat.zero_le _⟩) (fun H locs hP hD hS => ?_)
  refine lv_if_ne (tgt := 9) hx hb dX12_readsFleet_4 (by decide) (fun c2 => ?_) (fun c2 => ?_)
  · have h := it_f h c2
    refine lv_aload_n hx hb dX12_readsFleet_9 rfl (lv_at hl 0 rfl) ?_
    refine va_get (D := E.1) (ci := 11) (v := .ref (q0 21)) (C := RX12) (T := TX12) (N := 57) hx hb hg in_X12 hown X.1 hP 0 rfl rfl 32 (by decide) (hg _ wf_X12_71) (fun _ h9 => h9) rfl dX12_readsFleet_10 ?_
    refine lv_iload_n hx hb dX12_readsFleet_13 rfl (lv_at hl 1 rfl) ?_
    refine lv_aload_n hx hb dX12_readsFleet_14 rfl (lv_at hl 0 rfl) ?_
    refine va_get (D := E.1) (ci := 11) (v := .int (u1.2.1 38)) (C := RX12) (T := TX12) (N := 57) hx hb hg in_X12 hown X.1 hP 0 rfl rfl 38 (by decide) (hg _ wf_X12_255) (fun _ h9 => h9) rfl dX12_readsFleet_15 ?_
    obtain ⟨hi, h⟩ := ck_el h
    obtain ⟨S0_3, eS, h⟩ := lt_el h
    refine va_iast hx hb X.1 hP hD hS 21 0 rfl rfl hi dX12_readsFleet_18 (fun H locs hP hD hS => ?_)
    have hP : va_P E.1 vwCl (cw_X12 E q0 S0_3) H := by rw [eS]; exact hP
    have hD : va_D A (cw_X12 E q0 S0_3) := by rw [eS]; exact hD
    clear eS
    refine lv_aload_n hx hb dX12_readsFleet_19 rfl (lv_at hl 0 rfl) ?_
    refine lv_bipush (v := 58) hx hb dX12_readsFleet_20 (by decide) ?_
    obtain ⟨u4, hc, h⟩ := bd_el h
    refine ct_iA (w1 := cw_X12 E q0 u4.2) X hP hD hS (va_runV (C := RX12) (As := [.int 58]) (rest := []) ⟨hx, hb, hml, hown, hg⟩ (c_X12_takes l E q0 H.size S0_3 58 u4 hc) (cwV 1 hg (gwV wm_X12_239 wi_X12_takes wsl_X12_takes wini_X12 wco_X12_takes) rfl rfl rfl (by decide +kernel) ⟨Nat.le_of_ble_eq_true rfl, Nat.le_of_ble_eq_true rfl⟩) ⟨ct_blind, ct_rv X.1 hP 0 rfl rfl, ct_preA X hP hD hS _⟩ rfl rfl hl.1 rfl (lv_room (Nat.le_of_ble_eq_true rfl)) dX12_readsFleet_22 ⟨Nat.zero_le _, Nat.zero_le _⟩) (fun H locs hP hD hS => ?_)
    refine lv_if_eq (tgt := 37) hx hb dX12_readsFleet_25 (by decide) (fun c5 => ?_) (fun c5 => ?_)
    · have h := it_t h c5
      refine lv_iconst (v := 0) hx hb dX12_readsFleet_37 (by decide) ?_
      exact RT 0 u4.2 _ _ _ _ h (by decide +kernel) hP hD hS dX12_readsFleet_38
    · have h := it_f h c5
      refine lv_aload_n hx hb dX12_readsFleet_28 rfl (lv_at hl 0 rfl) ?_
      refine lv_bipush (v := 99) hx hb dX12_readsFleet_29 (by decide) ?_
      obtain ⟨u6, hc, h⟩ := bd_el h
      refine ct_iA (w1 := cw_X12 E q0 u6.2) X hP hD hS (va_runV (C := RX12) (As := [.int 99]) (rest := []) ⟨hx, hb, hml, hown, hg⟩ (c_X12_readsWithin l E q0 H.size u4.2 99 u6 hc) (cwV 1 hg (gwV wm_X12_252 wi_X12_readsWithin wsl_X12_readsWithin wini_X12 wco_X12_readsWithin) rfl rfl rfl (by decide +kernel) ⟨Nat.le_of_ble_eq_true rfl, Nat.le_of_ble_eq_true rfl⟩) ⟨ct_blind, ct_rv X.1 hP 0 rfl rfl, ct_preA X hP hD hS _⟩ rfl rfl hl.1 rfl (lv_room (Nat.le_of_ble_eq_true rfl)) dX12_readsFleet_31 ⟨Nat.zero_le _, Nat.zero_le _⟩) (fun H locs hP hD hS => ?_)
      refine lv_if_ne (tgt := 39) hx hb dX12_readsFleet_34 (by decide) (fun c7 => ?_) (fun c7 => ?_)
      · have h := it_f h c7
        refine lv_aload_n hx hb dX12_readsFleet_39 rfl (lv_at hl 0 rfl) ?_
        refine va_get (D := E.1) (ci := 11) (v := .ref (q0 22)) (C := RX12) (T := TX12) (N := 57) hx hb hg in_X12 hown X.1 hP 0 rfl rfl 33 (by decide) (hg _ wf_X12_74) (fun _ h9 => h9) rfl dX12_readsFleet_40 ?_
        refine lv_iload_n hx hb dX12_readsFleet_43 rfl (lv_at hl 1 rfl) ?_
        refine lv_aload_n hx hb dX12_readsFleet_44 rfl (lv_at hl 0 rfl) ?_
        refine va_get (D := E.1) (ci := 11) (v := .int (u6.2.1 12)) (C := RX12) (T := TX12) (N := 57) hx hb hg in_X12 hown X.1 hP 0 rfl rfl 12 (by decide) (hg _ wf_X12_166) (fun _ h9 => h9) rfl dX12_readsFleet_45 ?_
        obtain ⟨hi, h⟩ := ck_el h
        obtain ⟨S0_8, eS, h⟩ := lt_el h
        refine va_iast hx hb X.1 hP hD hS 22 0 rfl rfl hi dX12_readsFleet_48 (fun H locs hP hD hS => ?_)
        have hP : va_P E.1 vwCl (cw_X12 E q0 S0_8) H := by rw [eS]; exact hP
        have hD : va_D A (cw_X12 E q0 S0_8) := by rw [eS]; exact hD
        clear eS
        refine lv_aload_n hx hb dX12_readsFleet_49 rfl (lv_at hl 0 rfl) ?_
        refine va_get (D := E.1) (ci := 11) (v := .ref (q0 23)) (C := RX12) (T := TX12) (N := 57) hx hb hg in_X12 hown X.1 hP 0 rfl rfl 34 (by decide) (hg _ wf_X12_77) (fun _ h9 => h9) rfl dX12_readsFleet_50 ?_
        refine lv_iload_n hx hb dX12_readsFleet_53 rfl (lv_at hl 1 rfl) ?_
        refine lv_iconst (v := (-1)) hx hb dX12_readsFleet_54 (by decide) ?_
        obtain ⟨hi, h⟩ := ck_el h
        obtain ⟨S0_9, eS, h⟩ := lt_el h
        refine va_iast hx hb X.1 hP hD hS 23 0 rfl rfl hi dX12_readsFleet_55 (fun H locs hP hD hS => ?_)
        have hP : va_P E.1 vwCl (cw_X12 E q0 S0_9) H := by rw [eS]; exact hP
        have hD : va_D A (cw_X12 E q0 S0_9) := by rw [eS]; exact hD
        clear eS
        refine lv_aload_n hx hb dX12_readsFleet_56 rfl (lv_at hl 0 rfl) ?_
        obtain ⟨u10, hc, h⟩ := bd_el h
        refine ct_iA (w1 := cw_X12 E q0 S0_9) X hP hD hS (va_runV (C := RX12) (As := []) (rest := []) ⟨hx, hb, hml, hown, hg⟩ (c_X12_here l E q0 H.size S0_9 u10 hc) (cwV 0 hg (gwV wm_X12_156 wi_X12_here wsl_X12_here wini_X12 wco_X12_here) rfl rfl rfl (by decide +kernel) ⟨Nat.le_of_ble_eq_true rfl, Nat.le_of_ble_eq_true rfl⟩) ⟨ct_blind, ct_rv X.1 hP 0 rfl rfl, ct_preA X hP hD hS _⟩ rfl rfl hl.1 rfl (lv_room (Nat.le_of_ble_eq_true rfl)) dX12_readsFleet_57 ⟨Nat.zero_le _, Nat.zero_le _⟩) (fun H locs hP hD hS => ?_)
        refine lv_bipush (v := 62) hx hb dX12_readsFleet_60 (by decide) ?_
        refine lv_icmp_eq (tgt := 67) hx hb dX12_readsFleet_62 (by decide) (fun c11 => ?_) (fun c11 => ?_)
        · have h := it_t h c11
          refine lv_aload_n hx hb dX12_readsFleet_67 rfl (lv_at hl 0 rfl) ?_
          refine lv_aload_n hx hb dX12_readsFleet_68 rfl (lv_at hl 0 rfl) ?_
          refine va_get (D := E.1) (ci := 11) (v := .int (S0_9.1 9)) (C := RX12) (T := TX12) (N := 57) hx hb hg in_X12 hown X.1 hP 0 rfl rfl 9 (by decide) (hg _ wf_X12_150) (fun _ h9 => h9) rfl dX12_readsFleet_69 ?_
          refine lv_iconst (v := 1) hx hb dX12_readsFleet_72 (by decide) ?_
          refine lv_iadd hx hb dX12_readsFleet_73 ?_
          obtain ⟨S0_12, eS, h⟩ := lt_el h
          refine va_put (D := E.1) (ci := 11) (v := .int ((S0_9.1 9) + 1)) (ty := .int) (C := RX12) (T := TX12) (N := 57) hx hb hg in_X12 tyX12 tyX12_ok nmX12 hown X.1 hP hD hS 0 rfl rfl 9 (by decide) (hg _ wf_X12_150) (fun _ h9 => h9) rfl (by decide +kernel) rfl rfl (Nat.le_of_ble_eq_true rfl) dX12_readsFleet_74 (fun H locs hP hD hS => ?_)
          have hP : va_P E.1 vwCl (cw_X12 E q0 S0_12) H := by rw [eS]; exact hP
          have hD : va_D A (cw_X12 E q0 S0_12) := by rw [eS]; exact hD
          clear eS
          refine lv_aload_n hx hb dX12_readsFleet_77 rfl (lv_at hl 0 rfl) ?_
          obtain ⟨u13, hc, h⟩ := bd_el h
          refine ct_iA (w1 := cw_X12 E q0 S0_12) X hP hD hS (va_runV (C := RX12) (As := []) (rest := []) ⟨hx, hb, hml, hown, hg⟩ (c_X12_here l E q0 H.size S0_12 u13 hc) (cwV 0 hg (gwV wm_X12_156 wi_X12_here wsl_X12_here wini_X12 wco_X12_here) rfl rfl rfl (by decide +kernel) ⟨Nat.le_of_ble_eq_true rfl, Nat.le_of_ble_eq_true rfl⟩) ⟨ct_blind, ct_rv X.1 hP 0 rfl rfl, ct_preA X hP hD hS _⟩ rfl rfl hl.1 rfl (lv_room (Nat.le_of_ble_eq_true rfl)) dX12_readsFleet_78 ⟨Nat.zero_le _, Nat.zero_le _⟩) (fun H locs hP hD hS => ?_)
          refine lv_bipush (v := 48) hx hb dX12_readsFleet_81 (by decide) ?_
          refine lv_bipush (v := 55) hx hb dX12_readsFleet_83 (by decide) ?_
          obtain ⟨u14, hc, h⟩ := bd_el h
          refine ct_iN X hP hD hS (va_runS (As := [.int u13, .int 48, .int 55]) (rest := []) ⟨hx, hb, hml, hown, hg⟩ (c_X12_in l E  H.size u13 48 55 u14 hc) (va_cwS 3 hg (gwS wm_X12_110 wst_X12_in wini_X12 wco_X12_in) rfl rfl rfl (by decide +kernel) ⟨Nat.le_of_ble_eq_true rfl, Nat.le_of_ble_eq_true rfl⟩) ⟨ct_blind, ct_preN X hS _⟩ rfl rfl hl.1 rfl (lv_room (Nat.le_of_ble_eq_true rfl)) dX12_readsFleet_85 ⟨Nat.zero_le _, Nat.zero_le _⟩) (fun H locs hP hD hS => ?_)
          refine lv_if_ne (tgt := 101) hx hb dX12_readsFleet_88 (by decide) (fun c15 => ?_) (fun c15 => ?_)
          · have h := it_f h c15
            refine lv_aload_n hx hb dX12_readsFleet_101 rfl (lv_at hl 0 rfl) ?_
            refine va_get (D := E.1) (ci := 11) (v := .ref (q0 23)) (C := RX12) (T := TX12) (N := 57) hx hb hg in_X12 hown X.1 hP 0 rfl rfl 34 (by decide) (hg _ wf_X12_77) (fun _ h9 => h9) rfl dX12_readsFleet_102 ?_
            refine lv_iload_n hx hb dX12_readsFleet_105 rfl (lv_at hl 1 rfl) ?_
            refine lv_aload_n hx hb dX12_readsFleet_106 rfl (lv_at hl 0 rfl) ?_
            obtain ⟨u16, hc, h⟩ := bd_el h
            refine ct_iA (w1 := cw_X12 E q0 S0_12) X hP hD hS (va_runV (C := RX12) (As := []) (rest := [.int x1, .ref (q0 23)]) ⟨hx, hb, hml, hown, hg⟩ (c_X12_here l E q0 H.size S0_12 u16 hc) (cwV 0 hg (gwV wm_X12_156 wi_X12_here wsl_X12_here wini_X12 wco_X12_here) rfl rfl rfl (by decide +kernel) ⟨Nat.le_of_ble_eq_true rfl, Nat.le_of_ble_eq_true rfl⟩) ⟨ct_blind, ct_rv X.1 hP 0 rfl rfl, ct_preA X hP hD hS _⟩ rfl rfl hl.1 rfl (lv_room (Nat.le_of_ble_eq_true rfl)) dX12_readsFleet_107 ⟨Nat.zero_le _, Nat.zero_le _⟩) (fun H locs hP hD hS => ?_)
            refine lv_bipush (v := 48) hx hb dX12_readsFleet_110 (by decide) ?_
            refine lv_isub hx hb dX12_readsFleet_112 ?_
            obtain ⟨hi, h⟩ := ck_el h
            obtain ⟨S0_17, eS, h⟩ := lt_el h
            refine va_iast hx hb X.1 hP hD hS 23 0 rfl rfl hi dX12_readsFleet_113 (fun H locs hP hD hS => ?_)
            have hP : va_P E.1 vwCl (cw_X12 E q0 S0_17) H := by rw [eS]; exact hP
            have hD : va_D A (cw_X12 E q0 S0_17) := by rw [eS]; exact hD
            clear eS
            refine lv_aload_n hx hb dX12_readsFleet_114 rfl (lv_at hl 0 rfl) ?_
            refine lv_aload_n hx hb dX12_readsFleet_115 rfl (lv_at hl 0 rfl) ?_
            refine va_get (D := E.1) (ci := 11) (v := .int (S0_17.1 9)) (C := RX12) (T := TX12) (N := 57) hx hb hg in_X12 hown X.1 hP 0 rfl rfl 9 (by decide) (hg _ wf_X12_150) (fun _ h9 => h9) rfl dX12_readsFleet_116 ?_
            refine lv_iconst (v := 1) hx hb dX12_readsFleet_119 (by decide) ?_
            refine lv_iadd hx hb dX12_readsFleet_120 ?_
            obtain ⟨S0_18, eS, h⟩ := lt_el h
            refine va_put (D := E.1) (ci := 11) (v := .int ((S0_17.1 9) + 1)) (ty := .int) (C := RX12) (T := TX12) (N := 57) hx hb hg in_X12 tyX12 tyX12_ok nmX12 hown X.1 hP hD hS 0 rfl rfl 9 (by decide) (hg _ wf_X12_150) (fun _ h9 => h9) rfl (by decide +kernel) rfl rfl (Nat.le_of_ble_eq_true rfl) dX12_readsFleet_121 (fun H locs hP hD hS => ?_)
            have hP : va_P E.1 vwCl (cw_X12 E q0 S0_18) H := by rw [eS]; exact hP
            have hD : va_D A (cw_X12 E q0 S0_18) := by rw [eS]; exact hD
            clear eS
            refine lv_iconst (v := 1) hx hb dX12_readsFleet_124 (by decide) ?_
            exact RT 1 S0_18 _ _ _ _ h (by decide +kernel) hP hD hS dX12_readsFleet_125
          · have h := it_t h c15
            refine lv_aload_n hx hb dX12_readsFleet_91 rfl (lv_at hl 0 rfl) ?_
            refine lv_iconst (v := 1) hx hb dX12_readsFleet_92 (by decide) ?_
            refine lv_aload_n hx hb dX12_readsFleet_93 rfl (lv_at hl 0 rfl) ?_
            refine va_get (D := E.1) (ci := 11) (v := .int (S0_12.1 9)) (C := RX12) (T := TX12) (N := 57) hx hb hg in_X12 hown X.1 hP 0 rfl rfl 9 (by decide) (hg _ wf_X12_150) (fun _ h9 => h9) rfl dX12_readsFleet_94 ?_
            obtain ⟨u19, hc, h⟩ := bd_el h
            refine ct_iA (w1 := cw_X12 E q0 u19.2) X hP hD hS (va_runV (C := RX12) (As := [.int 1, .int (S0_12.1 9)]) (rest := []) ⟨hx, hb, hml, hown, hg⟩ (c_X12_wrongAt l E q0 H.size S0_12 1 (S0_12.1 9) u19 hc) (cwV 2 hg (gwV wm_X12_163 wi_X12_wrongAt wsl_X12_wrongAt wini_X12 wco_X12_wrongAt) rfl rfl rfl (by decide +kernel) ⟨Nat.le_of_ble_eq_true rfl, Nat.le_of_ble_eq_true rfl⟩) ⟨ct_blind, ct_rv X.1 hP 0 rfl rfl, ct_preA X hP hD hS _⟩ rfl rfl hl.1 rfl (lv_room (Nat.le_of_ble_eq_true rfl)) dX12_readsFleet_97 ⟨Nat.zero_le _, Nat.zero_le _⟩) (fun H locs hP hD hS => ?_)
            obtain ⟨hn1, -, h⟩ := zb_el h
            exact RT u19.1 u19.2 _ _ _ _ h hn1 hP hD hS dX12_readsFleet_100
        · have h := it_f h c11
          refine lv_iconst (v := 1) hx hb dX12_readsFleet_65 (by decide) ?_
          exact RT 1 S0_9 _ _ _ _ h (by decide +kernel) hP hD hS dX12_readsFleet_66
      · have h := it_t h c7
        refine lv_iconst (v := 0) hx hb dX12_readsFleet_37 (by decide) ?_
        exact RT 0 u6.2 _ _ _ _ h (by decide +kernel) hP hD hS dX12_readsFleet_38
  · have h := it_t h c2
    refine lv_iconst (v := 0) hx hb dX12_readsFleet_7 (by decide) ?_
    exact RT 0 u1.2 _ _ _ _ h (by decide +kernel) hP hD hS dX12_readsFleet_8
theorem dX12_readsLine_0 : decode cX12_readsLine 0 = .ok (.aload_n 0, 1) := by decide +kernel
theorem dX12_readsLine_1 : decode cX12_readsLine 1 = .ok (.invokevirtual 261, 3) := by decide +kernel
theorem dX12_readsLine_4 : decode cX12_readsLine 4 = .ok (.ifCond .ne 20, 3) := by decide +kernel
theorem dX12_readsLine_7 : decode cX12_readsLine 7 = .ok (.aload_n 0, 1) := by decide +kernel
theorem dX12_readsLine_8 : decode cX12_readsLine 8 = .ok (.invokevirtual 264, 3) := by decide +kernel
theorem dX12_readsLine_11 : decode cX12_readsLine 11 = .ok (.ifCond .ne 13, 3) := by decide +kernel
theorem dX12_readsLine_14 : decode cX12_readsLine 14 = .ok (.aload_n 0, 1) := by decide +kernel
theorem dX12_readsLine_15 : decode cX12_readsLine 15 = .ok (.iconst 1, 1) := by decide +kernel
theorem dX12_readsLine_16 : decode cX12_readsLine 16 = .ok (.aload_n 0, 1) := by decide +kernel
theorem dX12_readsLine_17 : decode cX12_readsLine 17 = .ok (.getfield 150, 3) := by decide +kernel
theorem dX12_readsLine_20 : decode cX12_readsLine 20 = .ok (.invokevirtual 163, 3) := by decide +kernel
theorem dX12_readsLine_23 : decode cX12_readsLine 23 = .ok (.ireturn, 1) := by decide +kernel
theorem dX12_readsLine_24 : decode cX12_readsLine 24 = .ok (.aload_n 0, 1) := by decide +kernel
theorem dX12_readsLine_25 : decode cX12_readsLine 25 = .ok (.getfield 267, 3) := by decide +kernel
theorem dX12_readsLine_28 : decode cX12_readsLine 28 = .ok (.bipush 24, 2) := by decide +kernel
theorem dX12_readsLine_30 : decode cX12_readsLine 30 = .ok (.if_icmp .ne 13, 3) := by decide +kernel
theorem dX12_readsLine_33 : decode cX12_readsLine 33 = .ok (.aload_n 0, 1) := by decide +kernel
theorem dX12_readsLine_34 : decode cX12_readsLine 34 = .ok (.iconst 4, 1) := by decide +kernel
theorem dX12_readsLine_35 : decode cX12_readsLine 35 = .ok (.aload_n 0, 1) := by decide +kernel
theorem dX12_readsLine_36 : decode cX12_readsLine 36 = .ok (.getfield 150, 3) := by decide +kernel
theorem dX12_readsLine_39 : decode cX12_readsLine 39 = .ok (.invokevirtual 163, 3) := by decide +kernel
theorem dX12_readsLine_42 : decode cX12_readsLine 42 = .ok (.ireturn, 1) := by decide +kernel
theorem dX12_readsLine_43 : decode cX12_readsLine 43 = .ok (.aload_n 0, 1) := by decide +kernel
theorem dX12_readsLine_44 : decode cX12_readsLine 44 = .ok (.aload_n 0, 1) := by decide +kernel
theorem dX12_readsLine_45 : decode cX12_readsLine 45 = .ok (.getfield 267, 3) := by decide +kernel
theorem dX12_readsLine_48 : decode cX12_readsLine 48 = .ok (.iconst 1, 1) := by decide +kernel
theorem dX12_readsLine_49 : decode cX12_readsLine 49 = .ok (.iadd, 1) := by decide +kernel
theorem dX12_readsLine_50 : decode cX12_readsLine 50 = .ok (.putfield 267, 3) := by decide +kernel
theorem dX12_readsLine_53 : decode cX12_readsLine 53 = .ok (.aload_n 0, 1) := by decide +kernel
theorem dX12_readsLine_54 : decode cX12_readsLine 54 = .ok (.invokevirtual 261, 3) := by decide +kernel
theorem dX12_readsLine_57 : decode cX12_readsLine 57 = .ok (.istore_n 1, 1) := by decide +kernel
theorem dX12_readsLine_58 : decode cX12_readsLine 58 = .ok (.aload_n 0, 1) := by decide +kernel
theorem dX12_readsLine_59 : decode cX12_readsLine 59 = .ok (.invokevirtual 156, 3) := by decide +kernel
theorem dX12_readsLine_62 : decode cX12_readsLine 62 = .ok (.iload_n 1, 1) := by decide +kernel
theorem dX12_readsLine_63 : decode cX12_readsLine 63 = .ok (.ifCond .eq 8, 3) := by decide +kernel
theorem dX12_readsLine_66 : decode cX12_readsLine 66 = .ok (.bipush 97, 2) := by decide +kernel
theorem dX12_readsLine_68 : decode cX12_readsLine 68 = .ok (.goto 5, 3) := by decide +kernel
theorem dX12_readsLine_71 : decode cX12_readsLine 71 = .ok (.bipush 65, 2) := by decide +kernel
theorem dX12_readsLine_73 : decode cX12_readsLine 73 = .ok (.isub, 1) := by decide +kernel
theorem dX12_readsLine_74 : decode cX12_readsLine 74 = .ok (.istore_n 2, 1) := by decide +kernel
theorem dX12_readsLine_75 : decode cX12_readsLine 75 = .ok (.iload_n 1, 1) := by decide +kernel
theorem dX12_readsLine_76 : decode cX12_readsLine 76 = .ok (.ifCond .eq 10, 3) := by decide +kernel
theorem dX12_readsLine_79 : decode cX12_readsLine 79 = .ok (.aload_n 0, 1) := by decide +kernel
theorem dX12_readsLine_80 : decode cX12_readsLine 80 = .ok (.getfield 270, 3) := by decide +kernel
theorem dX12_readsLine_83 : decode cX12_readsLine 83 = .ok (.goto 7, 3) := by decide +kernel
theorem dX12_readsLine_86 : decode cX12_readsLine 86 = .ok (.aload_n 0, 1) := by decide +kernel
theorem dX12_readsLine_87 : decode cX12_readsLine 87 = .ok (.getfield 273, 3) := by decide +kernel
theorem dX12_readsLine_90 : decode cX12_readsLine 90 = .ok (.iload_n 2, 1) := by decide +kernel
theorem dX12_readsLine_91 : decode cX12_readsLine 91 = .ok (.invokestatic 118, 3) := by decide +kernel
theorem dX12_readsLine_94 : decode cX12_readsLine 94 = .ok (.ifCond .eq 14, 3) := by decide +kernel
theorem dX12_readsLine_97 : decode cX12_readsLine 97 = .ok (.aload_n 0, 1) := by decide +kernel
theorem dX12_readsLine_98 : decode cX12_readsLine 98 = .ok (.bipush 6, 2) := by decide +kernel
theorem dX12_readsLine_100 : decode cX12_readsLine 100 = .ok (.aload_n 0, 1) := by decide +kernel
theorem dX12_readsLine_101 : decode cX12_readsLine 101 = .ok (.getfield 150, 3) := by decide +kernel
theorem dX12_readsLine_104 : decode cX12_readsLine 104 = .ok (.invokevirtual 163, 3) := by decide +kernel
theorem dX12_readsLine_107 : decode cX12_readsLine 107 = .ok (.ireturn, 1) := by decide +kernel
theorem dX12_readsLine_108 : decode cX12_readsLine 108 = .ok (.aload_n 0, 1) := by decide +kernel
theorem dX12_readsLine_109 : decode cX12_readsLine 109 = .ok (.aload_n 0, 1) := by decide +kernel
theorem dX12_readsLine_110 : decode cX12_readsLine 110 = .ok (.getfield 150, 3) := by decide +kernel
theorem dX12_readsLine_113 : decode cX12_readsLine 113 = .ok (.iconst 1, 1) := by decide +kernel
theorem dX12_readsLine_114 : decode cX12_readsLine 114 = .ok (.iadd, 1) := by decide +kernel
theorem dX12_readsLine_115 : decode cX12_readsLine 115 = .ok (.putfield 150, 3) := by decide +kernel
theorem dX12_readsLine_118 : decode cX12_readsLine 118 = .ok (.iload_n 1, 1) := by decide +kernel
theorem dX12_readsLine_119 : decode cX12_readsLine 119 = .ok (.ifCond .ne 21, 3) := by decide +kernel
theorem dX12_readsLine_122 : decode cX12_readsLine 122 = .ok (.aload_n 0, 1) := by decide +kernel
theorem dX12_readsLine_123 : decode cX12_readsLine 123 = .ok (.aload_n 0, 1) := by decide +kernel
theorem dX12_readsLine_124 : decode cX12_readsLine 124 = .ok (.getfield 273, 3) := by decide +kernel
theorem dX12_readsLine_127 : decode cX12_readsLine 127 = .ok (.iconst 1, 1) := by decide +kernel
theorem dX12_readsLine_128 : decode cX12_readsLine 128 = .ok (.iload_n 2, 1) := by decide +kernel
theorem dX12_readsLine_129 : decode cX12_readsLine 129 = .ok (.ishl, 1) := by decide +kernel
theorem dX12_readsLine_130 : decode cX12_readsLine 130 = .ok (.ior, 1) := by decide +kernel
theorem dX12_readsLine_131 : decode cX12_readsLine 131 = .ok (.putfield 273, 3) := by decide +kernel
theorem dX12_readsLine_134 : decode cX12_readsLine 134 = .ok (.aload_n 0, 1) := by decide +kernel
theorem dX12_readsLine_135 : decode cX12_readsLine 135 = .ok (.iload_n 2, 1) := by decide +kernel
theorem dX12_readsLine_136 : decode cX12_readsLine 136 = .ok (.invokevirtual 276, 3) := by decide +kernel
theorem dX12_readsLine_139 : decode cX12_readsLine 139 = .ok (.ireturn, 1) := by decide +kernel
theorem dX12_readsLine_140 : decode cX12_readsLine 140 = .ok (.aload_n 0, 1) := by decide +kernel
theorem dX12_readsLine_141 : decode cX12_readsLine 141 = .ok (.aload_n 0, 1) := by decide +kernel
theorem dX12_readsLine_142 : decode cX12_readsLine 142 = .ok (.getfield 270, 3) := by decide +kernel
theorem dX12_readsLine_145 : decode cX12_readsLine 145 = .ok (.iconst 1, 1) := by decide +kernel
theorem dX12_readsLine_146 : decode cX12_readsLine 146 = .ok (.iload_n 2, 1) := by decide +kernel
theorem dX12_readsLine_147 : decode cX12_readsLine 147 = .ok (.ishl, 1) := by decide +kernel
theorem dX12_readsLine_148 : decode cX12_readsLine 148 = .ok (.ior, 1) := by decide +kernel
theorem dX12_readsLine_149 : decode cX12_readsLine 149 = .ok (.putfield 270, 3) := by decide +kernel
theorem dX12_readsLine_152 : decode cX12_readsLine 152 = .ok (.aload_n 0, 1) := by decide +kernel
theorem dX12_readsLine_153 : decode cX12_readsLine 153 = .ok (.invokevirtual 258, 3) := by decide +kernel
theorem dX12_readsLine_156 : decode cX12_readsLine 156 = .ok (.ifCond .ne 5, 3) := by decide +kernel
theorem dX12_readsLine_159 : decode cX12_readsLine 159 = .ok (.iconst 0, 1) := by decide +kernel
theorem dX12_readsLine_160 : decode cX12_readsLine 160 = .ok (.ireturn, 1) := by decide +kernel
theorem dX12_readsLine_161 : decode cX12_readsLine 161 = .ok (.aload_n 0, 1) := by decide +kernel
theorem dX12_readsLine_162 : decode cX12_readsLine 162 = .ok (.getfield 68, 3) := by decide +kernel
theorem dX12_readsLine_165 : decode cX12_readsLine 165 = .ok (.iload_n 2, 1) := by decide +kernel
theorem dX12_readsLine_166 : decode cX12_readsLine 166 = .ok (.aload_n 0, 1) := by decide +kernel
theorem dX12_readsLine_167 : decode cX12_readsLine 167 = .ok (.getfield 255, 3) := by decide +kernel
theorem dX12_readsLine_170 : decode cX12_readsLine 170 = .ok (.iastore, 1) := by decide +kernel
theorem dX12_readsLine_171 : decode cX12_readsLine 171 = .ok (.iconst 1, 1) := by decide +kernel
theorem dX12_readsLine_172 : decode cX12_readsLine 172 = .ok (.ireturn, 1) := by decide +kernel
def f_X12_readsLine_n90  (S0 : Gr) (x1 : Int32) (x2 : Int32) (w0 : Int32) : Option (Int32 × Gr) := (f_X12_has w0 x2).bind fun u16 => if u16 = 0 then (lt' (sI S0 9 ((S0.1 9) + 1)) fun S0_18 => if x1 = 0 then (lt' (sI S0_18 36 ((S0_18.1 36) ||| (1 <<< (x2 &&& 31)))) fun S0_24 => (f_X12_readsFleet S0_24 x2).bind fun u25 => zb' u25.1 (some (u25.1, u25.2))) else (lt' (sI S0_18 35 ((S0_18.1 35) ||| (1 <<< (x2 &&& 31)))) fun S0_20 => (f_X12_readsSpot S0_20).bind fun u21 => if u21.1 = 0 then (some (0, u21.2)) else (ck' 8 x2 (lt' (sA u21.2 31 (Int32.toNatClampNeg x2) (u21.2.1 38)) fun S0_23 => some (1, S0_23))))) else ((f_X12_wrongAt S0 6 (S0.1 9)).bind fun u26 => zb' u26.1 (some (u26.1, u26.2)))
def f_X12_readsLine_n24  (S0 : Gr) : Option (Int32 × Gr) := if (S0.1 37) = 24 then ((f_X12_wrongAt S0 4 (S0.1 9)).bind fun u15 => zb' u15.1 (some (u15.1, u15.2))) else (lt' (sI S0 37 ((S0.1 37) + 1)) fun S0_7 => (f_X12_isWebLetter S0_7).bind fun u8 => (f_X12_here S0_7).bind fun u9 => if u8 = 0 then (lt' ((u9 - 65)) fun v11 => if u8 = 0 then (f_X12_readsLine_n90 S0_7 u8 v11 (S0_7.1 36)) else (f_X12_readsLine_n90 S0_7 u8 v11 (S0_7.1 35))) else (lt' ((u9 - 97)) fun v13 => if u8 = 0 then (f_X12_readsLine_n90 S0_7 u8 v13 (S0_7.1 36)) else (f_X12_readsLine_n90 S0_7 u8 v13 (S0_7.1 35))))
def f_X12_readsLine (S0 : Gr) : Option (Int32 × Gr) := (f_X12_isWebLetter S0).bind fun u1 => if u1 = 0 then ((f_X12_isFleetLetter S0).bind fun u3 => if u3 = 0 then ((f_X12_wrongAt S0 1 (S0.1 9)).bind fun u5 => zb' u5.1 (some (u5.1, u5.2))) else (f_X12_readsLine_n24 S0)) else (f_X12_readsLine_n24 S0)
set_option maxHeartbeats 4000000 in
set_option maxRecDepth 100000 in
theorem c_X12_readsLine (l : Launch) (E : Ec) (q0 : Nat → Nat) (sz : Nat) (S0 : Gr) (Rv : Int32 × Gr) (h : f_X12_readsLine S0 = some Rv) : Met l yX12_readsLine (wsM (.code yX12_readsLine cX12_readsLine 3 (some .boolean))) ({ frames := 5, cells := 0, slots := 0, locals := 104 } : Room) (va_Pc [.ref (q0 0)] (ctP E (cw_X12 E q0 S0) sz)) (ctI E (cw_X12 E q0 S0) (cw_X12 E q0 Rv.2) sz Rv.1) 0 0 (va_A (cw_X12 E q0 S0) sz) := by
  refine ct_metI (by decide) (Nat.le_of_ble_eq_true rfl) ?_
  intro p e s m ar below meth c A QM hx hb hml hown hg X hP hD hS RET ls hl
  have hown : s.vm.findClass RX12 = some m.cls := hown
  have hl : lv_has ls 3 [(0, .ref (q0 0))] := hl
  have RT : ∀ (v : Int32) (S0 : Gr) (H : Heap) (locs : List Loc) (ls : Array Slot) (pc : Nat), some (v, S0) = some Rv → narrow .boolean (.int v) = .int v → va_P E.1 vwCl (cw_X12 E q0 S0) H → va_D A (cw_X12 E q0 S0) → va_S A s.heap H locs → decode cX12_readsLine pc = .ok (.ireturn, 1) → W p l e ({ frames := 5, cells := 0, slots := 0, locals := 104 } : Room) s m ar below meth c H locs 0 0 QM (F0 m pc ls [.int v]) := by
    intro v S0 H locs ls pc e hn hP hD hS d
    obtain rfl := sm_e e
    exact RET H locs pc ls hn hP hD hS d
  clear RET
  have N90 : ∀ (S0 : Gr) (x1 : Int32) (x2 : Int32) (w0 : Int32) (H : Heap) (locs : List Loc) (ls : Array Slot), f_X12_readsLine_n90 S0 x1 x2 w0 = some Rv → va_P E.1 vwCl (cw_X12 E q0 S0) H → va_D A (cw_X12 E q0 S0) → va_S A s.heap H locs → lv_has ls 3 [(0, .ref (q0 0)), (1, .int x1), (2, .int x2)] → W p l e ({ frames := 5, cells := 0, slots := 0, locals := 104 } : Room) s m ar below meth c H locs 0 0 QM (F0 m 90 ls [.int w0]) := by
    intro S0 x1 x2 w0 H locs ls h hP hD hS hl
    refine lv_iload_n hx hb dX12_readsLine_90 rfl (lv_at hl 2 rfl) ?_
    obtain ⟨u16, hc, h⟩ := bd_el h
    refine ct_iN X hP hD hS (va_runS (As := [.int w0, .int x2]) (rest := []) ⟨hx, hb, hml, hown, hg⟩ (c_X12_has l E  H.size w0 x2 u16 hc) (va_cwS 2 hg (gwS wm_X12_118 wst_X12_has wini_X12 wco_X12_has) rfl rfl rfl (by decide +kernel) ⟨Nat.le_of_ble_eq_true rfl, Nat.le_of_ble_eq_true rfl⟩) ⟨ct_blind, ct_preN X hS _⟩ rfl rfl hl.1 rfl (lv_room (Nat.le_of_ble_eq_true rfl)) dX12_readsLine_91 ⟨Nat.zero_le _, Nat.zero_le _⟩) (fun H locs hP hD hS => ?_)
    refine lv_if_eq (tgt := 108) hx hb dX12_readsLine_94 (by decide) (fun c17 => ?_) (fun c17 => ?_)
    · have h := it_t h c17
      refine lv_aload_n hx hb dX12_readsLine_108 rfl (lv_at hl 0 rfl) ?_
      refine lv_aload_n hx hb dX12_readsLine_109 rfl (lv_at hl 0 rfl) ?_
      refine va_get (D := E.1) (ci := 11) (v := .int (S0.1 9)) (C := RX12) (T := TX12) (N := 57) hx hb hg in_X12 hown X.1 hP 0 rfl rfl 9 (by decide) (hg _ wf_X12_150) (fun _ h9 => h9) rfl dX12_readsLine_110 ?_
      refine lv_iconst (v := 1) hx hb dX12_readsLine_113 (by decide) ?_
      refine lv_iadd hx hb dX12_readsLine_114 ?_
      obtain ⟨S0_18, eS, h⟩ := lt_el h
      refine va_put (D := E.1) (ci := 11) (v := .int ((S0.1 9) + 1)) (ty := .int) (C := RX12) (T := TX12) (N := 57) hx hb hg in_X12 tyX12 tyX12_ok nmX12 hown X.1 hP hD hS 0 rfl rfl 9 (by decide) (hg _ wf_X12_150) (fun _ h9 => h9) rfl (by decide +kernel) rfl rfl (Nat.le_of_ble_eq_true rfl) dX12_readsLine_115 (fun H locs hP hD hS => ?_)
      have hP : va_P E.1 vwCl (cw_X12 E q0 S0_18) H := by rw [eS]; exact hP
      have hD : va_D A (cw_X12 E q0 S0_18) := by rw [eS]; exact hD
      clear eS
      refine lv_iload_n hx hb dX12_readsLine_118 rfl (lv_at hl 1 rfl) ?_
      refine lv_if_ne (tgt := 140) hx hb dX12_readsLine_119 (by decide) (fun c19 => ?_) (fun c19 => ?_)
      · have h := it_f h c19
        refine lv_aload_n hx hb dX12_readsLine_140 rfl (lv_at hl 0 rfl) ?_
        refine lv_aload_n hx hb dX12_readsLine_141 rfl (lv_at hl 0 rfl) ?_
        refine va_get (D := E.1) (ci := 11) (v := .int (S0_18.1 35)) (C := RX12) (T := TX12) (N := 57) hx hb hg in_X12 hown X.1 hP 0 rfl rfl 35 (by decide) (hg _ wf_X12_270) (fun _ h9 => h9) rfl dX12_readsLine_142 ?_
        refine lv_iconst (v := 1) hx hb dX12_readsLine_145 (by decide) ?_
        refine lv_iload_n hx hb dX12_readsLine_146 rfl (lv_at hl 2 rfl) ?_
        refine lv_ishl hx hb dX12_readsLine_147 ?_
        refine lv_ior hx hb dX12_readsLine_148 ?_
        obtain ⟨S0_20, eS, h⟩ := lt_el h
        refine va_put (D := E.1) (ci := 11) (v := .int ((S0_18.1 35) ||| (1 <<< (x2 &&& 31)))) (ty := .int) (C := RX12) (T := TX12) (N := 57) hx hb hg in_X12 tyX12 tyX12_ok nmX12 hown X.1 hP hD hS 0 rfl rfl 35 (by decide) (hg _ wf_X12_270) (fun _ h9 => h9) rfl (by decide +kernel) rfl rfl (Nat.le_of_ble_eq_true rfl) dX12_readsLine_149 (fun H locs hP hD hS => ?_)
        have hP : va_P E.1 vwCl (cw_X12 E q0 S0_20) H := by rw [eS]; exact hP
        have hD : va_D A (cw_X12 E q0 S0_20) := by rw [eS]; exact hD
        clear eS
        refine lv_aload_n hx hb dX12_readsLine_152 rfl (lv_at hl 0 rfl) ?_
        obtain ⟨u21, hc, h⟩ := bd_el h
        refine ct_iA (w1 := cw_X12 E q0 u21.2) X hP hD hS (va_runV (C := RX12) (As := []) (rest := []) ⟨hx, hb, hml, hown, hg⟩ (c_X12_readsSpot l E q0 H.size S0_20 u21 hc) (cwV 0 hg (gwV wm_X12_258 wi_X12_readsSpot wsl_X12_readsSpot wini_X12 wco_X12_readsSpot) rfl rfl rfl (by decide +kernel) ⟨Nat.le_of_ble_eq_true rfl, Nat.le_of_ble_eq_true rfl⟩) ⟨ct_blind, ct_rv X.1 hP 0 rfl rfl, ct_preA X hP hD hS _⟩ rfl rfl hl.1 rfl (lv_room (Nat.le_of_ble_eq_true rfl)) dX12_readsLine_153 ⟨Nat.zero_le _, Nat.zero_le _⟩) (fun H locs hP hD hS => ?_)
        refine lv_if_ne (tgt := 161) hx hb dX12_readsLine_156 (by decide) (fun c22 => ?_) (fun c22 => ?_)
        · have h := it_f h c22
          refine lv_aload_n hx hb dX12_readsLine_161 rfl (lv_at hl 0 rfl) ?_
          refine va_get (D := E.1) (ci := 11) (v := .ref (q0 20)) (C := RX12) (T := TX12) (N := 57) hx hb hg in_X12 hown X.1 hP 0 rfl rfl 31 (by decide) (hg _ wf_X12_68) (fun _ h9 => h9) rfl dX12_readsLine_162 ?_
          refine lv_iload_n hx hb dX12_readsLine_165 rfl (lv_at hl 2 rfl) ?_
          refine lv_aload_n hx hb dX12_readsLine_166 rfl (lv_at hl 0 rfl) ?_
          refine va_get (D := E.1) (ci := 11) (v := .int (u21.2.1 38)) (C := RX12) (T := TX12) (N := 57) hx hb hg in_X12 hown X.1 hP 0 rfl rfl 38 (by decide) (hg _ wf_X12_255) (fun _ h9 => h9) rfl dX12_readsLine_167 ?_
          obtain ⟨hi, h⟩ := ck_el h
          obtain ⟨S0_23, eS, h⟩ := lt_el h
          refine va_iast hx hb X.1 hP hD hS 20 0 rfl rfl hi dX12_readsLine_170 (fun H locs hP hD hS => ?_)
          have hP : va_P E.1 vwCl (cw_X12 E q0 S0_23) H := by rw [eS]; exact hP
          have hD : va_D A (cw_X12 E q0 S0_23) := by rw [eS]; exact hD
          clear eS
          refine lv_iconst (v := 1) hx hb dX12_readsLine_171 (by decide) ?_
          exact RT 1 S0_23 _ _ _ _ h (by decide +kernel) hP hD hS dX12_readsLine_172
        · have h := it_t h c22
          refine lv_iconst (v := 0) hx hb dX12_readsLine_159 (by decide) ?_
          exact RT 0 u21.2 _ _ _ _ h (by decide +kernel) hP hD hS dX12_readsLine_160
      · have h := it_t h c19
        refine lv_aload_n hx hb dX12_readsLine_122 rfl (lv_at hl 0 rfl) ?_
        refine lv_aload_n hx hb dX12_readsLine_123 rfl (lv_at hl 0 rfl) ?_
        refine va_get (D := E.1) (ci := 11) (v := .int (S0_18.1 36)) (C := RX12) (T := TX12) (N := 57) hx hb hg in_X12 hown X.1 hP 0 rfl rfl 36 (by decide) (hg _ wf_X12_273) (fun _ h9 => h9) rfl dX12_readsLine_124 ?_
        refine lv_iconst (v := 1) hx hb dX12_readsLine_127 (by decide) ?_
        refine lv_iload_n hx hb dX12_readsLine_128 rfl (lv_at hl 2 rfl) ?_
        refine lv_ishl hx hb dX12_readsLine_129 ?_
        refine lv_ior hx hb dX12_readsLine_130 ?_
        obtain ⟨S0_24, eS, h⟩ := lt_el h
        refine va_put (D := E.1) (ci := 11) (v := .int ((S0_18.1 36) ||| (1 <<< (x2 &&& 31)))) (ty := .int) (C := RX12) (T := TX12) (N := 57) hx hb hg in_X12 tyX12 tyX12_ok nmX12 hown X.1 hP hD hS 0 rfl rfl 36 (by decide) (hg _ wf_X12_273) (fun _ h9 => h9) rfl (by decide +kernel) rfl rfl (Nat.le_of_ble_eq_true rfl) dX12_readsLine_131 (fun H locs hP hD hS => ?_)
        have hP : va_P E.1 vwCl (cw_X12 E q0 S0_24) H := by rw [eS]; exact hP
        have hD : va_D A (cw_X12 E q0 S0_24) := by rw [eS]; exact hD
        clear eS
        refine lv_aload_n hx hb dX12_readsLine_134 rfl (lv_at hl 0 rfl) ?_
        refine lv_iload_n hx hb dX12_readsLine_135 rfl (lv_at hl 2 rfl) ?_
        obtain ⟨u25, hc, h⟩ := bd_el h
        refine ct_iA (w1 := cw_X12 E q0 u25.2) X hP hD hS (va_runV (C := RX12) (As := [.int x2]) (rest := []) ⟨hx, hb, hml, hown, hg⟩ (c_X12_readsFleet l E q0 H.size S0_24 x2 u25 hc) (cwV 1 hg (gwV wm_X12_276 wi_X12_readsFleet wsl_X12_readsFleet wini_X12 wco_X12_readsFleet) rfl rfl rfl (by decide +kernel) ⟨Nat.le_of_ble_eq_true rfl, Nat.le_of_ble_eq_true rfl⟩) ⟨ct_blind, ct_rv X.1 hP 0 rfl rfl, ct_preA X hP hD hS _⟩ rfl rfl hl.1 rfl (lv_room (Nat.le_of_ble_eq_true rfl)) dX12_readsLine_136 ⟨Nat.zero_le _, Nat.zero_le _⟩) (fun H locs hP hD hS => ?_)
        obtain ⟨hn1, -, h⟩ := zb_el h
        exact RT u25.1 u25.2 _ _ _ _ h hn1 hP hD hS dX12_readsLine_139
    · have h := it_f h c17
      refine lv_aload_n hx hb dX12_readsLine_97 rfl (lv_at hl 0 rfl) ?_
      refine lv_bipush (v := 6) hx hb dX12_readsLine_98 (by decide) ?_
      refine lv_aload_n hx hb dX12_readsLine_100 rfl (lv_at hl 0 rfl) ?_
      refine va_get (D := E.1) (ci := 11) (v := .int (S0.1 9)) (C := RX12) (T := TX12) (N := 57) hx hb hg in_X12 hown X.1 hP 0 rfl rfl 9 (by decide) (hg _ wf_X12_150) (fun _ h9 => h9) rfl dX12_readsLine_101 ?_
      obtain ⟨u26, hc, h⟩ := bd_el h
      refine ct_iA (w1 := cw_X12 E q0 u26.2) X hP hD hS (va_runV (C := RX12) (As := [.int 6, .int (S0.1 9)]) (rest := []) ⟨hx, hb, hml, hown, hg⟩ (c_X12_wrongAt l E q0 H.size S0 6 (S0.1 9) u26 hc) (cwV 2 hg (gwV wm_X12_163 wi_X12_wrongAt wsl_X12_wrongAt wini_X12 wco_X12_wrongAt) rfl rfl rfl (by decide +kernel) ⟨Nat.le_of_ble_eq_true rfl, Nat.le_of_ble_eq_true rfl⟩) ⟨ct_blind, ct_rv X.1 hP 0 rfl rfl, ct_preA X hP hD hS _⟩ rfl rfl hl.1 rfl (lv_room (Nat.le_of_ble_eq_true rfl)) dX12_readsLine_104 ⟨Nat.zero_le _, Nat.zero_le _⟩) (fun H locs hP hD hS => ?_)
      obtain ⟨hn1, -, h⟩ := zb_el h
      exact RT u26.1 u26.2 _ _ _ _ h hn1 hP hD hS dX12_readsLine_107
  have N24 : ∀ (S0 : Gr) (H : Heap) (locs : List Loc) (ls : Array Slot), f_X12_readsLine_n24 S0 = some Rv → va_P E.1 vwCl (cw_X12 E q0 S0) H → va_D A (cw_X12 E q0 S0) → va_S A s.heap H locs → lv_has ls 3 [(0, .ref (q0 0))] → W p l e ({ frames := 5, cells := 0, slots := 0, locals := 104 } : Room) s m ar below meth c H locs 0 0 QM (F0 m 24 ls []) := by
    intro S0 H locs ls h hP hD hS hl
    refine lv_aload_n hx hb dX12_readsLine_24 rfl (lv_at hl 0 rfl) ?_
    refine va_get (D := E.1) (ci := 11) (v := .int (S0.1 37)) (C := RX12) (T := TX12) (N := 57) hx hb hg in_X12 hown X.1 hP 0 rfl rfl 37 (by decide) (hg _ wf_X12_267) (fun _ h9 => h9) rfl dX12_readsLine_25 ?_
    refine lv_bipush (v := 24) hx hb dX12_readsLine_28 (by decide) ?_
    refine lv_icmp_ne (tgt := 43) hx hb dX12_readsLine_30 (by decide) (fun c6 => ?_) (fun c6 => ?_)
    · have h := it_f h c6
      refine lv_aload_n hx hb dX12_readsLine_43 rfl (lv_at hl 0 rfl) ?_
      refine lv_aload_n hx hb dX12_readsLine_44 rfl (lv_at hl 0 rfl) ?_
      refine va_get (D := E.1) (ci := 11) (v := .int (S0.1 37)) (C := RX12) (T := TX12) (N := 57) hx hb hg in_X12 hown X.1 hP 0 rfl rfl 37 (by decide) (hg _ wf_X12_267) (fun _ h9 => h9) rfl dX12_readsLine_45 ?_
      refine lv_iconst (v := 1) hx hb dX12_readsLine_48 (by decide) ?_
      refine lv_iadd hx hb dX12_readsLine_49 ?_
      obtain ⟨S0_7, eS, h⟩ := lt_el h
      refine va_put (D := E.1) (ci := 11) (v := .int ((S0.1 37) + 1)) (ty := .int) (C := RX12) (T := TX12) (N := 57) hx hb hg in_X12 tyX12 tyX12_ok nmX12 hown X.1 hP hD hS 0 rfl rfl 37 (by decide) (hg _ wf_X12_267) (fun _ h9 => h9) rfl (by decide +kernel) rfl rfl (Nat.le_of_ble_eq_true rfl) dX12_readsLine_50 (fun H locs hP hD hS => ?_)
      have hP : va_P E.1 vwCl (cw_X12 E q0 S0_7) H := by rw [eS]; exact hP
      have hD : va_D A (cw_X12 E q0 S0_7) := by rw [eS]; exact hD
      clear eS
      refine lv_aload_n hx hb dX12_readsLine_53 rfl (lv_at hl 0 rfl) ?_
      obtain ⟨u8, hc, h⟩ := bd_el h
      refine ct_iA (w1 := cw_X12 E q0 S0_7) X hP hD hS (va_runV (C := RX12) (As := []) (rest := []) ⟨hx, hb, hml, hown, hg⟩ (c_X12_isWebLetter l E q0 H.size S0_7 u8 hc) (cwV 0 hg (gwV wm_X12_261 wi_X12_isWebLetter wsl_X12_isWebLetter wini_X12 wco_X12_isWebLetter) rfl rfl rfl (by decide +kernel) ⟨Nat.le_of_ble_eq_true rfl, Nat.le_of_ble_eq_true rfl⟩) ⟨ct_blind, ct_rv X.1 hP 0 rfl rfl, ct_preA X hP hD hS _⟩ rfl rfl hl.1 rfl (lv_room (Nat.le_of_ble_eq_true rfl)) dX12_readsLine_54 ⟨Nat.zero_le _, Nat.zero_le _⟩) (fun H locs hP hD hS => ?_)
      refine lv_istore_n (lv' := [(1, .int u8), (0, .ref (q0 0))]) hx hb dX12_readsLine_57 rfl hl (by decide) rfl (fun ls hl => ?_)
      refine lv_aload_n hx hb dX12_readsLine_58 rfl (lv_at hl 1 rfl) ?_
      obtain ⟨u9, hc, h⟩ := bd_el h
      refine ct_iA (w1 := cw_X12 E q0 S0_7) X hP hD hS (va_runV (C := RX12) (As := []) (rest := []) ⟨hx, hb, hml, hown, hg⟩ (c_X12_here l E q0 H.size S0_7 u9 hc) (cwV 0 hg (gwV wm_X12_156 wi_X12_here wsl_X12_here wini_X12 wco_X12_here) rfl rfl rfl (by decide +kernel) ⟨Nat.le_of_ble_eq_true rfl, Nat.le_of_ble_eq_true rfl⟩) ⟨ct_blind, ct_rv X.1 hP 0 rfl rfl, ct_preA X hP hD hS _⟩ rfl rfl hl.1 rfl (lv_room (Nat.le_of_ble_eq_true rfl)) dX12_readsLine_59 ⟨Nat.zero_le _, Nat.zero_le _⟩) (fun H locs hP hD hS => ?_)
      refine lv_iload_n hx hb dX12_readsLine_62 rfl (lv_at hl 0 rfl) ?_
      refine lv_if_eq (tgt := 71) hx hb dX12_readsLine_63 (by decide) (fun c10 => ?_) (fun c10 => ?_)
      · have h := it_t h c10
        refine lv_bipush (v := 65) hx hb dX12_readsLine_71 (by decide) ?_
        refine lv_isub hx hb dX12_readsLine_73 ?_
        obtain ⟨v11, ev11, h⟩ := lt_el h
        refine lv_top' ev11 ?_
        refine lv_istore_n (lv' := [(2, .int v11), (1, .int u8), (0, .ref (q0 0))]) hx hb dX12_readsLine_74 rfl hl (by decide) rfl (fun ls hl => ?_)
        refine lv_iload_n hx hb dX12_readsLine_75 rfl (lv_at hl 1 rfl) ?_
        refine lv_if_eq (tgt := 86) hx hb dX12_readsLine_76 (by decide) (fun c12 => ?_) (fun c12 => ?_)
        · have h := it_t h c12
          refine lv_aload_n hx hb dX12_readsLine_86 rfl (lv_at hl 2 rfl) ?_
          refine va_get (D := E.1) (ci := 11) (v := .int (S0_7.1 36)) (C := RX12) (T := TX12) (N := 57) hx hb hg in_X12 hown X.1 hP 0 rfl rfl 36 (by decide) (hg _ wf_X12_273) (fun _ h9 => h9) rfl dX12_readsLine_87 ?_
          exact N90  S0_7 u8 v11 (S0_7.1 36) _ _ _ h hP hD hS (lv_sub hl [2, 1, 0] rfl)
        · have h := it_f h c12
          refine lv_aload_n hx hb dX12_readsLine_79 rfl (lv_at hl 2 rfl) ?_
          refine va_get (D := E.1) (ci := 11) (v := .int (S0_7.1 35)) (C := RX12) (T := TX12) (N := 57) hx hb hg in_X12 hown X.1 hP 0 rfl rfl 35 (by decide) (hg _ wf_X12_270) (fun _ h9 => h9) rfl dX12_readsLine_80 ?_
          refine lv_goto (tgt := 90) hx hb dX12_readsLine_83 (by decide) ?_
          exact N90  S0_7 u8 v11 (S0_7.1 35) _ _ _ h hP hD hS (lv_sub hl [2, 1, 0] rfl)
      · have h := it_f h c10
        refine lv_bipush (v := 97) hx hb dX12_readsLine_66 (by decide) ?_
        refine lv_goto (tgt := 73) hx hb dX12_readsLine_68 (by decide) ?_
        refine lv_isub hx hb dX12_readsLine_73 ?_
        obtain ⟨v13, ev13, h⟩ := lt_el h
        refine lv_top' ev13 ?_
        refine lv_istore_n (lv' := [(2, .int v13), (1, .int u8), (0, .ref (q0 0))]) hx hb dX12_readsLine_74 rfl hl (by decide) rfl (fun ls hl => ?_)
        refine lv_iload_n hx hb dX12_readsLine_75 rfl (lv_at hl 1 rfl) ?_
        refine lv_if_eq (tgt := 86) hx hb dX12_readsLine_76 (by decide) (fun c14 => ?_) (fun c14 => ?_)
        · have h := it_t h c14
          refine lv_aload_n hx hb dX12_readsLine_86 rfl (lv_at hl 2 rfl) ?_
          refine va_get (D := E.1) (ci := 11) (v := .int (S0_7.1 36)) (C := RX12) (T := TX12) (N := 57) hx hb hg in_X12 hown X.1 hP 0 rfl rfl 36 (by decide) (hg _ wf_X12_273) (fun _ h9 => h9) rfl dX12_readsLine_87 ?_
          exact N90  S0_7 u8 v13 (S0_7.1 36) _ _ _ h hP hD hS (lv_sub hl [2, 1, 0] rfl)
        · have h := it_f h c14
          refine lv_aload_n hx hb dX12_readsLine_79 rfl (lv_at hl 2 rfl) ?_
          refine va_get (D := E.1) (ci := 11) (v := .int (S0_7.1 35)) (C := RX12) (T := TX12) (N := 57) hx hb hg in_X12 hown X.1 hP 0 rfl rfl 35 (by decide) (hg _ wf_X12_270) (fun _ h9 => h9) rfl dX12_readsLine_80 ?_
          refine lv_goto (tgt := 90) hx hb dX12_readsLine_83 (by decide) ?_
          exact N90  S0_7 u8 v13 (S0_7.1 35) _ _ _ h hP hD hS (lv_sub hl [2, 1, 0] rfl)
    · have h := it_t h c6
      refine lv_aload_n hx hb dX12_readsLine_33 rfl (lv_at hl 0 rfl) ?_
      refine lv_iconst (v := 4) hx hb dX12_readsLine_34 (by decide) ?_
      refine lv_aload_n hx hb dX12_readsLine_35 rfl (lv_at hl 0 rfl) ?_
      refine va_get (D := E.1) (ci := 11) (v := .int (S0.1 9)) (C := RX12) (T := TX12) (N := 57) hx hb hg in_X12 hown X.1 hP 0 rfl rfl 9 (by decide) (hg _ wf_X12_150) (fun _ h9 => h9) rfl dX12_readsLine_36 ?_
      obtain ⟨u15, hc, h⟩ := bd_el h
      refine ct_iA (w1 := cw_X12 E q0 u15.2) X hP hD hS (va_runV (C := RX12) (As := [.int 4, .int (S0.1 9)]) (rest := []) ⟨hx, hb, hml, hown, hg⟩ (c_X12_wrongAt l E q0 H.size S0 4 (S0.1 9) u15 hc) (cwV 2 hg (gwV wm_X12_163 wi_X12_wrongAt wsl_X12_wrongAt wini_X12 wco_X12_wrongAt) rfl rfl rfl (by decide +kernel) ⟨Nat.le_of_ble_eq_true rfl, Nat.le_of_ble_eq_true rfl⟩) ⟨ct_blind, ct_rv X.1 hP 0 rfl rfl, ct_preA X hP hD hS _⟩ rfl rfl hl.1 rfl (lv_room (Nat.le_of_ble_eq_true rfl)) dX12_readsLine_39 ⟨Nat.zero_le _, Nat.zero_le _⟩) (fun H locs hP hD hS => ?_)
      obtain ⟨hn1, -, h⟩ := zb_el h
      exact RT u15.1 u15.2 _ _ _ _ h hn1 hP hD hS dX12_readsLine_42
  obtain ⟨H, eH⟩ : ∃ z, z = s.heap := ⟨_, rfl⟩
  rw [← eH]
  have hP : va_P E.1 vwCl (cw_X12 E q0 S0) H := by rw [eH]; exact hP
  have hS : va_S A s.heap H [] := by rw [eH]; exact hS
  clear eH
  obtain ⟨locs, el⟩ : ∃ z : List Loc, z = [] := ⟨_, rfl⟩
  rw [← el] at hS ⊢
  clear el
  refine lv_aload_n hx hb dX12_readsLine_0 rfl (lv_at hl 0 rfl) ?_
  obtain ⟨u1, hc, h⟩ := bd_el h
  refine ct_iA (w1 := cw_X12 E q0 S0) X hP hD hS (va_runV (C := RX12) (As := []) (rest := []) ⟨hx, hb, hml, hown, hg⟩ (c_X12_isWebLetter l E q0 H.size S0 u1 hc) (cwV 0 hg (gwV wm_X12_261 wi_X12_isWebLetter wsl_X12_isWebLetter wini_X12 wco_X12_isWebLetter) rfl rfl rfl (by decide +kernel) ⟨Nat.le_of_ble_eq_true rfl, Nat.le_of_ble_eq_true rfl⟩) ⟨ct_blind, ct_rv X.1 hP 0 rfl rfl, ct_preA X hP hD hS _⟩ rfl rfl hl.1 rfl (lv_room (Nat.le_of_ble_eq_true rfl)) dX12_readsLine_1 ⟨Nat.zero_le _, Nat.zero_le _⟩) (fun H locs hP hD hS => ?_)
  refine lv_if_ne (tgt := 24) hx hb dX12_readsLine_4 (by decide) (fun c2 => ?_) (fun c2 => ?_)
  · have h := it_f h c2
    exact N24  S0 _ _ _ h hP hD hS (lv_sub hl [0] rfl)
  · have h := it_t h c2
    refine lv_aload_n hx hb dX12_readsLine_7 rfl (lv_at hl 0 rfl) ?_
    obtain ⟨u3, hc, h⟩ := bd_el h
    refine ct_iA (w1 := cw_X12 E q0 S0) X hP hD hS (va_runV (C := RX12) (As := []) (rest := []) ⟨hx, hb, hml, hown, hg⟩ (c_X12_isFleetLetter l E q0 H.size S0 u3 hc) (cwV 0 hg (gwV wm_X12_264 wi_X12_isFleetLetter wsl_X12_isFleetLetter wini_X12 wco_X12_isFleetLetter) rfl rfl rfl (by decide +kernel) ⟨Nat.le_of_ble_eq_true rfl, Nat.le_of_ble_eq_true rfl⟩) ⟨ct_blind, ct_rv X.1 hP 0 rfl rfl, ct_preA X hP hD hS _⟩ rfl rfl hl.1 rfl (lv_room (Nat.le_of_ble_eq_true rfl)) dX12_readsLine_8 ⟨Nat.zero_le _, Nat.zero_le _⟩) (fun H locs hP hD hS => ?_)
    refine lv_if_ne (tgt := 24) hx hb dX12_readsLine_11 (by decide) (fun c4 => ?_) (fun c4 => ?_)
    · have h := it_f h c4
      exact N24  S0 _ _ _ h hP hD hS (lv_sub hl [0] rfl)
    · have h := it_t h c4
      refine lv_aload_n hx hb dX12_readsLine_14 rfl (lv_at hl 0 rfl) ?_
      refine lv_iconst (v := 1) hx hb dX12_readsLine_15 (by decide) ?_
      refine lv_aload_n hx hb dX12_readsLine_16 rfl (lv_at hl 0 rfl) ?_
      refine va_get (D := E.1) (ci := 11) (v := .int (S0.1 9)) (C := RX12) (T := TX12) (N := 57) hx hb hg in_X12 hown X.1 hP 0 rfl rfl 9 (by decide) (hg _ wf_X12_150) (fun _ h9 => h9) rfl dX12_readsLine_17 ?_
      obtain ⟨u5, hc, h⟩ := bd_el h
      refine ct_iA (w1 := cw_X12 E q0 u5.2) X hP hD hS (va_runV (C := RX12) (As := [.int 1, .int (S0.1 9)]) (rest := []) ⟨hx, hb, hml, hown, hg⟩ (c_X12_wrongAt l E q0 H.size S0 1 (S0.1 9) u5 hc) (cwV 2 hg (gwV wm_X12_163 wi_X12_wrongAt wsl_X12_wrongAt wini_X12 wco_X12_wrongAt) rfl rfl rfl (by decide +kernel) ⟨Nat.le_of_ble_eq_true rfl, Nat.le_of_ble_eq_true rfl⟩) ⟨ct_blind, ct_rv X.1 hP 0 rfl rfl, ct_preA X hP hD hS _⟩ rfl rfl hl.1 rfl (lv_room (Nat.le_of_ble_eq_true rfl)) dX12_readsLine_20 ⟨Nat.zero_le _, Nat.zero_le _⟩) (fun H locs hP hD hS => ?_)
      obtain ⟨hn1, -, h⟩ := zb_el h
      exact RT u5.1 u5.2 _ _ _ _ h hn1 hP hD hS dX12_readsLine_23
