theorem dX12_closesSums_0 : decode cX12_closesSums 0 = .ok (.aload_n 0, 1) := by decide +kernel
theorem dX12_closesSums_1 : decode cX12_closesSums 1 = .ok (.invokevirtual 183, 3) := by decide +kernel
theorem dX12_closesSums_4 : decode cX12_closesSums 4 = .ok (.iconst 4, 1) := by decide +kernel
theorem dX12_closesSums_5 : decode cX12_closesSums 5 = .ok (.if_icmp .lt 12, 3) := by decide +kernel
theorem dX12_closesSums_8 : decode cX12_closesSums 8 = .ok (.aload_n 0, 1) := by decide +kernel
theorem dX12_closesSums_9 : decode cX12_closesSums 9 = .ok (.invokevirtual 183, 3) := by decide +kernel
theorem dX12_closesSums_12 : decode cX12_closesSums 12 = .ok (.bipush 6, 2) := by decide +kernel
theorem dX12_closesSums_14 : decode cX12_closesSums 14 = .ok (.if_icmp .le 23, 3) := by decide +kernel
theorem dX12_closesSums_17 : decode cX12_closesSums 17 = .ok (.iload_n 1, 1) := by decide +kernel
theorem dX12_closesSums_18 : decode cX12_closesSums 18 = .ok (.ifCond .eq 41, 3) := by decide +kernel
theorem dX12_closesSums_21 : decode cX12_closesSums 21 = .ok (.aload_n 0, 1) := by decide +kernel
theorem dX12_closesSums_22 : decode cX12_closesSums 22 = .ok (.invokevirtual 183, 3) := by decide +kernel
theorem dX12_closesSums_25 : decode cX12_closesSums 25 = .ok (.iconst 2, 1) := by decide +kernel
theorem dX12_closesSums_26 : decode cX12_closesSums 26 = .ok (.if_icmp .eq 11, 3) := by decide +kernel
theorem dX12_closesSums_29 : decode cX12_closesSums 29 = .ok (.aload_n 0, 1) := by decide +kernel
theorem dX12_closesSums_30 : decode cX12_closesSums 30 = .ok (.invokevirtual 183, 3) := by decide +kernel
theorem dX12_closesSums_33 : decode cX12_closesSums 33 = .ok (.iconst 3, 1) := by decide +kernel
theorem dX12_closesSums_34 : decode cX12_closesSums 34 = .ok (.if_icmp .ne 25, 3) := by decide +kernel
theorem dX12_closesSums_37 : decode cX12_closesSums 37 = .ok (.aload_n 0, 1) := by decide +kernel
theorem dX12_closesSums_38 : decode cX12_closesSums 38 = .ok (.aload_n 0, 1) := by decide +kernel
theorem dX12_closesSums_39 : decode cX12_closesSums 39 = .ok (.invokevirtual 183, 3) := by decide +kernel
theorem dX12_closesSums_42 : decode cX12_closesSums 42 = .ok (.iconst 0, 1) := by decide +kernel
theorem dX12_closesSums_43 : decode cX12_closesSums 43 = .ok (.invokevirtual 186, 3) := by decide +kernel
theorem dX12_closesSums_46 : decode cX12_closesSums 46 = .ok (.aload_n 0, 1) := by decide +kernel
theorem dX12_closesSums_47 : decode cX12_closesSums 47 = .ok (.aload_n 0, 1) := by decide +kernel
theorem dX12_closesSums_48 : decode cX12_closesSums 48 = .ok (.getfield 180, 3) := by decide +kernel
theorem dX12_closesSums_51 : decode cX12_closesSums 51 = .ok (.iconst 1, 1) := by decide +kernel
theorem dX12_closesSums_52 : decode cX12_closesSums 52 = .ok (.isub, 1) := by decide +kernel
theorem dX12_closesSums_53 : decode cX12_closesSums 53 = .ok (.putfield 180, 3) := by decide +kernel
theorem dX12_closesSums_56 : decode cX12_closesSums 56 = .ok (.goto (-56), 3) := by decide +kernel
theorem dX12_closesSums_59 : decode cX12_closesSums 59 = .ok (.return_, 1) := by decide +kernel
def f_X12_closesSums_n37 (x1 : Int32) (k0 : Gr → Option (Gr)) (S0 : Gr) : Option (Gr) := (f_X12_waitTop S0).bind fun u15 => (f_X12_notes S0 u15 0).bind fun u16 => lt' (sI u16 15 ((u16.1 15) - 1)) fun S0_17 => k0 S0_17
def f_X12_closesSums_n0 (x1 : Int32) : Nat → Gr → Option (Gr)
  | 0, _ => none
  | n + 1, S0 => (f_X12_waitTop S0).bind fun u1 => if u1 < 4 then (if x1 = 0 then (some S0) else ((f_X12_waitTop S0).bind fun u4 => if u4 = 2 then (f_X12_closesSums_n37 x1 (f_X12_closesSums_n0 x1 n) S0) else ((f_X12_waitTop S0).bind fun u6 => if u6 = 3 then (f_X12_closesSums_n37 x1 (f_X12_closesSums_n0 x1 n) S0) else (some S0)))) else ((f_X12_waitTop S0).bind fun u8 => if u8 ≤ 6 then (f_X12_closesSums_n37 x1 (f_X12_closesSums_n0 x1 n) S0) else (if x1 = 0 then (some S0) else ((f_X12_waitTop S0).bind fun u11 => if u11 = 2 then (f_X12_closesSums_n37 x1 (f_X12_closesSums_n0 x1 n) S0) else ((f_X12_waitTop S0).bind fun u13 => if u13 = 3 then (f_X12_closesSums_n37 x1 (f_X12_closesSums_n0 x1 n) S0) else (some S0)))))
def f_X12_closesSums (S0 : Gr) (x1 : Int32) : Option (Gr) := f_X12_closesSums_n0 x1 fu S0
set_option maxHeartbeats 4000000 in
set_option maxRecDepth 100000 in
theorem c_X12_closesSums (l : Launch) (E : Ec) (q0 : Nat → Nat) (sz : Nat) (S0 : Gr) (x1 : Int32) (Rv : Gr) (h : f_X12_closesSums S0 x1 = some Rv) : Met l yX12_closesSums (wsM (.code yX12_closesSums cX12_closesSums 2 none)) ({ frames := 1, cells := 0, slots := 0, locals := 22 } : Room) (va_Pc [.ref (q0 0), .int x1] (ctP E (cw_X12 E q0 S0) sz)) (ctV E (cw_X12 E q0 S0) (cw_X12 E q0 Rv) sz) 0 0 (va_A (cw_X12 E q0 S0) sz) := by
  refine ct_metV (by decide) (Nat.le_of_ble_eq_true rfl) ?_
  intro p e s m ar below meth c A QM hx hb hml hown hg X hP hD hS RET ls hl
  have hown : s.vm.findClass RX12 = some m.cls := hown
  have hl : lv_has ls 2 [(0, .ref (q0 0)), (1, .int x1)] := hl
  have RT : ∀ (S0 : Gr) (H : Heap) (locs : List Loc) (ls : Array Slot) (pc : Nat), some S0 = some Rv → va_P E.1 vwCl (cw_X12 E q0 S0) H → va_D A (cw_X12 E q0 S0) → va_S A s.heap H locs → decode cX12_closesSums pc = .ok (.return_, 1) → W p l e ({ frames := 1, cells := 0, slots := 0, locals := 22 } : Room) s m ar below meth c H locs 0 0 QM (F0 m pc ls []) := by
    intro S0 H locs ls pc e hP hD hS d
    obtain rfl := sm_e e
    exact RET H locs pc ls hP hD hS d
  clear RET
  have N37 : ∀ (k0 : Gr → Option (Gr)) (hk0 : ∀ (S0 : Gr) (H : Heap) (locs : List Loc) (ls : Array Slot), k0 S0 = some Rv → va_P E.1 vwCl (cw_X12 E q0 S0) H → va_D A (cw_X12 E q0 S0) → va_S A s.heap H locs → lv_has ls 2 [(0, .ref (q0 0)), (1, .int x1)] → W p l e ({ frames := 1, cells := 0, slots := 0, locals := 22 } : Room) s m ar below meth c H locs 0 0 QM (F0 m 0 ls [])) (S0 : Gr) (H : Heap) (locs : List Loc) (ls : Array Slot), f_X12_closesSums_n37 x1 k0 S0 = some Rv → va_P E.1 vwCl (cw_X12 E q0 S0) H → va_D A (cw_X12 E q0 S0) → va_S A s.heap H locs → lv_has ls 2 [(0, .ref (q0 0)), (1, .int x1)] → W p l e ({ frames := 1, cells := 0, slots := 0, locals := 22 } : Room) s m ar below meth c H locs 0 0 QM (F0 m 37 ls []) := by
    intro k0 hk0 S0 H locs ls h hP hD hS hl
    refine lv_aload_n hx hb dX12_closesSums_37 rfl (lv_at hl 0 rfl) ?_
    refine lv_aload_n hx hb dX12_closesSums_38 rfl (lv_at hl 0 rfl) ?_
    obtain ⟨u15, hc, h⟩ := bd_el h
    refine ct_iA (w1 := cw_X12 E q0 S0) X hP hD hS (va_runV (C := RX12) (As := []) (rest := [.ref (q0 0)]) ⟨hx, hb, hml, hown, hg⟩ (c_X12_waitTop l E q0 H.size S0 u15 hc) (cwV 0 hg (gwV wm_X12_183 wi_X12_waitTop wsl_X12_waitTop wini_X12 wco_X12_waitTop) rfl rfl rfl (by decide +kernel) ⟨Nat.le_of_ble_eq_true rfl, Nat.le_of_ble_eq_true rfl⟩) ⟨ct_blind, ct_rv X.1 hP 0 rfl rfl, ct_preA X hP hD hS _⟩ rfl rfl hl.1 rfl (lv_room (Nat.le_of_ble_eq_true rfl)) dX12_closesSums_39 ⟨Nat.zero_le _, Nat.zero_le _⟩) (fun H locs hP hD hS => ?_)
    refine lv_iconst (v := 0) hx hb dX12_closesSums_42 (by decide) ?_
    obtain ⟨u16, hc, h⟩ := bd_el h
    refine ct_vA (w1 := cw_X12 E q0 u16) X hP hD hS (va_runV (C := RX12) (As := [.int u15, .int 0]) (rest := []) ⟨hx, hb, hml, hown, hg⟩ (c_X12_notes l E q0 H.size S0 u15 0 u16 hc) (cwV 2 hg (gwV wm_X12_186 wi_X12_notes wsl_X12_notes wini_X12 wco_X12_notes) rfl rfl rfl (by decide +kernel) ⟨Nat.le_of_ble_eq_true rfl, Nat.le_of_ble_eq_true rfl⟩) ⟨ct_blind, ct_rv X.1 hP 0 rfl rfl, ct_preA X hP hD hS _⟩ rfl rfl hl.1 rfl (lv_room (Nat.le_of_ble_eq_true rfl)) dX12_closesSums_43 ⟨Nat.zero_le _, Nat.zero_le _⟩) (fun H locs hP hD hS => ?_)
    refine lv_aload_n hx hb dX12_closesSums_46 rfl (lv_at hl 0 rfl) ?_
    refine lv_aload_n hx hb dX12_closesSums_47 rfl (lv_at hl 0 rfl) ?_
    refine va_get (D := E.1) (ci := 11) (v := .int (u16.1 15)) (C := RX12) (T := TX12) (N := 57) hx hb hg in_X12 hown X.1 hP 0 rfl rfl 15 (by decide) (hg _ wf_X12_180) (fun _ h9 => h9) rfl dX12_closesSums_48 ?_
    refine lv_iconst (v := 1) hx hb dX12_closesSums_51 (by decide) ?_
    refine lv_isub hx hb dX12_closesSums_52 ?_
    obtain ⟨S0_17, eS, h⟩ := lt_el h
    refine va_put (D := E.1) (ci := 11) (v := .int ((u16.1 15) - 1)) (ty := .int) (C := RX12) (T := TX12) (N := 57) hx hb hg in_X12 tyX12 tyX12_ok nmX12 hown X.1 hP hD hS 0 rfl rfl 15 (by decide) (hg _ wf_X12_180) (fun _ h9 => h9) rfl (by decide +kernel) rfl rfl (Nat.le_of_ble_eq_true rfl) dX12_closesSums_53 (fun H locs hP hD hS => ?_)
    have hP : va_P E.1 vwCl (cw_X12 E q0 S0_17) H := by rw [eS]; exact hP
    have hD : va_D A (cw_X12 E q0 S0_17) := by rw [eS]; exact hD
    clear eS
    refine lv_goto (tgt := 0) hx hb dX12_closesSums_56 (by decide) ?_
    exact hk0 S0_17 _ _ _ h hP hD hS (lv_sub hl [0, 1] rfl)
  have N0 : ∀ (n : Nat) (S0 : Gr) (H : Heap) (locs : List Loc) (ls : Array Slot), f_X12_closesSums_n0 x1 n S0 = some Rv → va_P E.1 vwCl (cw_X12 E q0 S0) H → va_D A (cw_X12 E q0 S0) → va_S A s.heap H locs → lv_has ls 2 [(0, .ref (q0 0)), (1, .int x1)] → W p l e ({ frames := 1, cells := 0, slots := 0, locals := 22 } : Room) s m ar below meth c H locs 0 0 QM (F0 m 0 ls []) := by
    intro n
    induction n with
    | zero => intro S0 H locs ls h; exact nn_el h
    | succ n ih =>
      intro S0 H locs ls h hP hD hS hl
      refine lv_aload_n hx hb dX12_closesSums_0 rfl (lv_at hl 0 rfl) ?_
      obtain ⟨u1, hc, h⟩ := bd_el h
      refine ct_iA (w1 := cw_X12 E q0 S0) X hP hD hS (va_runV (C := RX12) (As := []) (rest := []) ⟨hx, hb, hml, hown, hg⟩ (c_X12_waitTop l E q0 H.size S0 u1 hc) (cwV 0 hg (gwV wm_X12_183 wi_X12_waitTop wsl_X12_waitTop wini_X12 wco_X12_waitTop) rfl rfl rfl (by decide +kernel) ⟨Nat.le_of_ble_eq_true rfl, Nat.le_of_ble_eq_true rfl⟩) ⟨ct_blind, ct_rv X.1 hP 0 rfl rfl, ct_preA X hP hD hS _⟩ rfl rfl hl.1 rfl (lv_room (Nat.le_of_ble_eq_true rfl)) dX12_closesSums_1 ⟨Nat.zero_le _, Nat.zero_le _⟩) (fun H locs hP hD hS => ?_)
      refine lv_iconst (v := 4) hx hb dX12_closesSums_4 (by decide) ?_
      refine lv_icmp_lt (tgt := 17) hx hb dX12_closesSums_5 (by decide) (fun c2 => ?_) (fun c2 => ?_)
      · have h := it_t h c2
        refine lv_iload_n hx hb dX12_closesSums_17 rfl (lv_at hl 1 rfl) ?_
        refine lv_if_eq (tgt := 59) hx hb dX12_closesSums_18 (by decide) (fun c3 => ?_) (fun c3 => ?_)
        · have h := it_t h c3
          exact RT S0 _ _ _ _ h hP hD hS dX12_closesSums_59
        · have h := it_f h c3
          refine lv_aload_n hx hb dX12_closesSums_21 rfl (lv_at hl 0 rfl) ?_
          obtain ⟨u4, hc, h⟩ := bd_el h
          refine ct_iA (w1 := cw_X12 E q0 S0) X hP hD hS (va_runV (C := RX12) (As := []) (rest := []) ⟨hx, hb, hml, hown, hg⟩ (c_X12_waitTop l E q0 H.size S0 u4 hc) (cwV 0 hg (gwV wm_X12_183 wi_X12_waitTop wsl_X12_waitTop wini_X12 wco_X12_waitTop) rfl rfl rfl (by decide +kernel) ⟨Nat.le_of_ble_eq_true rfl, Nat.le_of_ble_eq_true rfl⟩) ⟨ct_blind, ct_rv X.1 hP 0 rfl rfl, ct_preA X hP hD hS _⟩ rfl rfl hl.1 rfl (lv_room (Nat.le_of_ble_eq_true rfl)) dX12_closesSums_22 ⟨Nat.zero_le _, Nat.zero_le _⟩) (fun H locs hP hD hS => ?_)
          refine lv_iconst (v := 2) hx hb dX12_closesSums_25 (by decide) ?_
          refine lv_icmp_eq (tgt := 37) hx hb dX12_closesSums_26 (by decide) (fun c5 => ?_) (fun c5 => ?_)
          · have h := it_t h c5
            exact N37 (f_X12_closesSums_n0 x1 n) ih S0 _ _ _ h hP hD hS (lv_sub hl [0, 1] rfl)
          · have h := it_f h c5
            refine lv_aload_n hx hb dX12_closesSums_29 rfl (lv_at hl 0 rfl) ?_
            obtain ⟨u6, hc, h⟩ := bd_el h
            refine ct_iA (w1 := cw_X12 E q0 S0) X hP hD hS (va_runV (C := RX12) (As := []) (rest := []) ⟨hx, hb, hml, hown, hg⟩ (c_X12_waitTop l E q0 H.size S0 u6 hc) (cwV 0 hg (gwV wm_X12_183 wi_X12_waitTop wsl_X12_waitTop wini_X12 wco_X12_waitTop) rfl rfl rfl (by decide +kernel) ⟨Nat.le_of_ble_eq_true rfl, Nat.le_of_ble_eq_true rfl⟩) ⟨ct_blind, ct_rv X.1 hP 0 rfl rfl, ct_preA X hP hD hS _⟩ rfl rfl hl.1 rfl (lv_room (Nat.le_of_ble_eq_true rfl)) dX12_closesSums_30 ⟨Nat.zero_le _, Nat.zero_le _⟩) (fun H locs hP hD hS => ?_)
            refine lv_iconst (v := 3) hx hb dX12_closesSums_33 (by decide) ?_
            refine lv_icmp_ne (tgt := 59) hx hb dX12_closesSums_34 (by decide) (fun c7 => ?_) (fun c7 => ?_)
            · have h := it_f h c7
              exact RT S0 _ _ _ _ h hP hD hS dX12_closesSums_59
            · have h := it_t h c7
              exact N37 (f_X12_closesSums_n0 x1 n) ih S0 _ _ _ h hP hD hS (lv_sub hl [0, 1] rfl)
      · have h := it_f h c2
        refine lv_aload_n hx hb dX12_closesSums_8 rfl (lv_at hl 0 rfl) ?_
        obtain ⟨u8, hc, h⟩ := bd_el h
        refine ct_iA (w1 := cw_X12 E q0 S0) X hP hD hS (va_runV (C := RX12) (As := []) (rest := []) ⟨hx, hb, hml, hown, hg⟩ (c_X12_waitTop l E q0 H.size S0 u8 hc) (cwV 0 hg (gwV wm_X12_183 wi_X12_waitTop wsl_X12_waitTop wini_X12 wco_X12_waitTop) rfl rfl rfl (by decide +kernel) ⟨Nat.le_of_ble_eq_true rfl, Nat.le_of_ble_eq_true rfl⟩) ⟨ct_blind, ct_rv X.1 hP 0 rfl rfl, ct_preA X hP hD hS _⟩ rfl rfl hl.1 rfl (lv_room (Nat.le_of_ble_eq_true rfl)) dX12_closesSums_9 ⟨Nat.zero_le _, Nat.zero_le _⟩) (fun H locs hP hD hS => ?_)
        refine lv_bipush (v := 6) hx hb dX12_closesSums_12 (by decide) ?_
        refine lv_icmp_le (tgt := 37) hx hb dX12_closesSums_14 (by decide) (fun c9 => ?_) (fun c9 => ?_)
        · have h := it_t h c9
          exact N37 (f_X12_closesSums_n0 x1 n) ih S0 _ _ _ h hP hD hS (lv_sub hl [0, 1] rfl)
        · have h := it_f h c9
          refine lv_iload_n hx hb dX12_closesSums_17 rfl (lv_at hl 1 rfl) ?_
          refine lv_if_eq (tgt := 59) hx hb dX12_closesSums_18 (by decide) (fun c10 => ?_) (fun c10 => ?_)
          · have h := it_t h c10
            exact RT S0 _ _ _ _ h hP hD hS dX12_closesSums_59
          · have h := it_f h c10
            refine lv_aload_n hx hb dX12_closesSums_21 rfl (lv_at hl 0 rfl) ?_
            obtain ⟨u11, hc, h⟩ := bd_el h
            refine ct_iA (w1 := cw_X12 E q0 S0) X hP hD hS (va_runV (C := RX12) (As := []) (rest := []) ⟨hx, hb, hml, hown, hg⟩ (c_X12_waitTop l E q0 H.size S0 u11 hc) (cwV 0 hg (gwV wm_X12_183 wi_X12_waitTop wsl_X12_waitTop wini_X12 wco_X12_waitTop) rfl rfl rfl (by decide +kernel) ⟨Nat.le_of_ble_eq_true rfl, Nat.le_of_ble_eq_true rfl⟩) ⟨ct_blind, ct_rv X.1 hP 0 rfl rfl, ct_preA X hP hD hS _⟩ rfl rfl hl.1 rfl (lv_room (Nat.le_of_ble_eq_true rfl)) dX12_closesSums_22 ⟨Nat.zero_le _, Nat.zero_le _⟩) (fun H locs hP hD hS => ?_)
            refine lv_iconst (v := 2) hx hb dX12_closesSums_25 (by decide) ?_
            refine lv_icmp_eq (tgt := 37) hx hb dX12_closesSums_26 (by decide) (fun c12 => ?_) (fun c12 => ?_)
            · have h := it_t h c12
              exact N37 (f_X12_closesSums_n0 x1 n) ih S0 _ _ _ h hP hD hS (lv_sub hl [0, 1] rfl)
            · have h := it_f h c12
              refine lv_aload_n hx hb dX12_closesSums_29 rfl (lv_at hl 0 rfl) ?_
              obtain ⟨u13, hc, h⟩ := bd_el h
              refine ct_iA (w1 := cw_X12 E q0 S0) X hP hD hS (va_runV (C := RX12) (As := []) (rest := []) ⟨hx, hb, hml, hown, hg⟩ (c_X12_waitTop l E q0 H.size S0 u13 hc) (cwV 0 hg (gwV wm_X12_183 wi_X12_waitTop wsl_X12_waitTop wini_X12 wco_X12_waitTop) rfl rfl rfl (by decide +kernel) ⟨Nat.le_of_ble_eq_true rfl, Nat.le_of_ble_eq_true rfl⟩) ⟨ct_blind, ct_rv X.1 hP 0 rfl rfl, ct_preA X hP hD hS _⟩ rfl rfl hl.1 rfl (lv_room (Nat.le_of_ble_eq_true rfl)) dX12_closesSums_30 ⟨Nat.zero_le _, Nat.zero_le _⟩) (fun H locs hP hD hS => ?_)
              refine lv_iconst (v := 3) hx hb dX12_closesSums_33 (by decide) ?_
              refine lv_icmp_ne (tgt := 59) hx hb dX12_closesSums_34 (by decide) (fun c14 => ?_) (fun c14 => ?_)
              · have h := it_f h c14
                exact RT S0 _ _ _ _ h hP hD hS dX12_closesSums_59
              · have h := it_t h c14
                exact N37 (f_X12_closesSums_n0 x1 n) ih S0 _ _ _ h hP hD hS (lv_sub hl [0, 1] rfl)
  obtain ⟨H, eH⟩ : ∃ z, z = s.heap := ⟨_, rfl⟩
  rw [← eH]
  have hP : va_P E.1 vwCl (cw_X12 E q0 S0) H := by rw [eH]; exact hP
  have hS : va_S A s.heap H [] := by rw [eH]; exact hS
  clear eH
  obtain ⟨locs, el⟩ : ∃ z : List Loc, z = [] := ⟨_, rfl⟩
  rw [← el] at hS ⊢
  clear el
  exact N0 fu S0 _ _ _ h hP hD hS (lv_sub hl [0, 1] rfl)
theorem dX12_hasOpenSum_0 : decode cX12_hasOpenSum 0 = .ok (.iload_n 1, 1) := by decide +kernel
theorem dX12_hasOpenSum_1 : decode cX12_hasOpenSum 1 = .ok (.istore_n 2, 1) := by decide +kernel
theorem dX12_hasOpenSum_2 : decode cX12_hasOpenSum 2 = .ok (.iload_n 2, 1) := by decide +kernel
theorem dX12_hasOpenSum_3 : decode cX12_hasOpenSum 3 = .ok (.aload_n 0, 1) := by decide +kernel
theorem dX12_hasOpenSum_4 : decode cX12_hasOpenSum 4 = .ok (.getfield 180, 3) := by decide +kernel
theorem dX12_hasOpenSum_7 : decode cX12_hasOpenSum 7 = .ok (.if_icmp .ge 25, 3) := by decide +kernel
theorem dX12_hasOpenSum_10 : decode cX12_hasOpenSum 10 = .ok (.aload_n 0, 1) := by decide +kernel
theorem dX12_hasOpenSum_11 : decode cX12_hasOpenSum 11 = .ok (.getfield 32, 3) := by decide +kernel
theorem dX12_hasOpenSum_14 : decode cX12_hasOpenSum 14 = .ok (.iload_n 2, 1) := by decide +kernel
theorem dX12_hasOpenSum_15 : decode cX12_hasOpenSum 15 = .ok (.iaload, 1) := by decide +kernel
theorem dX12_hasOpenSum_16 : decode cX12_hasOpenSum 16 = .ok (.ldc 176, 2) := by decide +kernel
theorem dX12_hasOpenSum_18 : decode cX12_hasOpenSum 18 = .ok (.idiv, 1) := by decide +kernel
theorem dX12_hasOpenSum_19 : decode cX12_hasOpenSum 19 = .ok (.bipush 14, 2) := by decide +kernel
theorem dX12_hasOpenSum_21 : decode cX12_hasOpenSum 21 = .ok (.if_icmp .ne 5, 3) := by decide +kernel
theorem dX12_hasOpenSum_24 : decode cX12_hasOpenSum 24 = .ok (.iconst 1, 1) := by decide +kernel
theorem dX12_hasOpenSum_25 : decode cX12_hasOpenSum 25 = .ok (.ireturn, 1) := by decide +kernel
theorem dX12_hasOpenSum_26 : decode cX12_hasOpenSum 26 = .ok (.iinc 2 1, 3) := by decide +kernel
theorem dX12_hasOpenSum_29 : decode cX12_hasOpenSum 29 = .ok (.goto (-27), 3) := by decide +kernel
theorem dX12_hasOpenSum_32 : decode cX12_hasOpenSum 32 = .ok (.iconst 0, 1) := by decide +kernel
theorem dX12_hasOpenSum_33 : decode cX12_hasOpenSum 33 = .ok (.ireturn, 1) := by decide +kernel
def f_X12_hasOpenSum_n2 (S0 : Gr) (x1 : Int32) : Nat → Int32 → Option (Int32)
  | 0, _ => none
  | n + 1, x2 => if (S0.1 15) ≤ x2 then (some 0) else (rd' (S0.2 19) 260 x2 fun v2 => lt' (v2 / 1048576) fun v3 => if v3 = 14 then (some 1) else (lt' (x2 + 1) fun v5 => f_X12_hasOpenSum_n2 S0 x1 n v5))
def f_X12_hasOpenSum (S0 : Gr) (x1 : Int32) : Option (Int32) := f_X12_hasOpenSum_n2 S0 x1 fu x1
set_option maxHeartbeats 4000000 in
set_option maxRecDepth 100000 in
theorem c_X12_hasOpenSum (l : Launch) (E : Ec) (q0 : Nat → Nat) (sz : Nat) (S0 : Gr) (x1 : Int32) (Rv : Int32) (h : f_X12_hasOpenSum S0 x1 = some Rv) : Met l yX12_hasOpenSum (wsM (.code yX12_hasOpenSum cX12_hasOpenSum 3 (some .boolean))) ({ frames := 0, cells := 0, slots := 0, locals := 0 } : Room) (va_Pc [.ref (q0 0), .int x1] (ctP E (cw_X12 E q0 S0) sz)) (ctI E (cw_X12 E q0 S0) (cw_X12 E q0 S0) sz Rv) 0 0 (va_A (cw_X12 E q0 S0) sz) := by
  refine ct_metI (by decide) (Nat.le_of_ble_eq_true rfl) ?_
  intro p e s m ar below meth c A QM hx hb hml hown hg X hP hD hS RET ls hl
  have hown : s.vm.findClass RX12 = some m.cls := hown
  have hl : lv_has ls 3 [(0, .ref (q0 0)), (1, .int x1)] := hl
  have RT : ∀ (v : Int32) (H : Heap) (locs : List Loc) (ls : Array Slot) (pc : Nat), some v = some Rv → narrow .boolean (.int v) = .int v → va_P E.1 vwCl (cw_X12 E q0 S0) H → va_D A (cw_X12 E q0 S0) → va_S A s.heap H locs → decode cX12_hasOpenSum pc = .ok (.ireturn, 1) → W p l e ({ frames := 0, cells := 0, slots := 0, locals := 0 } : Room) s m ar below meth c H locs 0 0 QM (F0 m pc ls [.int v]) := by
    intro v H locs ls pc e hn hP hD hS d
    obtain rfl := sm_e e
    exact RET H locs pc ls hn hP hD hS d
  clear RET
  have N2 : ∀ (n : Nat) (x2 : Int32) (H : Heap) (locs : List Loc) (ls : Array Slot), f_X12_hasOpenSum_n2 S0 x1 n x2 = some Rv → va_P E.1 vwCl (cw_X12 E q0 S0) H → va_D A (cw_X12 E q0 S0) → va_S A s.heap H locs → lv_has ls 3 [(0, .ref (q0 0)), (2, .int x2)] → W p l e ({ frames := 0, cells := 0, slots := 0, locals := 0 } : Room) s m ar below meth c H locs 0 0 QM (F0 m 2 ls []) := by
    intro n
    induction n with
    | zero => intro x2 H locs ls h; exact nn_el h
    | succ n ih =>
      intro x2 H locs ls h hP hD hS hl
      refine lv_iload_n hx hb dX12_hasOpenSum_2 rfl (lv_at hl 1 rfl) ?_
      refine lv_aload_n hx hb dX12_hasOpenSum_3 rfl (lv_at hl 0 rfl) ?_
      refine va_get (D := E.1) (ci := 11) (v := .int (S0.1 15)) (C := RX12) (T := TX12) (N := 57) hx hb hg in_X12 hown X.1 hP 0 rfl rfl 15 (by decide) (hg _ wf_X12_180) (fun _ h9 => h9) rfl dX12_hasOpenSum_4 ?_
      refine lv_icmp_ge (tgt := 32) hx hb dX12_hasOpenSum_7 (by decide) (fun c1 => ?_) (fun c1 => ?_)
      · have h := it_t h c1
        refine lv_iconst (v := 0) hx hb dX12_hasOpenSum_32 (by decide) ?_
        exact RT 0 _ _ _ _ h (by decide +kernel) hP hD hS dX12_hasOpenSum_33
      · have h := it_f h c1
        refine lv_aload_n hx hb dX12_hasOpenSum_10 rfl (lv_at hl 0 rfl) ?_
        refine va_get (D := E.1) (ci := 11) (v := .ref (q0 8)) (C := RX12) (T := TX12) (N := 57) hx hb hg in_X12 hown X.1 hP 0 rfl rfl 19 (by decide) (hg _ wf_X12_32) (fun _ h9 => h9) rfl dX12_hasOpenSum_11 ?_
        refine lv_iload_n hx hb dX12_hasOpenSum_14 rfl (lv_at hl 1 rfl) ?_
        obtain ⟨hi, v2, ev2, h⟩ := rd_el h
        refine va_iald hx hb X.1 hP 8 0 rfl rfl hi dX12_hasOpenSum_15 ?_
        refine lv_top' ev2 ?_
        refine lv_ldc hx hb hown (hg _ wcn_X12_176) dX12_hasOpenSum_16 ?_
        refine lv_idiv hx hb dX12_hasOpenSum_18 (by decide) ?_
        obtain ⟨v3, ev3, h⟩ := lt_el h
        refine lv_top' ev3 ?_
        refine lv_bipush (v := 14) hx hb dX12_hasOpenSum_19 (by decide) ?_
        refine lv_icmp_ne (tgt := 26) hx hb dX12_hasOpenSum_21 (by decide) (fun c4 => ?_) (fun c4 => ?_)
        · have h := it_f h c4
          obtain ⟨v5, ev5, h⟩ := lt_el h
          refine lv_iinc (v := v5) (lv' := [(2, .int v5), (0, .ref (q0 0))]) hx hb dX12_hasOpenSum_26 hl (k := 1) rfl (by rw [ev5]; rfl) (by decide) rfl (fun ls hl => ?_)
          refine lv_goto (tgt := 2) hx hb dX12_hasOpenSum_29 (by decide) ?_
          exact ih v5 _ _ _ h hP hD hS (lv_sub hl [1, 0] rfl)
        · have h := it_t h c4
          refine lv_iconst (v := 1) hx hb dX12_hasOpenSum_24 (by decide) ?_
          exact RT 1 _ _ _ _ h (by decide +kernel) hP hD hS dX12_hasOpenSum_25
  obtain ⟨H, eH⟩ : ∃ z, z = s.heap := ⟨_, rfl⟩
  rw [← eH]
  have hP : va_P E.1 vwCl (cw_X12 E q0 S0) H := by rw [eH]; exact hP
  have hS : va_S A s.heap H [] := by rw [eH]; exact hS
  clear eH
  obtain ⟨locs, el⟩ : ∃ z : List Loc, z = [] := ⟨_, rfl⟩
  rw [← el] at hS ⊢
  clear el
  refine lv_iload_n hx hb dX12_hasOpenSum_0 rfl (lv_at hl 1 rfl) ?_
  refine lv_istore_n (lv' := [(2, .int x1), (0, .ref (q0 0)), (1, .int x1)]) hx hb dX12_hasOpenSum_1 rfl hl (by decide) rfl (fun ls hl => ?_)
  exact N2 fu x1 _ _ _ h hP hD hS (lv_sub hl [1, 0] rfl)
theorem dX12_factOf_0 : decode cX12_factOf 0 = .ok (.iload_n 0, 1) := by decide +kernel
theorem dX12_factOf_1 : decode cX12_factOf 1 = .ok (.tableswitch 123 99 119 #[114, 107, 123, 101, 109, 117, 123, 123, 123, 123, 123, 123, 123, 99, 123, 111, 103, 123, 123, 105, 120], 99) := by decide +kernel
theorem dX12_factOf_100 : decode cX12_factOf 100 = .ok (.iconst 0, 1) := by decide +kernel
theorem dX12_factOf_101 : decode cX12_factOf 101 = .ok (.ireturn, 1) := by decide +kernel
theorem dX12_factOf_102 : decode cX12_factOf 102 = .ok (.iconst 1, 1) := by decide +kernel
theorem dX12_factOf_103 : decode cX12_factOf 103 = .ok (.ireturn, 1) := by decide +kernel
theorem dX12_factOf_104 : decode cX12_factOf 104 = .ok (.iconst 2, 1) := by decide +kernel
theorem dX12_factOf_105 : decode cX12_factOf 105 = .ok (.ireturn, 1) := by decide +kernel
theorem dX12_factOf_106 : decode cX12_factOf 106 = .ok (.iconst 3, 1) := by decide +kernel
theorem dX12_factOf_107 : decode cX12_factOf 107 = .ok (.ireturn, 1) := by decide +kernel
theorem dX12_factOf_108 : decode cX12_factOf 108 = .ok (.iconst 4, 1) := by decide +kernel
theorem dX12_factOf_109 : decode cX12_factOf 109 = .ok (.ireturn, 1) := by decide +kernel
theorem dX12_factOf_110 : decode cX12_factOf 110 = .ok (.iconst 5, 1) := by decide +kernel
theorem dX12_factOf_111 : decode cX12_factOf 111 = .ok (.ireturn, 1) := by decide +kernel
theorem dX12_factOf_112 : decode cX12_factOf 112 = .ok (.bipush 6, 2) := by decide +kernel
theorem dX12_factOf_114 : decode cX12_factOf 114 = .ok (.ireturn, 1) := by decide +kernel
theorem dX12_factOf_115 : decode cX12_factOf 115 = .ok (.bipush 7, 2) := by decide +kernel
theorem dX12_factOf_117 : decode cX12_factOf 117 = .ok (.ireturn, 1) := by decide +kernel
theorem dX12_factOf_118 : decode cX12_factOf 118 = .ok (.bipush 8, 2) := by decide +kernel
theorem dX12_factOf_120 : decode cX12_factOf 120 = .ok (.ireturn, 1) := by decide +kernel
theorem dX12_factOf_121 : decode cX12_factOf 121 = .ok (.bipush 9, 2) := by decide +kernel
theorem dX12_factOf_123 : decode cX12_factOf 123 = .ok (.ireturn, 1) := by decide +kernel
theorem dX12_factOf_124 : decode cX12_factOf 124 = .ok (.iconst (-1), 1) := by decide +kernel
theorem dX12_factOf_125 : decode cX12_factOf 125 = .ok (.ireturn, 1) := by decide +kernel
def f_X12_factOf (x0 : Int32) : Option (Int32) := if x0 = 99 then (some 7) else if x0 = 100 then (some 4) else if x0 = 102 then (some 1) else if x0 = 103 then (some 5) else if x0 = 104 then (some 8) else if x0 = 112 then (some 0) else if x0 = 114 then (some 6) else if x0 = 115 then (some 2) else if x0 = 118 then (some 3) else if x0 = 119 then (some 9) else (some (-1))
set_option maxHeartbeats 4000000 in
set_option maxRecDepth 100000 in
theorem c_X12_factOf (l : Launch) (E : Ec) (sz : Nat) (x0 : Int32) (Rv : Int32) (h : f_X12_factOf x0 = some Rv) : Met l yX12_factOf (wsM (.code yX12_factOf cX12_factOf 1 (some .int))) ({ frames := 0, cells := 0, slots := 0, locals := 0 } : Room) (va_Pc [.int x0] (ctP E ([]) sz)) (ctI E ([]) ([]) sz Rv) 0 0 (va_A ([]) sz) := by
  refine ct_metI (by decide) (Nat.le_of_ble_eq_true rfl) ?_
  intro p e s m ar below meth c A QM hx hb hml hown hg X hP hD hS RET ls hl
  have hown : s.vm.findClass RX12 = some m.cls := hown
  have hl : lv_has ls 1 [(0, .int x0)] := hl
  have RT : ∀ (v : Int32) (H : Heap) (locs : List Loc) (ls : Array Slot) (pc : Nat), some v = some Rv → narrow .int (.int v) = .int v → va_P E.1 vwCl ([]) H → va_D A ([]) → va_S A s.heap H locs → decode cX12_factOf pc = .ok (.ireturn, 1) → W p l e ({ frames := 0, cells := 0, slots := 0, locals := 0 } : Room) s m ar below meth c H locs 0 0 QM (F0 m pc ls [.int v]) := by
    intro v H locs ls pc e hn hP hD hS d
    obtain rfl := sm_e e
    exact RET H locs pc ls hn hP hD hS d
  clear RET
  obtain ⟨H, eH⟩ : ∃ z, z = s.heap := ⟨_, rfl⟩
  rw [← eH]
  have hP : va_P E.1 vwCl ([]) H := by rw [eH]; exact hP
  have hS : va_S A s.heap H [] := by rw [eH]; exact hS
  clear eH
  obtain ⟨locs, el⟩ : ∃ z : List Loc, z = [] := ⟨_, rfl⟩
  rw [← el] at hS ⊢
  clear el
  refine lv_iload_n hx hb dX12_factOf_0 rfl (lv_at hl 0 rfl) ?_
  by_cases c1 : x0 = 99
  · have h := it_t h c1
    refine lv_tableIn (tgt := 115) hx hb dX12_factOf_1 (by rw [c1]; decide) (by rw [c1]; decide) (by rw [c1] <;> rfl) (by decide) ?_
    refine lv_bipush (v := 7) hx hb dX12_factOf_115 (by decide) ?_
    exact RT 7 _ _ _ _ h rfl hP hD hS dX12_factOf_117
  · have h := it_f h c1
    by_cases c2 : x0 = 100
    · have h := it_t h c2
      refine lv_tableIn (tgt := 108) hx hb dX12_factOf_1 (by rw [c2]; decide) (by rw [c2]; decide) (by rw [c2] <;> rfl) (by decide) ?_
      refine lv_iconst (v := 4) hx hb dX12_factOf_108 (by decide) ?_
      exact RT 4 _ _ _ _ h rfl hP hD hS dX12_factOf_109
    · have h := it_f h c2
      by_cases c3 : x0 = 102
      · have h := it_t h c3
        refine lv_tableIn (tgt := 102) hx hb dX12_factOf_1 (by rw [c3]; decide) (by rw [c3]; decide) (by rw [c3] <;> rfl) (by decide) ?_
        refine lv_iconst (v := 1) hx hb dX12_factOf_102 (by decide) ?_
        exact RT 1 _ _ _ _ h rfl hP hD hS dX12_factOf_103
      · have h := it_f h c3
        by_cases c4 : x0 = 103
        · have h := it_t h c4
          refine lv_tableIn (tgt := 110) hx hb dX12_factOf_1 (by rw [c4]; decide) (by rw [c4]; decide) (by rw [c4] <;> rfl) (by decide) ?_
          refine lv_iconst (v := 5) hx hb dX12_factOf_110 (by decide) ?_
          exact RT 5 _ _ _ _ h rfl hP hD hS dX12_factOf_111
        · have h := it_f h c4
          by_cases c5 : x0 = 104
          · have h := it_t h c5
            refine lv_tableIn (tgt := 118) hx hb dX12_factOf_1 (by rw [c5]; decide) (by rw [c5]; decide) (by rw [c5] <;> rfl) (by decide) ?_
            refine lv_bipush (v := 8) hx hb dX12_factOf_118 (by decide) ?_
            exact RT 8 _ _ _ _ h rfl hP hD hS dX12_factOf_120
          · have h := it_f h c5
            by_cases c6 : x0 = 112
            · have h := it_t h c6
              refine lv_tableIn (tgt := 100) hx hb dX12_factOf_1 (by rw [c6]; decide) (by rw [c6]; decide) (by rw [c6] <;> rfl) (by decide) ?_
              refine lv_iconst (v := 0) hx hb dX12_factOf_100 (by decide) ?_
              exact RT 0 _ _ _ _ h rfl hP hD hS dX12_factOf_101
            · have h := it_f h c6
              by_cases c7 : x0 = 114
              · have h := it_t h c7
                refine lv_tableIn (tgt := 112) hx hb dX12_factOf_1 (by rw [c7]; decide) (by rw [c7]; decide) (by rw [c7] <;> rfl) (by decide) ?_
                refine lv_bipush (v := 6) hx hb dX12_factOf_112 (by decide) ?_
                exact RT 6 _ _ _ _ h rfl hP hD hS dX12_factOf_114
              · have h := it_f h c7
                by_cases c8 : x0 = 115
                · have h := it_t h c8
                  refine lv_tableIn (tgt := 104) hx hb dX12_factOf_1 (by rw [c8]; decide) (by rw [c8]; decide) (by rw [c8] <;> rfl) (by decide) ?_
                  refine lv_iconst (v := 2) hx hb dX12_factOf_104 (by decide) ?_
                  exact RT 2 _ _ _ _ h rfl hP hD hS dX12_factOf_105
                · have h := it_f h c8
                  by_cases c9 : x0 = 118
                  · have h := it_t h c9
                    refine lv_tableIn (tgt := 106) hx hb dX12_factOf_1 (by rw [c9]; decide) (by rw [c9]; decide) (by rw [c9] <;> rfl) (by decide) ?_
                    refine lv_iconst (v := 3) hx hb dX12_factOf_106 (by decide) ?_
                    exact RT 3 _ _ _ _ h rfl hP hD hS dX12_factOf_107
                  · have h := it_f h c9
                    by_cases c10 : x0 = 119
                    · have h := it_t h c10
                      refine lv_tableIn (tgt := 121) hx hb dX12_factOf_1 (by rw [c10]; decide) (by rw [c10]; decide) (by rw [c10] <;> rfl) (by decide) ?_
                      refine lv_bipush (v := 9) hx hb dX12_factOf_121 (by decide) ?_
                      exact RT 9 _ _ _ _ h rfl hP hD hS dX12_factOf_123
                    · have h := it_f h c10
                      have hdf : W p l e ({ frames := 0, cells := 0, slots := 0, locals := 0 } : Room) s m ar below meth c H locs 0 0 QM (F0 m 124 ls []) := by
                        refine lv_iconst (v := (-1)) hx hb dX12_factOf_124 (by decide) ?_
                        exact RT (-1) _ _ _ _ h rfl hP hD hS dX12_factOf_125
                      by_cases h1 : (x0).toInt < 99
                      · exact lv_tableOut (tgt := 124) hx hb dX12_factOf_1 (Or.inl h1) (by decide) hdf
                      by_cases h2 : 119 < (x0).toInt
                      · exact lv_tableOut (tgt := 124) hx hb dX12_factOf_1 (Or.inr h2) (by decide) hdf
                      have h3 : (x0).toInt = 99 ∨ (x0).toInt = 100 ∨ (x0).toInt = 101 ∨ (x0).toInt = 102 ∨ (x0).toInt = 103 ∨ (x0).toInt = 104 ∨ (x0).toInt = 105 ∨ (x0).toInt = 106 ∨ (x0).toInt = 107 ∨ (x0).toInt = 108 ∨ (x0).toInt = 109 ∨ (x0).toInt = 110 ∨ (x0).toInt = 111 ∨ (x0).toInt = 112 ∨ (x0).toInt = 113 ∨ (x0).toInt = 114 ∨ (x0).toInt = 115 ∨ (x0).toInt = 116 ∨ (x0).toInt = 117 ∨ (x0).toInt = 118 ∨ (x0).toInt = 119 := by omega
                      rcases h3 with h3 | h3 | h3 | h3 | h3 | h3 | h3 | h3 | h3 | h3 | h3 | h3 | h3 | h3 | h3 | h3 | h3 | h3 | h3 | h3 | h3
                      · exact absurd (Int32.toInt_inj.mp (h3.trans (by decide))) c1
                      · exact absurd (Int32.toInt_inj.mp (h3.trans (by decide))) c2
                      · exact lv_tableIn (tgt := 124) hx hb dX12_factOf_1 (by rw [h3]; decide) (by rw [h3]; decide) (by rw [h3]; rfl) (by decide) hdf
                      · exact absurd (Int32.toInt_inj.mp (h3.trans (by decide))) c3
                      · exact absurd (Int32.toInt_inj.mp (h3.trans (by decide))) c4
                      · exact absurd (Int32.toInt_inj.mp (h3.trans (by decide))) c5
                      · exact lv_tableIn (tgt := 124) hx hb dX12_factOf_1 (by rw [h3]; decide) (by rw [h3]; decide) (by rw [h3]; rfl) (by decide) hdf
                      · exact lv_tableIn (tgt := 124) hx hb dX12_factOf_1 (by rw [h3]; decide) (by rw [h3]; decide) (by rw [h3]; rfl) (by decide) hdf
                      · exact lv_tableIn (tgt := 124) hx hb dX12_factOf_1 (by rw [h3]; decide) (by rw [h3]; decide) (by rw [h3]; rfl) (by decide) hdf
                      · exact lv_tableIn (tgt := 124) hx hb dX12_factOf_1 (by rw [h3]; decide) (by rw [h3]; decide) (by rw [h3]; rfl) (by decide) hdf
                      · exact lv_tableIn (tgt := 124) hx hb dX12_factOf_1 (by rw [h3]; decide) (by rw [h3]; decide) (by rw [h3]; rfl) (by decide) hdf
                      · exact lv_tableIn (tgt := 124) hx hb dX12_factOf_1 (by rw [h3]; decide) (by rw [h3]; decide) (by rw [h3]; rfl) (by decide) hdf
                      · exact lv_tableIn (tgt := 124) hx hb dX12_factOf_1 (by rw [h3]; decide) (by rw [h3]; decide) (by rw [h3]; rfl) (by decide) hdf
                      · exact absurd (Int32.toInt_inj.mp (h3.trans (by decide))) c6
                      · exact lv_tableIn (tgt := 124) hx hb dX12_factOf_1 (by rw [h3]; decide) (by rw [h3]; decide) (by rw [h3]; rfl) (by decide) hdf
                      · exact absurd (Int32.toInt_inj.mp (h3.trans (by decide))) c7
                      · exact absurd (Int32.toInt_inj.mp (h3.trans (by decide))) c8
                      · exact lv_tableIn (tgt := 124) hx hb dX12_factOf_1 (by rw [h3]; decide) (by rw [h3]; decide) (by rw [h3]; rfl) (by decide) hdf
                      · exact lv_tableIn (tgt := 124) hx hb dX12_factOf_1 (by rw [h3]; decide) (by rw [h3]; decide) (by rw [h3]; rfl) (by decide) hdf
                      · exact absurd (Int32.toInt_inj.mp (h3.trans (by decide))) c9
                      · exact absurd (Int32.toInt_inj.mp (h3.trans (by decide))) c10
theorem dX12_readsNumber_0 : decode cX12_readsNumber 0 = .ok (.aload_n 0, 1) := by decide +kernel
theorem dX12_readsNumber_1 : decode cX12_readsNumber 1 = .ok (.getfield 150, 3) := by decide +kernel
theorem dX12_readsNumber_4 : decode cX12_readsNumber 4 = .ok (.istore_n 1, 1) := by decide +kernel
theorem dX12_readsNumber_5 : decode cX12_readsNumber 5 = .ok (.aload_n 0, 1) := by decide +kernel
theorem dX12_readsNumber_6 : decode cX12_readsNumber 6 = .ok (.iconst 0, 1) := by decide +kernel
theorem dX12_readsNumber_7 : decode cX12_readsNumber 7 = .ok (.putfield 166, 3) := by decide +kernel
theorem dX12_readsNumber_10 : decode cX12_readsNumber 10 = .ok (.aload_n 0, 1) := by decide +kernel
theorem dX12_readsNumber_11 : decode cX12_readsNumber 11 = .ok (.invokevirtual 169, 3) := by decide +kernel
theorem dX12_readsNumber_14 : decode cX12_readsNumber 14 = .ok (.ifCond .eq 55, 3) := by decide +kernel
theorem dX12_readsNumber_17 : decode cX12_readsNumber 17 = .ok (.aload_n 0, 1) := by decide +kernel
theorem dX12_readsNumber_18 : decode cX12_readsNumber 18 = .ok (.getfield 150, 3) := by decide +kernel
theorem dX12_readsNumber_21 : decode cX12_readsNumber 21 = .ok (.iload_n 1, 1) := by decide +kernel
theorem dX12_readsNumber_22 : decode cX12_readsNumber 22 = .ok (.iconst 5, 1) := by decide +kernel
theorem dX12_readsNumber_23 : decode cX12_readsNumber 23 = .ok (.iadd, 1) := by decide +kernel
theorem dX12_readsNumber_24 : decode cX12_readsNumber 24 = .ok (.if_icmp .ne 13, 3) := by decide +kernel
theorem dX12_readsNumber_27 : decode cX12_readsNumber 27 = .ok (.aload_n 0, 1) := by decide +kernel
theorem dX12_readsNumber_28 : decode cX12_readsNumber 28 = .ok (.iconst 2, 1) := by decide +kernel
theorem dX12_readsNumber_29 : decode cX12_readsNumber 29 = .ok (.aload_n 0, 1) := by decide +kernel
theorem dX12_readsNumber_30 : decode cX12_readsNumber 30 = .ok (.getfield 150, 3) := by decide +kernel
theorem dX12_readsNumber_33 : decode cX12_readsNumber 33 = .ok (.invokevirtual 163, 3) := by decide +kernel
theorem dX12_readsNumber_36 : decode cX12_readsNumber 36 = .ok (.ireturn, 1) := by decide +kernel
theorem dX12_readsNumber_37 : decode cX12_readsNumber 37 = .ok (.aload_n 0, 1) := by decide +kernel
theorem dX12_readsNumber_38 : decode cX12_readsNumber 38 = .ok (.bipush 10, 2) := by decide +kernel
theorem dX12_readsNumber_40 : decode cX12_readsNumber 40 = .ok (.aload_n 0, 1) := by decide +kernel
theorem dX12_readsNumber_41 : decode cX12_readsNumber 41 = .ok (.getfield 166, 3) := by decide +kernel
theorem dX12_readsNumber_44 : decode cX12_readsNumber 44 = .ok (.imul, 1) := by decide +kernel
theorem dX12_readsNumber_45 : decode cX12_readsNumber 45 = .ok (.aload_n 0, 1) := by decide +kernel
theorem dX12_readsNumber_46 : decode cX12_readsNumber 46 = .ok (.invokevirtual 156, 3) := by decide +kernel
theorem dX12_readsNumber_49 : decode cX12_readsNumber 49 = .ok (.iadd, 1) := by decide +kernel
theorem dX12_readsNumber_50 : decode cX12_readsNumber 50 = .ok (.bipush 48, 2) := by decide +kernel
theorem dX12_readsNumber_52 : decode cX12_readsNumber 52 = .ok (.isub, 1) := by decide +kernel
theorem dX12_readsNumber_53 : decode cX12_readsNumber 53 = .ok (.putfield 166, 3) := by decide +kernel
theorem dX12_readsNumber_56 : decode cX12_readsNumber 56 = .ok (.aload_n 0, 1) := by decide +kernel
theorem dX12_readsNumber_57 : decode cX12_readsNumber 57 = .ok (.aload_n 0, 1) := by decide +kernel
theorem dX12_readsNumber_58 : decode cX12_readsNumber 58 = .ok (.getfield 150, 3) := by decide +kernel
theorem dX12_readsNumber_61 : decode cX12_readsNumber 61 = .ok (.iconst 1, 1) := by decide +kernel
theorem dX12_readsNumber_62 : decode cX12_readsNumber 62 = .ok (.iadd, 1) := by decide +kernel
theorem dX12_readsNumber_63 : decode cX12_readsNumber 63 = .ok (.putfield 150, 3) := by decide +kernel
theorem dX12_readsNumber_66 : decode cX12_readsNumber 66 = .ok (.goto (-56), 3) := by decide +kernel
theorem dX12_readsNumber_69 : decode cX12_readsNumber 69 = .ok (.iconst 1, 1) := by decide +kernel
theorem dX12_readsNumber_70 : decode cX12_readsNumber 70 = .ok (.ireturn, 1) := by decide +kernel
def f_X12_readsNumber_n10  : Nat → Gr → Int32 → Option (Int32 × Gr)
  | 0, _, _ => none
  | n + 1, S0, x1 => (f_X12_isDigit S0).bind fun u3 => if u3 = 0 then (some (1, S0)) else (if (S0.1 9) = (x1 + 5) then ((f_X12_wrongAt S0 2 (S0.1 9)).bind fun u9 => zb' u9.1 (some (u9.1, u9.2))) else ((f_X12_here S0).bind fun u6 => lt' (sI S0 12 (((10 * (S0.1 12)) + u6) - 48)) fun S0_7 => lt' (sI S0_7 9 ((S0_7.1 9) + 1)) fun S0_8 => f_X12_readsNumber_n10 n S0_8 x1))
def f_X12_readsNumber (S0 : Gr) : Option (Int32 × Gr) := lt' ((S0.1 9)) fun v1 => lt' (sI S0 12 0) fun S0_2 => f_X12_readsNumber_n10 fu S0_2 v1
set_option maxHeartbeats 4000000 in
set_option maxRecDepth 100000 in
theorem c_X12_readsNumber (l : Launch) (E : Ec) (q0 : Nat → Nat) (sz : Nat) (S0 : Gr) (Rv : Int32 × Gr) (h : f_X12_readsNumber S0 = some Rv) : Met l yX12_readsNumber (wsM (.code yX12_readsNumber cX12_readsNumber 2 (some .boolean))) ({ frames := 2, cells := 0, slots := 0, locals := 40 } : Room) (va_Pc [.ref (q0 0)] (ctP E (cw_X12 E q0 S0) sz)) (ctI E (cw_X12 E q0 S0) (cw_X12 E q0 Rv.2) sz Rv.1) 0 0 (va_A (cw_X12 E q0 S0) sz) := by
  refine ct_metI (by decide) (Nat.le_of_ble_eq_true rfl) ?_
  intro p e s m ar below meth c A QM hx hb hml hown hg X hP hD hS RET ls hl
  have hown : s.vm.findClass RX12 = some m.cls := hown
  have hl : lv_has ls 2 [(0, .ref (q0 0))] := hl
  have RT : ∀ (v : Int32) (S0 : Gr) (H : Heap) (locs : List Loc) (ls : Array Slot) (pc : Nat), some (v, S0) = some Rv → narrow .boolean (.int v) = .int v → va_P E.1 vwCl (cw_X12 E q0 S0) H → va_D A (cw_X12 E q0 S0) → va_S A s.heap H locs → decode cX12_readsNumber pc = .ok (.ireturn, 1) → W p l e ({ frames := 2, cells := 0, slots := 0, locals := 40 } : Room) s m ar below meth c H locs 0 0 QM (F0 m pc ls [.int v]) := by
    intro v S0 H locs ls pc e hn hP hD hS d
    obtain rfl := sm_e e
    exact RET H locs pc ls hn hP hD hS d
  clear RET
  have N10 : ∀ (n : Nat) (S0 : Gr) (x1 : Int32) (H : Heap) (locs : List Loc) (ls : Array Slot), f_X12_readsNumber_n10 n S0 x1 = some Rv → va_P E.1 vwCl (cw_X12 E q0 S0) H → va_D A (cw_X12 E q0 S0) → va_S A s.heap H locs → lv_has ls 2 [(0, .ref (q0 0)), (1, .int x1)] → W p l e ({ frames := 2, cells := 0, slots := 0, locals := 40 } : Room) s m ar below meth c H locs 0 0 QM (F0 m 10 ls []) := by
    intro n
    induction n with
    | zero => intro S0 x1 H locs ls h; exact nn_el h
    | succ n ih =>
      intro S0 x1 H locs ls h hP hD hS hl
      refine lv_aload_n hx hb dX12_readsNumber_10 rfl (lv_at hl 0 rfl) ?_
      obtain ⟨u3, hc, h⟩ := bd_el h
      refine ct_iA (w1 := cw_X12 E q0 S0) X hP hD hS (va_runV (C := RX12) (As := []) (rest := []) ⟨hx, hb, hml, hown, hg⟩ (c_X12_isDigit l E q0 H.size S0 u3 hc) (cwV 0 hg (gwV wm_X12_169 wi_X12_isDigit wsl_X12_isDigit wini_X12 wco_X12_isDigit) rfl rfl rfl (by decide +kernel) ⟨Nat.le_of_ble_eq_true rfl, Nat.le_of_ble_eq_true rfl⟩) ⟨ct_blind, ct_rv X.1 hP 0 rfl rfl, ct_preA X hP hD hS _⟩ rfl rfl hl.1 rfl (lv_room (Nat.le_of_ble_eq_true rfl)) dX12_readsNumber_11 ⟨Nat.zero_le _, Nat.zero_le _⟩) (fun H locs hP hD hS => ?_)
      refine lv_if_eq (tgt := 69) hx hb dX12_readsNumber_14 (by decide) (fun c4 => ?_) (fun c4 => ?_)
      · have h := it_t h c4
        refine lv_iconst (v := 1) hx hb dX12_readsNumber_69 (by decide) ?_
        exact RT 1 S0 _ _ _ _ h (by decide +kernel) hP hD hS dX12_readsNumber_70
      · have h := it_f h c4
        refine lv_aload_n hx hb dX12_readsNumber_17 rfl (lv_at hl 0 rfl) ?_
        refine va_get (D := E.1) (ci := 11) (v := .int (S0.1 9)) (C := RX12) (T := TX12) (N := 57) hx hb hg in_X12 hown X.1 hP 0 rfl rfl 9 (by decide) (hg _ wf_X12_150) (fun _ h9 => h9) rfl dX12_readsNumber_18 ?_
        refine lv_iload_n hx hb dX12_readsNumber_21 rfl (lv_at hl 1 rfl) ?_
        refine lv_iconst (v := 5) hx hb dX12_readsNumber_22 (by decide) ?_
        refine lv_iadd hx hb dX12_readsNumber_23 ?_
        refine lv_icmp_ne (tgt := 37) hx hb dX12_readsNumber_24 (by decide) (fun c5 => ?_) (fun c5 => ?_)
        · have h := it_f h c5
          refine lv_aload_n hx hb dX12_readsNumber_37 rfl (lv_at hl 0 rfl) ?_
          refine lv_bipush (v := 10) hx hb dX12_readsNumber_38 (by decide) ?_
          refine lv_aload_n hx hb dX12_readsNumber_40 rfl (lv_at hl 0 rfl) ?_
          refine va_get (D := E.1) (ci := 11) (v := .int (S0.1 12)) (C := RX12) (T := TX12) (N := 57) hx hb hg in_X12 hown X.1 hP 0 rfl rfl 12 (by decide) (hg _ wf_X12_166) (fun _ h9 => h9) rfl dX12_readsNumber_41 ?_
          refine lv_imul hx hb dX12_readsNumber_44 ?_
          refine lv_aload_n hx hb dX12_readsNumber_45 rfl (lv_at hl 0 rfl) ?_
          obtain ⟨u6, hc, h⟩ := bd_el h
          refine ct_iA (w1 := cw_X12 E q0 S0) X hP hD hS (va_runV (C := RX12) (As := []) (rest := [.int (10 * (S0.1 12)), .ref (q0 0)]) ⟨hx, hb, hml, hown, hg⟩ (c_X12_here l E q0 H.size S0 u6 hc) (cwV 0 hg (gwV wm_X12_156 wi_X12_here wsl_X12_here wini_X12 wco_X12_here) rfl rfl rfl (by decide +kernel) ⟨Nat.le_of_ble_eq_true rfl, Nat.le_of_ble_eq_true rfl⟩) ⟨ct_blind, ct_rv X.1 hP 0 rfl rfl, ct_preA X hP hD hS _⟩ rfl rfl hl.1 rfl (lv_room (Nat.le_of_ble_eq_true rfl)) dX12_readsNumber_46 ⟨Nat.zero_le _, Nat.zero_le _⟩) (fun H locs hP hD hS => ?_)
          refine lv_iadd hx hb dX12_readsNumber_49 ?_
          refine lv_bipush (v := 48) hx hb dX12_readsNumber_50 (by decide) ?_
          refine lv_isub hx hb dX12_readsNumber_52 ?_
          obtain ⟨S0_7, eS, h⟩ := lt_el h
          refine va_put (D := E.1) (ci := 11) (v := .int (((10 * (S0.1 12)) + u6) - 48)) (ty := .int) (C := RX12) (T := TX12) (N := 57) hx hb hg in_X12 tyX12 tyX12_ok nmX12 hown X.1 hP hD hS 0 rfl rfl 12 (by decide) (hg _ wf_X12_166) (fun _ h9 => h9) rfl (by decide +kernel) rfl rfl (Nat.le_of_ble_eq_true rfl) dX12_readsNumber_53 (fun H locs hP hD hS => ?_)
          have hP : va_P E.1 vwCl (cw_X12 E q0 S0_7) H := by rw [eS]; exact hP
          have hD : va_D A (cw_X12 E q0 S0_7) := by rw [eS]; exact hD
          clear eS
          refine lv_aload_n hx hb dX12_readsNumber_56 rfl (lv_at hl 0 rfl) ?_
          refine lv_aload_n hx hb dX12_readsNumber_57 rfl (lv_at hl 0 rfl) ?_
          refine va_get (D := E.1) (ci := 11) (v := .int (S0_7.1 9)) (C := RX12) (T := TX12) (N := 57) hx hb hg in_X12 hown X.1 hP 0 rfl rfl 9 (by decide) (hg _ wf_X12_150) (fun _ h9 => h9) rfl dX12_readsNumber_58 ?_
          refine lv_iconst (v := 1) hx hb dX12_readsNumber_61 (by decide) ?_
          refine lv_iadd hx hb dX12_readsNumber_62 ?_
          obtain ⟨S0_8, eS, h⟩ := lt_el h
          refine va_put (D := E.1) (ci := 11) (v := .int ((S0_7.1 9) + 1)) (ty := .int) (C := RX12) (T := TX12) (N := 57) hx hb hg in_X12 tyX12 tyX12_ok nmX12 hown X.1 hP hD hS 0 rfl rfl 9 (by decide) (hg _ wf_X12_150) (fun _ h9 => h9) rfl (by decide +kernel) rfl rfl (Nat.le_of_ble_eq_true rfl) dX12_readsNumber_63 (fun H locs hP hD hS => ?_)
          have hP : va_P E.1 vwCl (cw_X12 E q0 S0_8) H := by rw [eS]; exact hP
          have hD : va_D A (cw_X12 E q0 S0_8) := by rw [eS]; exact hD
          clear eS
          refine lv_goto (tgt := 10) hx hb dX12_readsNumber_66 (by decide) ?_
          exact ih S0_8 x1 _ _ _ h hP hD hS (lv_sub hl [0, 1] rfl)
        · have h := it_t h c5
          refine lv_aload_n hx hb dX12_readsNumber_27 rfl (lv_at hl 0 rfl) ?_
          refine lv_iconst (v := 2) hx hb dX12_readsNumber_28 (by decide) ?_
          refine lv_aload_n hx hb dX12_readsNumber_29 rfl (lv_at hl 0 rfl) ?_
          refine va_get (D := E.1) (ci := 11) (v := .int (S0.1 9)) (C := RX12) (T := TX12) (N := 57) hx hb hg in_X12 hown X.1 hP 0 rfl rfl 9 (by decide) (hg _ wf_X12_150) (fun _ h9 => h9) rfl dX12_readsNumber_30 ?_
          obtain ⟨u9, hc, h⟩ := bd_el h
          refine ct_iA (w1 := cw_X12 E q0 u9.2) X hP hD hS (va_runV (C := RX12) (As := [.int 2, .int (S0.1 9)]) (rest := []) ⟨hx, hb, hml, hown, hg⟩ (c_X12_wrongAt l E q0 H.size S0 2 (S0.1 9) u9 hc) (cwV 2 hg (gwV wm_X12_163 wi_X12_wrongAt wsl_X12_wrongAt wini_X12 wco_X12_wrongAt) rfl rfl rfl (by decide +kernel) ⟨Nat.le_of_ble_eq_true rfl, Nat.le_of_ble_eq_true rfl⟩) ⟨ct_blind, ct_rv X.1 hP 0 rfl rfl, ct_preA X hP hD hS _⟩ rfl rfl hl.1 rfl (lv_room (Nat.le_of_ble_eq_true rfl)) dX12_readsNumber_33 ⟨Nat.zero_le _, Nat.zero_le _⟩) (fun H locs hP hD hS => ?_)
          obtain ⟨hn1, -, h⟩ := zb_el h
          exact RT u9.1 u9.2 _ _ _ _ h hn1 hP hD hS dX12_readsNumber_36
  obtain ⟨H, eH⟩ : ∃ z, z = s.heap := ⟨_, rfl⟩
  rw [← eH]
  have hP : va_P E.1 vwCl (cw_X12 E q0 S0) H := by rw [eH]; exact hP
  have hS : va_S A s.heap H [] := by rw [eH]; exact hS
  clear eH
  obtain ⟨locs, el⟩ : ∃ z : List Loc, z = [] := ⟨_, rfl⟩
  rw [← el] at hS ⊢
  clear el
  refine lv_aload_n hx hb dX12_readsNumber_0 rfl (lv_at hl 0 rfl) ?_
  refine va_get (D := E.1) (ci := 11) (v := .int (S0.1 9)) (C := RX12) (T := TX12) (N := 57) hx hb hg in_X12 hown X.1 hP 0 rfl rfl 9 (by decide) (hg _ wf_X12_150) (fun _ h9 => h9) rfl dX12_readsNumber_1 ?_
  obtain ⟨v1, ev1, h⟩ := lt_el h
  refine lv_top' ev1 ?_
  refine lv_istore_n (lv' := [(1, .int v1), (0, .ref (q0 0))]) hx hb dX12_readsNumber_4 rfl hl (by decide) rfl (fun ls hl => ?_)
  refine lv_aload_n hx hb dX12_readsNumber_5 rfl (lv_at hl 1 rfl) ?_
  refine lv_iconst (v := 0) hx hb dX12_readsNumber_6 (by decide) ?_
  obtain ⟨S0_2, eS, h⟩ := lt_el h
  refine va_put (D := E.1) (ci := 11) (v := .int 0) (ty := .int) (C := RX12) (T := TX12) (N := 57) hx hb hg in_X12 tyX12 tyX12_ok nmX12 hown X.1 hP hD hS 0 rfl rfl 12 (by decide) (hg _ wf_X12_166) (fun _ h9 => h9) rfl (by decide +kernel) rfl rfl (Nat.le_of_ble_eq_true rfl) dX12_readsNumber_7 (fun H locs hP hD hS => ?_)
  have hP : va_P E.1 vwCl (cw_X12 E q0 S0_2) H := by rw [eS]; exact hP
  have hD : va_D A (cw_X12 E q0 S0_2) := by rw [eS]; exact hD
  clear eS
  exact N10 fu S0_2 v1 _ _ _ h hP hD hS (lv_sub hl [1, 0] rfl)
theorem dX12_readsFactor_0 : decode cX12_readsFactor 0 = .ok (.aload_n 0, 1) := by decide +kernel
theorem dX12_readsFactor_1 : decode cX12_readsFactor 1 = .ok (.invokevirtual 156, 3) := by decide +kernel
theorem dX12_readsFactor_4 : decode cX12_readsFactor 4 = .ok (.bipush 91, 2) := by decide +kernel
theorem dX12_readsFactor_6 : decode cX12_readsFactor 6 = .ok (.if_icmp .ne 14, 3) := by decide +kernel
theorem dX12_readsFactor_9 : decode cX12_readsFactor 9 = .ok (.aload_n 0, 1) := by decide +kernel
theorem dX12_readsFactor_10 : decode cX12_readsFactor 10 = .ok (.bipush 14, 2) := by decide +kernel
theorem dX12_readsFactor_12 : decode cX12_readsFactor 12 = .ok (.invokevirtual 190, 3) := by decide +kernel
theorem dX12_readsFactor_15 : decode cX12_readsFactor 15 = .ok (.ifCond .ne (-15), 3) := by decide +kernel
theorem dX12_readsFactor_18 : decode cX12_readsFactor 18 = .ok (.iconst 0, 1) := by decide +kernel
theorem dX12_readsFactor_19 : decode cX12_readsFactor 19 = .ok (.ireturn, 1) := by decide +kernel
theorem dX12_readsFactor_20 : decode cX12_readsFactor 20 = .ok (.aload_n 0, 1) := by decide +kernel
theorem dX12_readsFactor_21 : decode cX12_readsFactor 21 = .ok (.invokevirtual 169, 3) := by decide +kernel
theorem dX12_readsFactor_24 : decode cX12_readsFactor 24 = .ok (.ifCond .eq 23, 3) := by decide +kernel
theorem dX12_readsFactor_27 : decode cX12_readsFactor 27 = .ok (.aload_n 0, 1) := by decide +kernel
theorem dX12_readsFactor_28 : decode cX12_readsFactor 28 = .ok (.invokevirtual 193, 3) := by decide +kernel
theorem dX12_readsFactor_31 : decode cX12_readsFactor 31 = .ok (.ifCond .ne 5, 3) := by decide +kernel
theorem dX12_readsFactor_34 : decode cX12_readsFactor 34 = .ok (.iconst 0, 1) := by decide +kernel
theorem dX12_readsFactor_35 : decode cX12_readsFactor 35 = .ok (.ireturn, 1) := by decide +kernel
theorem dX12_readsFactor_36 : decode cX12_readsFactor 36 = .ok (.aload_n 0, 1) := by decide +kernel
theorem dX12_readsFactor_37 : decode cX12_readsFactor 37 = .ok (.iconst 0, 1) := by decide +kernel
theorem dX12_readsFactor_38 : decode cX12_readsFactor 38 = .ok (.aload_n 0, 1) := by decide +kernel
theorem dX12_readsFactor_39 : decode cX12_readsFactor 39 = .ok (.getfield 166, 3) := by decide +kernel
theorem dX12_readsFactor_42 : decode cX12_readsFactor 42 = .ok (.invokevirtual 186, 3) := by decide +kernel
theorem dX12_readsFactor_45 : decode cX12_readsFactor 45 = .ok (.iconst 1, 1) := by decide +kernel
theorem dX12_readsFactor_46 : decode cX12_readsFactor 46 = .ok (.ireturn, 1) := by decide +kernel
theorem dX12_readsFactor_47 : decode cX12_readsFactor 47 = .ok (.aload_n 0, 1) := by decide +kernel
theorem dX12_readsFactor_48 : decode cX12_readsFactor 48 = .ok (.invokevirtual 156, 3) := by decide +kernel
theorem dX12_readsFactor_51 : decode cX12_readsFactor 51 = .ok (.invokestatic 196, 3) := by decide +kernel
theorem dX12_readsFactor_54 : decode cX12_readsFactor 54 = .ok (.istore_n 1, 1) := by decide +kernel
theorem dX12_readsFactor_55 : decode cX12_readsFactor 55 = .ok (.iload_n 1, 1) := by decide +kernel
theorem dX12_readsFactor_56 : decode cX12_readsFactor 56 = .ok (.iconst (-1), 1) := by decide +kernel
theorem dX12_readsFactor_57 : decode cX12_readsFactor 57 = .ok (.if_icmp .ne 13, 3) := by decide +kernel
theorem dX12_readsFactor_60 : decode cX12_readsFactor 60 = .ok (.aload_n 0, 1) := by decide +kernel
theorem dX12_readsFactor_61 : decode cX12_readsFactor 61 = .ok (.iconst 1, 1) := by decide +kernel
theorem dX12_readsFactor_62 : decode cX12_readsFactor 62 = .ok (.aload_n 0, 1) := by decide +kernel
theorem dX12_readsFactor_63 : decode cX12_readsFactor 63 = .ok (.getfield 150, 3) := by decide +kernel
theorem dX12_readsFactor_66 : decode cX12_readsFactor 66 = .ok (.invokevirtual 163, 3) := by decide +kernel
theorem dX12_readsFactor_69 : decode cX12_readsFactor 69 = .ok (.ireturn, 1) := by decide +kernel
theorem dX12_readsFactor_70 : decode cX12_readsFactor 70 = .ok (.aload_n 0, 1) := by decide +kernel
theorem dX12_readsFactor_71 : decode cX12_readsFactor 71 = .ok (.iconst 1, 1) := by decide +kernel
theorem dX12_readsFactor_72 : decode cX12_readsFactor 72 = .ok (.iload_n 1, 1) := by decide +kernel
theorem dX12_readsFactor_73 : decode cX12_readsFactor 73 = .ok (.invokevirtual 186, 3) := by decide +kernel
theorem dX12_readsFactor_76 : decode cX12_readsFactor 76 = .ok (.aload_n 0, 1) := by decide +kernel
theorem dX12_readsFactor_77 : decode cX12_readsFactor 77 = .ok (.aload_n 0, 1) := by decide +kernel
theorem dX12_readsFactor_78 : decode cX12_readsFactor 78 = .ok (.getfield 150, 3) := by decide +kernel
theorem dX12_readsFactor_81 : decode cX12_readsFactor 81 = .ok (.iconst 1, 1) := by decide +kernel
theorem dX12_readsFactor_82 : decode cX12_readsFactor 82 = .ok (.iadd, 1) := by decide +kernel
theorem dX12_readsFactor_83 : decode cX12_readsFactor 83 = .ok (.putfield 150, 3) := by decide +kernel
theorem dX12_readsFactor_86 : decode cX12_readsFactor 86 = .ok (.iconst 1, 1) := by decide +kernel
theorem dX12_readsFactor_87 : decode cX12_readsFactor 87 = .ok (.ireturn, 1) := by decide +kernel
def f_X12_readsFactor_n0  : Nat → Gr → Option (Int32 × Gr)
  | 0, _ => none
  | n + 1, S0 => (f_X12_here S0).bind fun u1 => if u1 = 91 then ((f_X12_opens S0 14).bind fun u14 => if u14.1 = 0 then (some (0, u14.2)) else (f_X12_readsFactor_n0 n u14.2)) else ((f_X12_isDigit S0).bind fun u3 => if u3 = 0 then ((f_X12_here S0).bind fun u5 => (f_X12_factOf u5).bind fun u6 => if u6 = (-1) then ((f_X12_wrongAt S0 1 (S0.1 9)).bind fun u10 => zb' u10.1 (some (u10.1, u10.2))) else ((f_X12_notes S0 1 u6).bind fun u8 => lt' (sI u8 9 ((u8.1 9) + 1)) fun S0_9 => some (1, S0_9))) else ((f_X12_readsNumber S0).bind fun u11 => if u11.1 = 0 then (some (0, u11.2)) else ((f_X12_notes u11.2 0 (u11.2.1 12)).bind fun u13 => some (1, u13))))
def f_X12_readsFactor (S0 : Gr) : Option (Int32 × Gr) := f_X12_readsFactor_n0 fu S0
set_option maxHeartbeats 4000000 in
set_option maxRecDepth 100000 in
theorem c_X12_readsFactor (l : Launch) (E : Ec) (q0 : Nat → Nat) (sz : Nat) (S0 : Gr) (Rv : Int32 × Gr) (h : f_X12_readsFactor S0 = some Rv) : Met l yX12_readsFactor (wsM (.code yX12_readsFactor cX12_readsFactor 2 (some .boolean))) ({ frames := 3, cells := 0, slots := 0, locals := 61 } : Room) (va_Pc [.ref (q0 0)] (ctP E (cw_X12 E q0 S0) sz)) (ctI E (cw_X12 E q0 S0) (cw_X12 E q0 Rv.2) sz Rv.1) 0 0 (va_A (cw_X12 E q0 S0) sz) := by
  refine ct_metI (by decide) (Nat.le_of_ble_eq_true rfl) ?_
  intro p e s m ar below meth c A QM hx hb hml hown hg X hP hD hS RET ls hl
  have hown : s.vm.findClass RX12 = some m.cls := hown
  have hl : lv_has ls 2 [(0, .ref (q0 0))] := hl
  have RT : ∀ (v : Int32) (S0 : Gr) (H : Heap) (locs : List Loc) (ls : Array Slot) (pc : Nat), some (v, S0) = some Rv → narrow .boolean (.int v) = .int v → va_P E.1 vwCl (cw_X12 E q0 S0) H → va_D A (cw_X12 E q0 S0) → va_S A s.heap H locs → decode cX12_readsFactor pc = .ok (.ireturn, 1) → W p l e ({ frames := 3, cells := 0, slots := 0, locals := 61 } : Room) s m ar below meth c H locs 0 0 QM (F0 m pc ls [.int v]) := by
    intro v S0 H locs ls pc e hn hP hD hS d
    obtain rfl := sm_e e
    exact RET H locs pc ls hn hP hD hS d
  clear RET
  have N0 : ∀ (n : Nat) (S0 : Gr) (H : Heap) (locs : List Loc) (ls : Array Slot), f_X12_readsFactor_n0 n S0 = some Rv → va_P E.1 vwCl (cw_X12 E q0 S0) H → va_D A (cw_X12 E q0 S0) → va_S A s.heap H locs → lv_has ls 2 [(0, .ref (q0 0))] → W p l e ({ frames := 3, cells := 0, slots := 0, locals := 61 } : Room) s m ar below meth c H locs 0 0 QM (F0 m 0 ls []) := by
    intro n
    induction n with
    | zero => intro S0 H locs ls h; exact nn_el h
    | succ n ih =>
      intro S0 H locs ls h hP hD hS hl
      refine lv_aload_n hx hb dX12_readsFactor_0 rfl (lv_at hl 0 rfl) ?_
      obtain ⟨u1, hc, h⟩ := bd_el h
      refine ct_iA (w1 := cw_X12 E q0 S0) X hP hD hS (va_runV (C := RX12) (As := []) (rest := []) ⟨hx, hb, hml, hown, hg⟩ (c_X12_here l E q0 H.size S0 u1 hc) (cwV 0 hg (gwV wm_X12_156 wi_X12_here wsl_X12_here wini_X12 wco_X12_here) rfl rfl rfl (by decide +kernel) ⟨Nat.le_of_ble_eq_true rfl, Nat.le_of_ble_eq_true rfl⟩) ⟨ct_blind, ct_rv X.1 hP 0 rfl rfl, ct_preA X hP hD hS _⟩ rfl rfl hl.1 rfl (lv_room (Nat.le_of_ble_eq_true rfl)) dX12_readsFactor_1 ⟨Nat.zero_le _, Nat.zero_le _⟩) (fun H locs hP hD hS => ?_)
      refine lv_bipush (v := 91) hx hb dX12_readsFactor_4 (by decide) ?_
      refine lv_icmp_ne (tgt := 20) hx hb dX12_readsFactor_6 (by decide) (fun c2 => ?_) (fun c2 => ?_)
      · have h := it_f h c2
        refine lv_aload_n hx hb dX12_readsFactor_20 rfl (lv_at hl 0 rfl) ?_
        obtain ⟨u3, hc, h⟩ := bd_el h
        refine ct_iA (w1 := cw_X12 E q0 S0) X hP hD hS (va_runV (C := RX12) (As := []) (rest := []) ⟨hx, hb, hml, hown, hg⟩ (c_X12_isDigit l E q0 H.size S0 u3 hc) (cwV 0 hg (gwV wm_X12_169 wi_X12_isDigit wsl_X12_isDigit wini_X12 wco_X12_isDigit) rfl rfl rfl (by decide +kernel) ⟨Nat.le_of_ble_eq_true rfl, Nat.le_of_ble_eq_true rfl⟩) ⟨ct_blind, ct_rv X.1 hP 0 rfl rfl, ct_preA X hP hD hS _⟩ rfl rfl hl.1 rfl (lv_room (Nat.le_of_ble_eq_true rfl)) dX12_readsFactor_21 ⟨Nat.zero_le _, Nat.zero_le _⟩) (fun H locs hP hD hS => ?_)
        refine lv_if_eq (tgt := 47) hx hb dX12_readsFactor_24 (by decide) (fun c4 => ?_) (fun c4 => ?_)
        · have h := it_t h c4
          refine lv_aload_n hx hb dX12_readsFactor_47 rfl (lv_at hl 0 rfl) ?_
          obtain ⟨u5, hc, h⟩ := bd_el h
          refine ct_iA (w1 := cw_X12 E q0 S0) X hP hD hS (va_runV (C := RX12) (As := []) (rest := []) ⟨hx, hb, hml, hown, hg⟩ (c_X12_here l E q0 H.size S0 u5 hc) (cwV 0 hg (gwV wm_X12_156 wi_X12_here wsl_X12_here wini_X12 wco_X12_here) rfl rfl rfl (by decide +kernel) ⟨Nat.le_of_ble_eq_true rfl, Nat.le_of_ble_eq_true rfl⟩) ⟨ct_blind, ct_rv X.1 hP 0 rfl rfl, ct_preA X hP hD hS _⟩ rfl rfl hl.1 rfl (lv_room (Nat.le_of_ble_eq_true rfl)) dX12_readsFactor_48 ⟨Nat.zero_le _, Nat.zero_le _⟩) (fun H locs hP hD hS => ?_)
          obtain ⟨u6, hc, h⟩ := bd_el h
          refine ct_iN X hP hD hS (va_runS (As := [.int u5]) (rest := []) ⟨hx, hb, hml, hown, hg⟩ (c_X12_factOf l E  H.size u5 u6 hc) (va_cwS 1 hg (gwS wm_X12_196 wst_X12_factOf wini_X12 wco_X12_factOf) rfl rfl rfl (by decide +kernel) ⟨Nat.le_of_ble_eq_true rfl, Nat.le_of_ble_eq_true rfl⟩) ⟨ct_blind, ct_preN X hS _⟩ rfl rfl hl.1 rfl (lv_room (Nat.le_of_ble_eq_true rfl)) dX12_readsFactor_51 ⟨Nat.zero_le _, Nat.zero_le _⟩) (fun H locs hP hD hS => ?_)
          refine lv_istore_n (lv' := [(1, .int u6), (0, .ref (q0 0))]) hx hb dX12_readsFactor_54 rfl hl (by decide) rfl (fun ls hl => ?_)
          refine lv_iload_n hx hb dX12_readsFactor_55 rfl (lv_at hl 0 rfl) ?_
          refine lv_iconst (v := (-1)) hx hb dX12_readsFactor_56 (by decide) ?_
          refine lv_icmp_ne (tgt := 70) hx hb dX12_readsFactor_57 (by decide) (fun c7 => ?_) (fun c7 => ?_)
          · have h := it_f h c7
            refine lv_aload_n hx hb dX12_readsFactor_70 rfl (lv_at hl 1 rfl) ?_
            refine lv_iconst (v := 1) hx hb dX12_readsFactor_71 (by decide) ?_
            refine lv_iload_n hx hb dX12_readsFactor_72 rfl (lv_at hl 0 rfl) ?_
            obtain ⟨u8, hc, h⟩ := bd_el h
            refine ct_vA (w1 := cw_X12 E q0 u8) X hP hD hS (va_runV (C := RX12) (As := [.int 1, .int u6]) (rest := []) ⟨hx, hb, hml, hown, hg⟩ (c_X12_notes l E q0 H.size S0 1 u6 u8 hc) (cwV 2 hg (gwV wm_X12_186 wi_X12_notes wsl_X12_notes wini_X12 wco_X12_notes) rfl rfl rfl (by decide +kernel) ⟨Nat.le_of_ble_eq_true rfl, Nat.le_of_ble_eq_true rfl⟩) ⟨ct_blind, ct_rv X.1 hP 0 rfl rfl, ct_preA X hP hD hS _⟩ rfl rfl hl.1 rfl (lv_room (Nat.le_of_ble_eq_true rfl)) dX12_readsFactor_73 ⟨Nat.zero_le _, Nat.zero_le _⟩) (fun H locs hP hD hS => ?_)
            refine lv_aload_n hx hb dX12_readsFactor_76 rfl (lv_at hl 1 rfl) ?_
            refine lv_aload_n hx hb dX12_readsFactor_77 rfl (lv_at hl 1 rfl) ?_
            refine va_get (D := E.1) (ci := 11) (v := .int (u8.1 9)) (C := RX12) (T := TX12) (N := 57) hx hb hg in_X12 hown X.1 hP 0 rfl rfl 9 (by decide) (hg _ wf_X12_150) (fun _ h9 => h9) rfl dX12_readsFactor_78 ?_
            refine lv_iconst (v := 1) hx hb dX12_readsFactor_81 (by decide) ?_
            refine lv_iadd hx hb dX12_readsFactor_82 ?_
            obtain ⟨S0_9, eS, h⟩ := lt_el h
            refine va_put (D := E.1) (ci := 11) (v := .int ((u8.1 9) + 1)) (ty := .int) (C := RX12) (T := TX12) (N := 57) hx hb hg in_X12 tyX12 tyX12_ok nmX12 hown X.1 hP hD hS 0 rfl rfl 9 (by decide) (hg _ wf_X12_150) (fun _ h9 => h9) rfl (by decide +kernel) rfl rfl (Nat.le_of_ble_eq_true rfl) dX12_readsFactor_83 (fun H locs hP hD hS => ?_)
            have hP : va_P E.1 vwCl (cw_X12 E q0 S0_9) H := by rw [eS]; exact hP
            have hD : va_D A (cw_X12 E q0 S0_9) := by rw [eS]; exact hD
            clear eS
            refine lv_iconst (v := 1) hx hb dX12_readsFactor_86 (by decide) ?_
            exact RT 1 S0_9 _ _ _ _ h (by decide +kernel) hP hD hS dX12_readsFactor_87
          · have h := it_t h c7
            refine lv_aload_n hx hb dX12_readsFactor_60 rfl (lv_at hl 1 rfl) ?_
            refine lv_iconst (v := 1) hx hb dX12_readsFactor_61 (by decide) ?_
            refine lv_aload_n hx hb dX12_readsFactor_62 rfl (lv_at hl 1 rfl) ?_
            refine va_get (D := E.1) (ci := 11) (v := .int (S0.1 9)) (C := RX12) (T := TX12) (N := 57) hx hb hg in_X12 hown X.1 hP 0 rfl rfl 9 (by decide) (hg _ wf_X12_150) (fun _ h9 => h9) rfl dX12_readsFactor_63 ?_
            obtain ⟨u10, hc, h⟩ := bd_el h
            refine ct_iA (w1 := cw_X12 E q0 u10.2) X hP hD hS (va_runV (C := RX12) (As := [.int 1, .int (S0.1 9)]) (rest := []) ⟨hx, hb, hml, hown, hg⟩ (c_X12_wrongAt l E q0 H.size S0 1 (S0.1 9) u10 hc) (cwV 2 hg (gwV wm_X12_163 wi_X12_wrongAt wsl_X12_wrongAt wini_X12 wco_X12_wrongAt) rfl rfl rfl (by decide +kernel) ⟨Nat.le_of_ble_eq_true rfl, Nat.le_of_ble_eq_true rfl⟩) ⟨ct_blind, ct_rv X.1 hP 0 rfl rfl, ct_preA X hP hD hS _⟩ rfl rfl hl.1 rfl (lv_room (Nat.le_of_ble_eq_true rfl)) dX12_readsFactor_66 ⟨Nat.zero_le _, Nat.zero_le _⟩) (fun H locs hP hD hS => ?_)
            obtain ⟨hn1, -, h⟩ := zb_el h
            exact RT u10.1 u10.2 _ _ _ _ h hn1 hP hD hS dX12_readsFactor_69
        · have h := it_f h c4
          refine lv_aload_n hx hb dX12_readsFactor_27 rfl (lv_at hl 0 rfl) ?_
          obtain ⟨u11, hc, h⟩ := bd_el h
          refine ct_iA (w1 := cw_X12 E q0 u11.2) X hP hD hS (va_runV (C := RX12) (As := []) (rest := []) ⟨hx, hb, hml, hown, hg⟩ (c_X12_readsNumber l E q0 H.size S0 u11 hc) (cwV 0 hg (gwV wm_X12_193 wi_X12_readsNumber wsl_X12_readsNumber wini_X12 wco_X12_readsNumber) rfl rfl rfl (by decide +kernel) ⟨Nat.le_of_ble_eq_true rfl, Nat.le_of_ble_eq_true rfl⟩) ⟨ct_blind, ct_rv X.1 hP 0 rfl rfl, ct_preA X hP hD hS _⟩ rfl rfl hl.1 rfl (lv_room (Nat.le_of_ble_eq_true rfl)) dX12_readsFactor_28 ⟨Nat.zero_le _, Nat.zero_le _⟩) (fun H locs hP hD hS => ?_)
          refine lv_if_ne (tgt := 36) hx hb dX12_readsFactor_31 (by decide) (fun c12 => ?_) (fun c12 => ?_)
          · have h := it_f h c12
            refine lv_aload_n hx hb dX12_readsFactor_36 rfl (lv_at hl 0 rfl) ?_
            refine lv_iconst (v := 0) hx hb dX12_readsFactor_37 (by decide) ?_
            refine lv_aload_n hx hb dX12_readsFactor_38 rfl (lv_at hl 0 rfl) ?_
            refine va_get (D := E.1) (ci := 11) (v := .int (u11.2.1 12)) (C := RX12) (T := TX12) (N := 57) hx hb hg in_X12 hown X.1 hP 0 rfl rfl 12 (by decide) (hg _ wf_X12_166) (fun _ h9 => h9) rfl dX12_readsFactor_39 ?_
            obtain ⟨u13, hc, h⟩ := bd_el h
            refine ct_vA (w1 := cw_X12 E q0 u13) X hP hD hS (va_runV (C := RX12) (As := [.int 0, .int (u11.2.1 12)]) (rest := []) ⟨hx, hb, hml, hown, hg⟩ (c_X12_notes l E q0 H.size u11.2 0 (u11.2.1 12) u13 hc) (cwV 2 hg (gwV wm_X12_186 wi_X12_notes wsl_X12_notes wini_X12 wco_X12_notes) rfl rfl rfl (by decide +kernel) ⟨Nat.le_of_ble_eq_true rfl, Nat.le_of_ble_eq_true rfl⟩) ⟨ct_blind, ct_rv X.1 hP 0 rfl rfl, ct_preA X hP hD hS _⟩ rfl rfl hl.1 rfl (lv_room (Nat.le_of_ble_eq_true rfl)) dX12_readsFactor_42 ⟨Nat.zero_le _, Nat.zero_le _⟩) (fun H locs hP hD hS => ?_)
            refine lv_iconst (v := 1) hx hb dX12_readsFactor_45 (by decide) ?_
            exact RT 1 u13 _ _ _ _ h (by decide +kernel) hP hD hS dX12_readsFactor_46
          · have h := it_t h c12
            refine lv_iconst (v := 0) hx hb dX12_readsFactor_34 (by decide) ?_
            exact RT 0 u11.2 _ _ _ _ h (by decide +kernel) hP hD hS dX12_readsFactor_35
      · have h := it_t h c2
        refine lv_aload_n hx hb dX12_readsFactor_9 rfl (lv_at hl 0 rfl) ?_
        refine lv_bipush (v := 14) hx hb dX12_readsFactor_10 (by decide) ?_
        obtain ⟨u14, hc, h⟩ := bd_el h
        refine ct_iA (w1 := cw_X12 E q0 u14.2) X hP hD hS (va_runV (C := RX12) (As := [.int 14]) (rest := []) ⟨hx, hb, hml, hown, hg⟩ (c_X12_opens l E q0 H.size S0 14 u14 hc) (cwV 1 hg (gwV wm_X12_190 wi_X12_opens wsl_X12_opens wini_X12 wco_X12_opens) rfl rfl rfl (by decide +kernel) ⟨Nat.le_of_ble_eq_true rfl, Nat.le_of_ble_eq_true rfl⟩) ⟨ct_blind, ct_rv X.1 hP 0 rfl rfl, ct_preA X hP hD hS _⟩ rfl rfl hl.1 rfl (lv_room (Nat.le_of_ble_eq_true rfl)) dX12_readsFactor_12 ⟨Nat.zero_le _, Nat.zero_le _⟩) (fun H locs hP hD hS => ?_)
        refine lv_if_ne (tgt := 0) hx hb dX12_readsFactor_15 (by decide) (fun c15 => ?_) (fun c15 => ?_)
        · have h := it_f h c15
          exact ih u14.2 _ _ _ h hP hD hS (lv_sub hl [0] rfl)
        · have h := it_t h c15
          refine lv_iconst (v := 0) hx hb dX12_readsFactor_18 (by decide) ?_
          exact RT 0 u14.2 _ _ _ _ h (by decide +kernel) hP hD hS dX12_readsFactor_19
  obtain ⟨H, eH⟩ : ∃ z, z = s.heap := ⟨_, rfl⟩
  rw [← eH]
  have hP : va_P E.1 vwCl (cw_X12 E q0 S0) H := by rw [eH]; exact hP
  have hS : va_S A s.heap H [] := by rw [eH]; exact hS
  clear eH
  obtain ⟨locs, el⟩ : ∃ z : List Loc, z = [] := ⟨_, rfl⟩
  rw [← el] at hS ⊢
  clear el
  exact N0 fu S0 _ _ _ h hP hD hS (lv_sub hl [0] rfl)
theorem dX12_sumSign_0 : decode cX12_sumSign 0 = .ok (.iload_n 0, 1) := by decide +kernel
theorem dX12_sumSign_1 : decode cX12_sumSign 1 = .ok (.bipush 43, 2) := by decide +kernel
theorem dX12_sumSign_3 : decode cX12_sumSign 3 = .ok (.if_icmp .ne 7, 3) := by decide +kernel
theorem dX12_sumSign_6 : decode cX12_sumSign 6 = .ok (.iconst 2, 1) := by decide +kernel
theorem dX12_sumSign_7 : decode cX12_sumSign 7 = .ok (.goto 45, 3) := by decide +kernel
theorem dX12_sumSign_10 : decode cX12_sumSign 10 = .ok (.iload_n 0, 1) := by decide +kernel
theorem dX12_sumSign_11 : decode cX12_sumSign 11 = .ok (.bipush 45, 2) := by decide +kernel
theorem dX12_sumSign_13 : decode cX12_sumSign 13 = .ok (.if_icmp .ne 7, 3) := by decide +kernel
theorem dX12_sumSign_16 : decode cX12_sumSign 16 = .ok (.iconst 3, 1) := by decide +kernel
theorem dX12_sumSign_17 : decode cX12_sumSign 17 = .ok (.goto 35, 3) := by decide +kernel
theorem dX12_sumSign_20 : decode cX12_sumSign 20 = .ok (.iload_n 0, 1) := by decide +kernel
theorem dX12_sumSign_21 : decode cX12_sumSign 21 = .ok (.bipush 42, 2) := by decide +kernel
theorem dX12_sumSign_23 : decode cX12_sumSign 23 = .ok (.if_icmp .ne 7, 3) := by decide +kernel
theorem dX12_sumSign_26 : decode cX12_sumSign 26 = .ok (.iconst 4, 1) := by decide +kernel
theorem dX12_sumSign_27 : decode cX12_sumSign 27 = .ok (.goto 25, 3) := by decide +kernel
theorem dX12_sumSign_30 : decode cX12_sumSign 30 = .ok (.iload_n 0, 1) := by decide +kernel
theorem dX12_sumSign_31 : decode cX12_sumSign 31 = .ok (.bipush 47, 2) := by decide +kernel
theorem dX12_sumSign_33 : decode cX12_sumSign 33 = .ok (.if_icmp .ne 7, 3) := by decide +kernel
theorem dX12_sumSign_36 : decode cX12_sumSign 36 = .ok (.iconst 5, 1) := by decide +kernel
theorem dX12_sumSign_37 : decode cX12_sumSign 37 = .ok (.goto 15, 3) := by decide +kernel
theorem dX12_sumSign_40 : decode cX12_sumSign 40 = .ok (.iload_n 0, 1) := by decide +kernel
theorem dX12_sumSign_41 : decode cX12_sumSign 41 = .ok (.bipush 37, 2) := by decide +kernel
theorem dX12_sumSign_43 : decode cX12_sumSign 43 = .ok (.if_icmp .ne 8, 3) := by decide +kernel
theorem dX12_sumSign_46 : decode cX12_sumSign 46 = .ok (.bipush 6, 2) := by decide +kernel
theorem dX12_sumSign_48 : decode cX12_sumSign 48 = .ok (.goto 4, 3) := by decide +kernel
theorem dX12_sumSign_51 : decode cX12_sumSign 51 = .ok (.iconst (-1), 1) := by decide +kernel
theorem dX12_sumSign_52 : decode cX12_sumSign 52 = .ok (.ireturn, 1) := by decide +kernel
def f_X12_sumSign (x0 : Int32) : Option (Int32) := if x0 = 43 then (some 2) else (if x0 = 45 then (some 3) else (if x0 = 42 then (some 4) else (if x0 = 47 then (some 5) else (if x0 = 37 then (some 6) else (some (-1))))))
set_option maxHeartbeats 4000000 in
set_option maxRecDepth 100000 in
theorem c_X12_sumSign (l : Launch) (E : Ec) (sz : Nat) (x0 : Int32) (Rv : Int32) (h : f_X12_sumSign x0 = some Rv) : Met l yX12_sumSign (wsM (.code yX12_sumSign cX12_sumSign 1 (some .int))) ({ frames := 0, cells := 0, slots := 0, locals := 0 } : Room) (va_Pc [.int x0] (ctP E ([]) sz)) (ctI E ([]) ([]) sz Rv) 0 0 (va_A ([]) sz) := by
  refine ct_metI (by decide) (Nat.le_of_ble_eq_true rfl) ?_
  intro p e s m ar below meth c A QM hx hb hml hown hg X hP hD hS RET ls hl
  have hown : s.vm.findClass RX12 = some m.cls := hown
  have hl : lv_has ls 1 [(0, .int x0)] := hl
  have RT : ∀ (v : Int32) (H : Heap) (locs : List Loc) (ls : Array Slot) (pc : Nat), some v = some Rv → narrow .int (.int v) = .int v → va_P E.1 vwCl ([]) H → va_D A ([]) → va_S A s.heap H locs → decode cX12_sumSign pc = .ok (.ireturn, 1) → W p l e ({ frames := 0, cells := 0, slots := 0, locals := 0 } : Room) s m ar below meth c H locs 0 0 QM (F0 m pc ls [.int v]) := by
    intro v H locs ls pc e hn hP hD hS d
    obtain rfl := sm_e e
    exact RET H locs pc ls hn hP hD hS d
  clear RET
  obtain ⟨H, eH⟩ : ∃ z, z = s.heap := ⟨_, rfl⟩
  rw [← eH]
  have hP : va_P E.1 vwCl ([]) H := by rw [eH]; exact hP
  have hS : va_S A s.heap H [] := by rw [eH]; exact hS
  clear eH
  obtain ⟨locs, el⟩ : ∃ z : List Loc, z = [] := ⟨_, rfl⟩
  rw [← el] at hS ⊢
  clear el
  refine lv_iload_n hx hb dX12_sumSign_0 rfl (lv_at hl 0 rfl) ?_
  refine lv_bipush (v := 43) hx hb dX12_sumSign_1 (by decide) ?_
  refine lv_icmp_ne (tgt := 10) hx hb dX12_sumSign_3 (by decide) (fun c1 => ?_) (fun c1 => ?_)
  · have h := it_f h c1
    refine lv_iload_n hx hb dX12_sumSign_10 rfl (lv_at hl 0 rfl) ?_
    refine lv_bipush (v := 45) hx hb dX12_sumSign_11 (by decide) ?_
    refine lv_icmp_ne (tgt := 20) hx hb dX12_sumSign_13 (by decide) (fun c2 => ?_) (fun c2 => ?_)
    · have h := it_f h c2
      refine lv_iload_n hx hb dX12_sumSign_20 rfl (lv_at hl 0 rfl) ?_
      refine lv_bipush (v := 42) hx hb dX12_sumSign_21 (by decide) ?_
      refine lv_icmp_ne (tgt := 30) hx hb dX12_sumSign_23 (by decide) (fun c3 => ?_) (fun c3 => ?_)
      · have h := it_f h c3
        refine lv_iload_n hx hb dX12_sumSign_30 rfl (lv_at hl 0 rfl) ?_
        refine lv_bipush (v := 47) hx hb dX12_sumSign_31 (by decide) ?_
        refine lv_icmp_ne (tgt := 40) hx hb dX12_sumSign_33 (by decide) (fun c4 => ?_) (fun c4 => ?_)
        · have h := it_f h c4
          refine lv_iload_n hx hb dX12_sumSign_40 rfl (lv_at hl 0 rfl) ?_
          refine lv_bipush (v := 37) hx hb dX12_sumSign_41 (by decide) ?_
          refine lv_icmp_ne (tgt := 51) hx hb dX12_sumSign_43 (by decide) (fun c5 => ?_) (fun c5 => ?_)
          · have h := it_f h c5
            refine lv_iconst (v := (-1)) hx hb dX12_sumSign_51 (by decide) ?_
            exact RT (-1) _ _ _ _ h rfl hP hD hS dX12_sumSign_52
          · have h := it_t h c5
            refine lv_bipush (v := 6) hx hb dX12_sumSign_46 (by decide) ?_
            refine lv_goto (tgt := 52) hx hb dX12_sumSign_48 (by decide) ?_
            exact RT 6 _ _ _ _ h rfl hP hD hS dX12_sumSign_52
        · have h := it_t h c4
          refine lv_iconst (v := 5) hx hb dX12_sumSign_36 (by decide) ?_
          refine lv_goto (tgt := 52) hx hb dX12_sumSign_37 (by decide) ?_
          exact RT 5 _ _ _ _ h rfl hP hD hS dX12_sumSign_52
      · have h := it_t h c3
        refine lv_iconst (v := 4) hx hb dX12_sumSign_26 (by decide) ?_
        refine lv_goto (tgt := 52) hx hb dX12_sumSign_27 (by decide) ?_
        exact RT 4 _ _ _ _ h rfl hP hD hS dX12_sumSign_52
    · have h := it_t h c2
      refine lv_iconst (v := 3) hx hb dX12_sumSign_16 (by decide) ?_
      refine lv_goto (tgt := 52) hx hb dX12_sumSign_17 (by decide) ?_
      exact RT 3 _ _ _ _ h rfl hP hD hS dX12_sumSign_52
  · have h := it_t h c1
    refine lv_iconst (v := 2) hx hb dX12_sumSign_6 (by decide) ?_
    refine lv_goto (tgt := 52) hx hb dX12_sumSign_7 (by decide) ?_
    exact RT 2 _ _ _ _ h rfl hP hD hS dX12_sumSign_52
theorem dX12_readsSum_0 : decode cX12_readsSum 0 = .ok (.aload_n 0, 1) := by decide +kernel
theorem dX12_readsSum_1 : decode cX12_readsSum 1 = .ok (.getfield 180, 3) := by decide +kernel
theorem dX12_readsSum_4 : decode cX12_readsSum 4 = .ok (.istore_n 1, 1) := by decide +kernel
theorem dX12_readsSum_5 : decode cX12_readsSum 5 = .ok (.aload_n 0, 1) := by decide +kernel
theorem dX12_readsSum_6 : decode cX12_readsSum 6 = .ok (.invokevirtual 199, 3) := by decide +kernel
theorem dX12_readsSum_9 : decode cX12_readsSum 9 = .ok (.ifCond .ne 5, 3) := by decide +kernel
theorem dX12_readsSum_12 : decode cX12_readsSum 12 = .ok (.iconst 0, 1) := by decide +kernel
theorem dX12_readsSum_13 : decode cX12_readsSum 13 = .ok (.ireturn, 1) := by decide +kernel
theorem dX12_readsSum_14 : decode cX12_readsSum 14 = .ok (.aload_n 0, 1) := by decide +kernel
theorem dX12_readsSum_15 : decode cX12_readsSum 15 = .ok (.invokevirtual 156, 3) := by decide +kernel
theorem dX12_readsSum_18 : decode cX12_readsSum 18 = .ok (.invokestatic 202, 3) := by decide +kernel
theorem dX12_readsSum_21 : decode cX12_readsSum 21 = .ok (.istore_n 2, 1) := by decide +kernel
theorem dX12_readsSum_22 : decode cX12_readsSum 22 = .ok (.iload_n 2, 1) := by decide +kernel
theorem dX12_readsSum_23 : decode cX12_readsSum 23 = .ok (.iconst (-1), 1) := by decide +kernel
theorem dX12_readsSum_24 : decode cX12_readsSum 24 = .ok (.if_icmp .eq 59, 3) := by decide +kernel
theorem dX12_readsSum_27 : decode cX12_readsSum 27 = .ok (.aload_n 0, 1) := by decide +kernel
theorem dX12_readsSum_28 : decode cX12_readsSum 28 = .ok (.iload_n 2, 1) := by decide +kernel
theorem dX12_readsSum_29 : decode cX12_readsSum 29 = .ok (.iconst 4, 1) := by decide +kernel
theorem dX12_readsSum_30 : decode cX12_readsSum 30 = .ok (.if_icmp .ge 7, 3) := by decide +kernel
theorem dX12_readsSum_33 : decode cX12_readsSum 33 = .ok (.iconst 1, 1) := by decide +kernel
theorem dX12_readsSum_34 : decode cX12_readsSum 34 = .ok (.goto 4, 3) := by decide +kernel
theorem dX12_readsSum_37 : decode cX12_readsSum 37 = .ok (.iconst 0, 1) := by decide +kernel
theorem dX12_readsSum_38 : decode cX12_readsSum 38 = .ok (.invokevirtual 205, 3) := by decide +kernel
theorem dX12_readsSum_41 : decode cX12_readsSum 41 = .ok (.aload_n 0, 1) := by decide +kernel
theorem dX12_readsSum_42 : decode cX12_readsSum 42 = .ok (.getfield 32, 3) := by decide +kernel
theorem dX12_readsSum_45 : decode cX12_readsSum 45 = .ok (.aload_n 0, 1) := by decide +kernel
theorem dX12_readsSum_46 : decode cX12_readsSum 46 = .ok (.getfield 180, 3) := by decide +kernel
theorem dX12_readsSum_49 : decode cX12_readsSum 49 = .ok (.ldc 176, 2) := by decide +kernel
theorem dX12_readsSum_51 : decode cX12_readsSum 51 = .ok (.iload_n 2, 1) := by decide +kernel
theorem dX12_readsSum_52 : decode cX12_readsSum 52 = .ok (.imul, 1) := by decide +kernel
theorem dX12_readsSum_53 : decode cX12_readsSum 53 = .ok (.iastore, 1) := by decide +kernel
theorem dX12_readsSum_54 : decode cX12_readsSum 54 = .ok (.aload_n 0, 1) := by decide +kernel
theorem dX12_readsSum_55 : decode cX12_readsSum 55 = .ok (.aload_n 0, 1) := by decide +kernel
theorem dX12_readsSum_56 : decode cX12_readsSum 56 = .ok (.getfield 180, 3) := by decide +kernel
theorem dX12_readsSum_59 : decode cX12_readsSum 59 = .ok (.iconst 1, 1) := by decide +kernel
theorem dX12_readsSum_60 : decode cX12_readsSum 60 = .ok (.iadd, 1) := by decide +kernel
theorem dX12_readsSum_61 : decode cX12_readsSum 61 = .ok (.putfield 180, 3) := by decide +kernel
theorem dX12_readsSum_64 : decode cX12_readsSum 64 = .ok (.aload_n 0, 1) := by decide +kernel
theorem dX12_readsSum_65 : decode cX12_readsSum 65 = .ok (.aload_n 0, 1) := by decide +kernel
theorem dX12_readsSum_66 : decode cX12_readsSum 66 = .ok (.getfield 150, 3) := by decide +kernel
theorem dX12_readsSum_69 : decode cX12_readsSum 69 = .ok (.iconst 1, 1) := by decide +kernel
theorem dX12_readsSum_70 : decode cX12_readsSum 70 = .ok (.iadd, 1) := by decide +kernel
theorem dX12_readsSum_71 : decode cX12_readsSum 71 = .ok (.putfield 150, 3) := by decide +kernel
theorem dX12_readsSum_74 : decode cX12_readsSum 74 = .ok (.aload_n 0, 1) := by decide +kernel
theorem dX12_readsSum_75 : decode cX12_readsSum 75 = .ok (.invokevirtual 199, 3) := by decide +kernel
theorem dX12_readsSum_78 : decode cX12_readsSum 78 = .ok (.ifCond .ne 85, 3) := by decide +kernel
theorem dX12_readsSum_81 : decode cX12_readsSum 81 = .ok (.iconst 0, 1) := by decide +kernel
theorem dX12_readsSum_82 : decode cX12_readsSum 82 = .ok (.ireturn, 1) := by decide +kernel
theorem dX12_readsSum_83 : decode cX12_readsSum 83 = .ok (.aload_n 0, 1) := by decide +kernel
theorem dX12_readsSum_84 : decode cX12_readsSum 84 = .ok (.invokevirtual 156, 3) := by decide +kernel
theorem dX12_readsSum_87 : decode cX12_readsSum 87 = .ok (.bipush 93, 2) := by decide +kernel
theorem dX12_readsSum_89 : decode cX12_readsSum 89 = .ok (.if_icmp .ne 49, 3) := by decide +kernel
theorem dX12_readsSum_92 : decode cX12_readsSum 92 = .ok (.aload_n 0, 1) := by decide +kernel
theorem dX12_readsSum_93 : decode cX12_readsSum 93 = .ok (.iload_n 1, 1) := by decide +kernel
theorem dX12_readsSum_94 : decode cX12_readsSum 94 = .ok (.invokevirtual 209, 3) := by decide +kernel
theorem dX12_readsSum_97 : decode cX12_readsSum 97 = .ok (.ifCond .eq 41, 3) := by decide +kernel
theorem dX12_readsSum_100 : decode cX12_readsSum 100 = .ok (.aload_n 0, 1) := by decide +kernel
theorem dX12_readsSum_101 : decode cX12_readsSum 101 = .ok (.iconst 1, 1) := by decide +kernel
theorem dX12_readsSum_102 : decode cX12_readsSum 102 = .ok (.invokevirtual 205, 3) := by decide +kernel
theorem dX12_readsSum_105 : decode cX12_readsSum 105 = .ok (.aload_n 0, 1) := by decide +kernel
theorem dX12_readsSum_106 : decode cX12_readsSum 106 = .ok (.aload_n 0, 1) := by decide +kernel
theorem dX12_readsSum_107 : decode cX12_readsSum 107 = .ok (.getfield 180, 3) := by decide +kernel
theorem dX12_readsSum_110 : decode cX12_readsSum 110 = .ok (.iconst 1, 1) := by decide +kernel
theorem dX12_readsSum_111 : decode cX12_readsSum 111 = .ok (.isub, 1) := by decide +kernel
theorem dX12_readsSum_112 : decode cX12_readsSum 112 = .ok (.putfield 180, 3) := by decide +kernel
theorem dX12_readsSum_115 : decode cX12_readsSum 115 = .ok (.aload_n 0, 1) := by decide +kernel
theorem dX12_readsSum_116 : decode cX12_readsSum 116 = .ok (.aload_n 0, 1) := by decide +kernel
theorem dX12_readsSum_117 : decode cX12_readsSum 117 = .ok (.getfield 177, 3) := by decide +kernel
theorem dX12_readsSum_120 : decode cX12_readsSum 120 = .ok (.iconst 1, 1) := by decide +kernel
theorem dX12_readsSum_121 : decode cX12_readsSum 121 = .ok (.isub, 1) := by decide +kernel
theorem dX12_readsSum_122 : decode cX12_readsSum 122 = .ok (.putfield 177, 3) := by decide +kernel
theorem dX12_readsSum_125 : decode cX12_readsSum 125 = .ok (.aload_n 0, 1) := by decide +kernel
theorem dX12_readsSum_126 : decode cX12_readsSum 126 = .ok (.aload_n 0, 1) := by decide +kernel
theorem dX12_readsSum_127 : decode cX12_readsSum 127 = .ok (.getfield 150, 3) := by decide +kernel
theorem dX12_readsSum_130 : decode cX12_readsSum 130 = .ok (.iconst 1, 1) := by decide +kernel
theorem dX12_readsSum_131 : decode cX12_readsSum 131 = .ok (.iadd, 1) := by decide +kernel
theorem dX12_readsSum_132 : decode cX12_readsSum 132 = .ok (.putfield 150, 3) := by decide +kernel
theorem dX12_readsSum_135 : decode cX12_readsSum 135 = .ok (.goto 28, 3) := by decide +kernel
theorem dX12_readsSum_138 : decode cX12_readsSum 138 = .ok (.aload_n 0, 1) := by decide +kernel
theorem dX12_readsSum_139 : decode cX12_readsSum 139 = .ok (.iload_n 1, 1) := by decide +kernel
theorem dX12_readsSum_140 : decode cX12_readsSum 140 = .ok (.invokevirtual 209, 3) := by decide +kernel
theorem dX12_readsSum_143 : decode cX12_readsSum 143 = .ok (.ifCond .eq 13, 3) := by decide +kernel
theorem dX12_readsSum_146 : decode cX12_readsSum 146 = .ok (.aload_n 0, 1) := by decide +kernel
theorem dX12_readsSum_147 : decode cX12_readsSum 147 = .ok (.iconst 1, 1) := by decide +kernel
theorem dX12_readsSum_148 : decode cX12_readsSum 148 = .ok (.aload_n 0, 1) := by decide +kernel
theorem dX12_readsSum_149 : decode cX12_readsSum 149 = .ok (.getfield 150, 3) := by decide +kernel
theorem dX12_readsSum_152 : decode cX12_readsSum 152 = .ok (.invokevirtual 163, 3) := by decide +kernel
theorem dX12_readsSum_155 : decode cX12_readsSum 155 = .ok (.ireturn, 1) := by decide +kernel
theorem dX12_readsSum_156 : decode cX12_readsSum 156 = .ok (.aload_n 0, 1) := by decide +kernel
theorem dX12_readsSum_157 : decode cX12_readsSum 157 = .ok (.iconst 1, 1) := by decide +kernel
theorem dX12_readsSum_158 : decode cX12_readsSum 158 = .ok (.invokevirtual 205, 3) := by decide +kernel
theorem dX12_readsSum_161 : decode cX12_readsSum 161 = .ok (.iconst 1, 1) := by decide +kernel
theorem dX12_readsSum_162 : decode cX12_readsSum 162 = .ok (.ireturn, 1) := by decide +kernel
theorem dX12_readsSum_163 : decode cX12_readsSum 163 = .ok (.goto (-149), 3) := by decide +kernel
def f_X12_readsSum_n38  (k14 : Gr → Int32 → Option (Int32 × Gr)) (S0 : Gr) (x1 : Int32) (x2 : Int32) (w0 : Int32) : Option (Int32 × Gr) := (f_X12_closesSums S0 w0).bind fun u16 => ck' 260 (u16.1 15) (lt' (sA u16 19 (Int32.toNatClampNeg (u16.1 15)) (1048576 * x2)) fun S0_17 => lt' (sI S0_17 15 ((S0_17.1 15) + 1)) fun S0_18 => lt' (sI S0_18 9 ((S0_18.1 9) + 1)) fun S0_19 => (f_X12_readsFactor S0_19).bind fun u20 => if u20.1 = 0 then (some (0, u20.2)) else (k14 u20.2 x1))
def f_X12_readsSum_n138  (S0 : Gr) (x1 : Int32) : Option (Int32 × Gr) := (f_X12_hasOpenSum S0 x1).bind fun u22 => if u22 = 0 then ((f_X12_closesSums S0 1).bind fun u24 => some (1, u24)) else ((f_X12_wrongAt S0 1 (S0.1 9)).bind fun u25 => zb' u25.1 (some (u25.1, u25.2)))
def f_X12_readsSum_n14  : Nat → Gr → Int32 → Option (Int32 × Gr)
  | 0, _, _ => none
  | n + 1, S0, x1 => (f_X12_here S0).bind fun u4 => (f_X12_sumSign u4).bind fun u5 => if u5 = (-1) then ((f_X12_here S0).bind fun u7 => if u7 = 93 then ((f_X12_hasOpenSum S0 x1).bind fun u9 => if u9 = 0 then (f_X12_readsSum_n138 S0 x1) else ((f_X12_closesSums S0 1).bind fun u11 => lt' (sI u11 15 ((u11.1 15) - 1)) fun S0_12 => lt' (sI S0_12 13 ((S0_12.1 13) - 1)) fun S0_13 => lt' (sI S0_13 9 ((S0_13.1 9) + 1)) fun S0_14 => f_X12_readsSum_n14 n S0_14 x1)) else (f_X12_readsSum_n138 S0 x1)) else (if 4 ≤ u5 then (f_X12_readsSum_n38 (f_X12_readsSum_n14 n) S0 x1 u5 0) else (f_X12_readsSum_n38 (f_X12_readsSum_n14 n) S0 x1 u5 1))
def f_X12_readsSum (S0 : Gr) : Option (Int32 × Gr) := lt' ((S0.1 15)) fun v1 => (f_X12_readsFactor S0).bind fun u2 => if u2.1 = 0 then (some (0, u2.2)) else (f_X12_readsSum_n14 fu u2.2 v1)
set_option maxHeartbeats 4000000 in
set_option maxRecDepth 100000 in
theorem c_X12_readsSum (l : Launch) (E : Ec) (q0 : Nat → Nat) (sz : Nat) (S0 : Gr) (Rv : Int32 × Gr) (h : f_X12_readsSum S0 = some Rv) : Met l yX12_readsSum (wsM (.code yX12_readsSum cX12_readsSum 3 (some .boolean))) ({ frames := 4, cells := 0, slots := 0, locals := 82 } : Room) (va_Pc [.ref (q0 0)] (ctP E (cw_X12 E q0 S0) sz)) (ctI E (cw_X12 E q0 S0) (cw_X12 E q0 Rv.2) sz Rv.1) 0 0 (va_A (cw_X12 E q0 S0) sz) := by
  refine ct_metI (by decide) (Nat.le_of_ble_eq_true rfl) ?_
  intro p e s m ar below meth c A QM hx hb hml hown hg X hP hD hS RET ls hl
  have hown : s.vm.findClass RX12 = some m.cls := hown
  have hl : lv_has ls 3 [(0, .ref (q0 0))] := hl
  have RT : ∀ (v : Int32) (S0 : Gr) (H : Heap) (locs : List Loc) (ls : Array Slot) (pc : Nat), some (v, S0) = some Rv → narrow .boolean (.int v) = .int v → va_P E.1 vwCl (cw_X12 E q0 S0) H → va_D A (cw_X12 E q0 S0) → va_S A s.heap H locs → decode cX12_readsSum pc = .ok (.ireturn, 1) → W p l e ({ frames := 4, cells := 0, slots := 0, locals := 82 } : Room) s m ar below meth c H locs 0 0 QM (F0 m pc ls [.int v]) := by
    intro v S0 H locs ls pc e hn hP hD hS d
    obtain rfl := sm_e e
    exact RET H locs pc ls hn hP hD hS d
  clear RET
  have N38 : ∀ (k14 : Gr → Int32 → Option (Int32 × Gr)) (hk14 : ∀ (S0 : Gr) (x1 : Int32) (H : Heap) (locs : List Loc) (ls : Array Slot), k14 S0 x1 = some Rv → va_P E.1 vwCl (cw_X12 E q0 S0) H → va_D A (cw_X12 E q0 S0) → va_S A s.heap H locs → lv_has ls 3 [(0, .ref (q0 0)), (1, .int x1)] → W p l e ({ frames := 4, cells := 0, slots := 0, locals := 82 } : Room) s m ar below meth c H locs 0 0 QM (F0 m 14 ls [])) (S0 : Gr) (x1 : Int32) (x2 : Int32) (w0 : Int32) (H : Heap) (locs : List Loc) (ls : Array Slot), f_X12_readsSum_n38 k14 S0 x1 x2 w0 = some Rv → va_P E.1 vwCl (cw_X12 E q0 S0) H → va_D A (cw_X12 E q0 S0) → va_S A s.heap H locs → lv_has ls 3 [(0, .ref (q0 0)), (1, .int x1), (2, .int x2)] → W p l e ({ frames := 4, cells := 0, slots := 0, locals := 82 } : Room) s m ar below meth c H locs 0 0 QM (F0 m 38 ls [.int w0, .ref (q0 0)]) := by
    intro k14 hk14 S0 x1 x2 w0 H locs ls h hP hD hS hl
    obtain ⟨u16, hc, h⟩ := bd_el h
    refine ct_vA (w1 := cw_X12 E q0 u16) X hP hD hS (va_runV (C := RX12) (As := [.int w0]) (rest := []) ⟨hx, hb, hml, hown, hg⟩ (c_X12_closesSums l E q0 H.size S0 w0 u16 hc) (cwV 1 hg (gwV wm_X12_205 wi_X12_closesSums wsl_X12_closesSums wini_X12 wco_X12_closesSums) rfl rfl rfl (by decide +kernel) ⟨Nat.le_of_ble_eq_true rfl, Nat.le_of_ble_eq_true rfl⟩) ⟨ct_blind, ct_rv X.1 hP 0 rfl rfl, ct_preA X hP hD hS _⟩ rfl rfl hl.1 rfl (lv_room (Nat.le_of_ble_eq_true rfl)) dX12_readsSum_38 ⟨Nat.zero_le _, Nat.zero_le _⟩) (fun H locs hP hD hS => ?_)
    refine lv_aload_n hx hb dX12_readsSum_41 rfl (lv_at hl 0 rfl) ?_
    refine va_get (D := E.1) (ci := 11) (v := .ref (q0 8)) (C := RX12) (T := TX12) (N := 57) hx hb hg in_X12 hown X.1 hP 0 rfl rfl 19 (by decide) (hg _ wf_X12_32) (fun _ h9 => h9) rfl dX12_readsSum_42 ?_
    refine lv_aload_n hx hb dX12_readsSum_45 rfl (lv_at hl 0 rfl) ?_
    refine va_get (D := E.1) (ci := 11) (v := .int (u16.1 15)) (C := RX12) (T := TX12) (N := 57) hx hb hg in_X12 hown X.1 hP 0 rfl rfl 15 (by decide) (hg _ wf_X12_180) (fun _ h9 => h9) rfl dX12_readsSum_46 ?_
    refine lv_ldc hx hb hown (hg _ wcn_X12_176) dX12_readsSum_49 ?_
    refine lv_iload_n hx hb dX12_readsSum_51 rfl (lv_at hl 2 rfl) ?_
    refine lv_imul hx hb dX12_readsSum_52 ?_
    obtain ⟨hi, h⟩ := ck_el h
    obtain ⟨S0_17, eS, h⟩ := lt_el h
    refine va_iast hx hb X.1 hP hD hS 8 0 rfl rfl hi dX12_readsSum_53 (fun H locs hP hD hS => ?_)
    have hP : va_P E.1 vwCl (cw_X12 E q0 S0_17) H := by rw [eS]; exact hP
    have hD : va_D A (cw_X12 E q0 S0_17) := by rw [eS]; exact hD
    clear eS
    refine lv_aload_n hx hb dX12_readsSum_54 rfl (lv_at hl 0 rfl) ?_
    refine lv_aload_n hx hb dX12_readsSum_55 rfl (lv_at hl 0 rfl) ?_
    refine va_get (D := E.1) (ci := 11) (v := .int (S0_17.1 15)) (C := RX12) (T := TX12) (N := 57) hx hb hg in_X12 hown X.1 hP 0 rfl rfl 15 (by decide) (hg _ wf_X12_180) (fun _ h9 => h9) rfl dX12_readsSum_56 ?_
    refine lv_iconst (v := 1) hx hb dX12_readsSum_59 (by decide) ?_
    refine lv_iadd hx hb dX12_readsSum_60 ?_
    obtain ⟨S0_18, eS, h⟩ := lt_el h
    refine va_put (D := E.1) (ci := 11) (v := .int ((S0_17.1 15) + 1)) (ty := .int) (C := RX12) (T := TX12) (N := 57) hx hb hg in_X12 tyX12 tyX12_ok nmX12 hown X.1 hP hD hS 0 rfl rfl 15 (by decide) (hg _ wf_X12_180) (fun _ h9 => h9) rfl (by decide +kernel) rfl rfl (Nat.le_of_ble_eq_true rfl) dX12_readsSum_61 (fun H locs hP hD hS => ?_)
    have hP : va_P E.1 vwCl (cw_X12 E q0 S0_18) H := by rw [eS]; exact hP
    have hD : va_D A (cw_X12 E q0 S0_18) := by rw [eS]; exact hD
    clear eS
    refine lv_aload_n hx hb dX12_readsSum_64 rfl (lv_at hl 0 rfl) ?_
    refine lv_aload_n hx hb dX12_readsSum_65 rfl (lv_at hl 0 rfl) ?_
    refine va_get (D := E.1) (ci := 11) (v := .int (S0_18.1 9)) (C := RX12) (T := TX12) (N := 57) hx hb hg in_X12 hown X.1 hP 0 rfl rfl 9 (by decide) (hg _ wf_X12_150) (fun _ h9 => h9) rfl dX12_readsSum_66 ?_
    refine lv_iconst (v := 1) hx hb dX12_readsSum_69 (by decide) ?_
    refine lv_iadd hx hb dX12_readsSum_70 ?_
    obtain ⟨S0_19, eS, h⟩ := lt_el h
    refine va_put (D := E.1) (ci := 11) (v := .int ((S0_18.1 9) + 1)) (ty := .int) (C := RX12) (T := TX12) (N := 57) hx hb hg in_X12 tyX12 tyX12_ok nmX12 hown X.1 hP hD hS 0 rfl rfl 9 (by decide) (hg _ wf_X12_150) (fun _ h9 => h9) rfl (by decide +kernel) rfl rfl (Nat.le_of_ble_eq_true rfl) dX12_readsSum_71 (fun H locs hP hD hS => ?_)
    have hP : va_P E.1 vwCl (cw_X12 E q0 S0_19) H := by rw [eS]; exact hP
    have hD : va_D A (cw_X12 E q0 S0_19) := by rw [eS]; exact hD
    clear eS
    refine lv_aload_n hx hb dX12_readsSum_74 rfl (lv_at hl 0 rfl) ?_
    obtain ⟨u20, hc, h⟩ := bd_el h
    refine ct_iA (w1 := cw_X12 E q0 u20.2) X hP hD hS (va_runV (C := RX12) (As := []) (rest := []) ⟨hx, hb, hml, hown, hg⟩ (c_X12_readsFactor l E q0 H.size S0_19 u20 hc) (cwV 0 hg (gwV wm_X12_199 wi_X12_readsFactor wsl_X12_readsFactor wini_X12 wco_X12_readsFactor) rfl rfl rfl (by decide +kernel) ⟨Nat.le_of_ble_eq_true rfl, Nat.le_of_ble_eq_true rfl⟩) ⟨ct_blind, ct_rv X.1 hP 0 rfl rfl, ct_preA X hP hD hS _⟩ rfl rfl hl.1 rfl (lv_room (Nat.le_of_ble_eq_true rfl)) dX12_readsSum_75 ⟨Nat.zero_le _, Nat.zero_le _⟩) (fun H locs hP hD hS => ?_)
    refine lv_if_ne (tgt := 163) hx hb dX12_readsSum_78 (by decide) (fun c21 => ?_) (fun c21 => ?_)
    · have h := it_f h c21
      refine lv_goto (tgt := 14) hx hb dX12_readsSum_163 (by decide) ?_
      exact hk14 u20.2 x1 _ _ _ h hP hD hS (lv_sub hl [0, 1] rfl)
    · have h := it_t h c21
      refine lv_iconst (v := 0) hx hb dX12_readsSum_81 (by decide) ?_
      exact RT 0 u20.2 _ _ _ _ h (by decide +kernel) hP hD hS dX12_readsSum_82
  have N138 : ∀ (S0 : Gr) (x1 : Int32) (H : Heap) (locs : List Loc) (ls : Array Slot), f_X12_readsSum_n138 S0 x1 = some Rv → va_P E.1 vwCl (cw_X12 E q0 S0) H → va_D A (cw_X12 E q0 S0) → va_S A s.heap H locs → lv_has ls 3 [(0, .ref (q0 0)), (1, .int x1)] → W p l e ({ frames := 4, cells := 0, slots := 0, locals := 82 } : Room) s m ar below meth c H locs 0 0 QM (F0 m 138 ls []) := by
    intro S0 x1 H locs ls h hP hD hS hl
    refine lv_aload_n hx hb dX12_readsSum_138 rfl (lv_at hl 0 rfl) ?_
    refine lv_iload_n hx hb dX12_readsSum_139 rfl (lv_at hl 1 rfl) ?_
    obtain ⟨u22, hc, h⟩ := bd_el h
    refine ct_iA (w1 := cw_X12 E q0 S0) X hP hD hS (va_runV (C := RX12) (As := [.int x1]) (rest := []) ⟨hx, hb, hml, hown, hg⟩ (c_X12_hasOpenSum l E q0 H.size S0 x1 u22 hc) (cwV 1 hg (gwV wm_X12_209 wi_X12_hasOpenSum wsl_X12_hasOpenSum wini_X12 wco_X12_hasOpenSum) rfl rfl rfl (by decide +kernel) ⟨Nat.le_of_ble_eq_true rfl, Nat.le_of_ble_eq_true rfl⟩) ⟨ct_blind, ct_rv X.1 hP 0 rfl rfl, ct_preA X hP hD hS _⟩ rfl rfl hl.1 rfl (lv_room (Nat.le_of_ble_eq_true rfl)) dX12_readsSum_140 ⟨Nat.zero_le _, Nat.zero_le _⟩) (fun H locs hP hD hS => ?_)
    refine lv_if_eq (tgt := 156) hx hb dX12_readsSum_143 (by decide) (fun c23 => ?_) (fun c23 => ?_)
    · have h := it_t h c23
      refine lv_aload_n hx hb dX12_readsSum_156 rfl (lv_at hl 0 rfl) ?_
      refine lv_iconst (v := 1) hx hb dX12_readsSum_157 (by decide) ?_
      obtain ⟨u24, hc, h⟩ := bd_el h
      refine ct_vA (w1 := cw_X12 E q0 u24) X hP hD hS (va_runV (C := RX12) (As := [.int 1]) (rest := []) ⟨hx, hb, hml, hown, hg⟩ (c_X12_closesSums l E q0 H.size S0 1 u24 hc) (cwV 1 hg (gwV wm_X12_205 wi_X12_closesSums wsl_X12_closesSums wini_X12 wco_X12_closesSums) rfl rfl rfl (by decide +kernel) ⟨Nat.le_of_ble_eq_true rfl, Nat.le_of_ble_eq_true rfl⟩) ⟨ct_blind, ct_rv X.1 hP 0 rfl rfl, ct_preA X hP hD hS _⟩ rfl rfl hl.1 rfl (lv_room (Nat.le_of_ble_eq_true rfl)) dX12_readsSum_158 ⟨Nat.zero_le _, Nat.zero_le _⟩) (fun H locs hP hD hS => ?_)
      refine lv_iconst (v := 1) hx hb dX12_readsSum_161 (by decide) ?_
      exact RT 1 u24 _ _ _ _ h (by decide +kernel) hP hD hS dX12_readsSum_162
    · have h := it_f h c23
      refine lv_aload_n hx hb dX12_readsSum_146 rfl (lv_at hl 0 rfl) ?_
      refine lv_iconst (v := 1) hx hb dX12_readsSum_147 (by decide) ?_
      refine lv_aload_n hx hb dX12_readsSum_148 rfl (lv_at hl 0 rfl) ?_
      refine va_get (D := E.1) (ci := 11) (v := .int (S0.1 9)) (C := RX12) (T := TX12) (N := 57) hx hb hg in_X12 hown X.1 hP 0 rfl rfl 9 (by decide) (hg _ wf_X12_150) (fun _ h9 => h9) rfl dX12_readsSum_149 ?_
      obtain ⟨u25, hc, h⟩ := bd_el h
      refine ct_iA (w1 := cw_X12 E q0 u25.2) X hP hD hS (va_runV (C := RX12) (As := [.int 1, .int (S0.1 9)]) (rest := []) ⟨hx, hb, hml, hown, hg⟩ (c_X12_wrongAt l E q0 H.size S0 1 (S0.1 9) u25 hc) (cwV 2 hg (gwV wm_X12_163 wi_X12_wrongAt wsl_X12_wrongAt wini_X12 wco_X12_wrongAt) rfl rfl rfl (by decide +kernel) ⟨Nat.le_of_ble_eq_true rfl, Nat.le_of_ble_eq_true rfl⟩) ⟨ct_blind, ct_rv X.1 hP 0 rfl rfl, ct_preA X hP hD hS _⟩ rfl rfl hl.1 rfl (lv_room (Nat.le_of_ble_eq_true rfl)) dX12_readsSum_152 ⟨Nat.zero_le _, Nat.zero_le _⟩) (fun H locs hP hD hS => ?_)
      obtain ⟨hn1, -, h⟩ := zb_el h
      exact RT u25.1 u25.2 _ _ _ _ h hn1 hP hD hS dX12_readsSum_155
  have N14 : ∀ (n : Nat) (S0 : Gr) (x1 : Int32) (H : Heap) (locs : List Loc) (ls : Array Slot), f_X12_readsSum_n14 n S0 x1 = some Rv → va_P E.1 vwCl (cw_X12 E q0 S0) H → va_D A (cw_X12 E q0 S0) → va_S A s.heap H locs → lv_has ls 3 [(0, .ref (q0 0)), (1, .int x1)] → W p l e ({ frames := 4, cells := 0, slots := 0, locals := 82 } : Room) s m ar below meth c H locs 0 0 QM (F0 m 14 ls []) := by
    intro n
    induction n with
    | zero => intro S0 x1 H locs ls h; exact nn_el h
    | succ n ih =>
      intro S0 x1 H locs ls h hP hD hS hl
      refine lv_aload_n hx hb dX12_readsSum_14 rfl (lv_at hl 0 rfl) ?_
      obtain ⟨u4, hc, h⟩ := bd_el h
      refine ct_iA (w1 := cw_X12 E q0 S0) X hP hD hS (va_runV (C := RX12) (As := []) (rest := []) ⟨hx, hb, hml, hown, hg⟩ (c_X12_here l E q0 H.size S0 u4 hc) (cwV 0 hg (gwV wm_X12_156 wi_X12_here wsl_X12_here wini_X12 wco_X12_here) rfl rfl rfl (by decide +kernel) ⟨Nat.le_of_ble_eq_true rfl, Nat.le_of_ble_eq_true rfl⟩) ⟨ct_blind, ct_rv X.1 hP 0 rfl rfl, ct_preA X hP hD hS _⟩ rfl rfl hl.1 rfl (lv_room (Nat.le_of_ble_eq_true rfl)) dX12_readsSum_15 ⟨Nat.zero_le _, Nat.zero_le _⟩) (fun H locs hP hD hS => ?_)
      obtain ⟨u5, hc, h⟩ := bd_el h
      refine ct_iN X hP hD hS (va_runS (As := [.int u4]) (rest := []) ⟨hx, hb, hml, hown, hg⟩ (c_X12_sumSign l E  H.size u4 u5 hc) (va_cwS 1 hg (gwS wm_X12_202 wst_X12_sumSign wini_X12 wco_X12_sumSign) rfl rfl rfl (by decide +kernel) ⟨Nat.le_of_ble_eq_true rfl, Nat.le_of_ble_eq_true rfl⟩) ⟨ct_blind, ct_preN X hS _⟩ rfl rfl hl.1 rfl (lv_room (Nat.le_of_ble_eq_true rfl)) dX12_readsSum_18 ⟨Nat.zero_le _, Nat.zero_le _⟩) (fun H locs hP hD hS => ?_)
      refine lv_istore_n (lv' := [(2, .int u5), (0, .ref (q0 0)), (1, .int x1)]) hx hb dX12_readsSum_21 rfl hl (by decide) rfl (fun ls hl => ?_)
      refine lv_iload_n hx hb dX12_readsSum_22 rfl (lv_at hl 0 rfl) ?_
      refine lv_iconst (v := (-1)) hx hb dX12_readsSum_23 (by decide) ?_
      refine lv_icmp_eq (tgt := 83) hx hb dX12_readsSum_24 (by decide) (fun c6 => ?_) (fun c6 => ?_)
      · have h := it_t h c6
        refine lv_aload_n hx hb dX12_readsSum_83 rfl (lv_at hl 1 rfl) ?_
        obtain ⟨u7, hc, h⟩ := bd_el h
        refine ct_iA (w1 := cw_X12 E q0 S0) X hP hD hS (va_runV (C := RX12) (As := []) (rest := []) ⟨hx, hb, hml, hown, hg⟩ (c_X12_here l E q0 H.size S0 u7 hc) (cwV 0 hg (gwV wm_X12_156 wi_X12_here wsl_X12_here wini_X12 wco_X12_here) rfl rfl rfl (by decide +kernel) ⟨Nat.le_of_ble_eq_true rfl, Nat.le_of_ble_eq_true rfl⟩) ⟨ct_blind, ct_rv X.1 hP 0 rfl rfl, ct_preA X hP hD hS _⟩ rfl rfl hl.1 rfl (lv_room (Nat.le_of_ble_eq_true rfl)) dX12_readsSum_84 ⟨Nat.zero_le _, Nat.zero_le _⟩) (fun H locs hP hD hS => ?_)
        refine lv_bipush (v := 93) hx hb dX12_readsSum_87 (by decide) ?_
        refine lv_icmp_ne (tgt := 138) hx hb dX12_readsSum_89 (by decide) (fun c8 => ?_) (fun c8 => ?_)
        · have h := it_f h c8
          exact N138  S0 x1 _ _ _ h hP hD hS (lv_sub hl [1, 2] rfl)
        · have h := it_t h c8
          refine lv_aload_n hx hb dX12_readsSum_92 rfl (lv_at hl 1 rfl) ?_
          refine lv_iload_n hx hb dX12_readsSum_93 rfl (lv_at hl 2 rfl) ?_
          obtain ⟨u9, hc, h⟩ := bd_el h
          refine ct_iA (w1 := cw_X12 E q0 S0) X hP hD hS (va_runV (C := RX12) (As := [.int x1]) (rest := []) ⟨hx, hb, hml, hown, hg⟩ (c_X12_hasOpenSum l E q0 H.size S0 x1 u9 hc) (cwV 1 hg (gwV wm_X12_209 wi_X12_hasOpenSum wsl_X12_hasOpenSum wini_X12 wco_X12_hasOpenSum) rfl rfl rfl (by decide +kernel) ⟨Nat.le_of_ble_eq_true rfl, Nat.le_of_ble_eq_true rfl⟩) ⟨ct_blind, ct_rv X.1 hP 0 rfl rfl, ct_preA X hP hD hS _⟩ rfl rfl hl.1 rfl (lv_room (Nat.le_of_ble_eq_true rfl)) dX12_readsSum_94 ⟨Nat.zero_le _, Nat.zero_le _⟩) (fun H locs hP hD hS => ?_)
          refine lv_if_eq (tgt := 138) hx hb dX12_readsSum_97 (by decide) (fun c10 => ?_) (fun c10 => ?_)
          · have h := it_t h c10
            exact N138  S0 x1 _ _ _ h hP hD hS (lv_sub hl [1, 2] rfl)
          · have h := it_f h c10
            refine lv_aload_n hx hb dX12_readsSum_100 rfl (lv_at hl 1 rfl) ?_
            refine lv_iconst (v := 1) hx hb dX12_readsSum_101 (by decide) ?_
            obtain ⟨u11, hc, h⟩ := bd_el h
            refine ct_vA (w1 := cw_X12 E q0 u11) X hP hD hS (va_runV (C := RX12) (As := [.int 1]) (rest := []) ⟨hx, hb, hml, hown, hg⟩ (c_X12_closesSums l E q0 H.size S0 1 u11 hc) (cwV 1 hg (gwV wm_X12_205 wi_X12_closesSums wsl_X12_closesSums wini_X12 wco_X12_closesSums) rfl rfl rfl (by decide +kernel) ⟨Nat.le_of_ble_eq_true rfl, Nat.le_of_ble_eq_true rfl⟩) ⟨ct_blind, ct_rv X.1 hP 0 rfl rfl, ct_preA X hP hD hS _⟩ rfl rfl hl.1 rfl (lv_room (Nat.le_of_ble_eq_true rfl)) dX12_readsSum_102 ⟨Nat.zero_le _, Nat.zero_le _⟩) (fun H locs hP hD hS => ?_)
            refine lv_aload_n hx hb dX12_readsSum_105 rfl (lv_at hl 1 rfl) ?_
            refine lv_aload_n hx hb dX12_readsSum_106 rfl (lv_at hl 1 rfl) ?_
            refine va_get (D := E.1) (ci := 11) (v := .int (u11.1 15)) (C := RX12) (T := TX12) (N := 57) hx hb hg in_X12 hown X.1 hP 0 rfl rfl 15 (by decide) (hg _ wf_X12_180) (fun _ h9 => h9) rfl dX12_readsSum_107 ?_
            refine lv_iconst (v := 1) hx hb dX12_readsSum_110 (by decide) ?_
            refine lv_isub hx hb dX12_readsSum_111 ?_
            obtain ⟨S0_12, eS, h⟩ := lt_el h
            refine va_put (D := E.1) (ci := 11) (v := .int ((u11.1 15) - 1)) (ty := .int) (C := RX12) (T := TX12) (N := 57) hx hb hg in_X12 tyX12 tyX12_ok nmX12 hown X.1 hP hD hS 0 rfl rfl 15 (by decide) (hg _ wf_X12_180) (fun _ h9 => h9) rfl (by decide +kernel) rfl rfl (Nat.le_of_ble_eq_true rfl) dX12_readsSum_112 (fun H locs hP hD hS => ?_)
            have hP : va_P E.1 vwCl (cw_X12 E q0 S0_12) H := by rw [eS]; exact hP
            have hD : va_D A (cw_X12 E q0 S0_12) := by rw [eS]; exact hD
            clear eS
            refine lv_aload_n hx hb dX12_readsSum_115 rfl (lv_at hl 1 rfl) ?_
            refine lv_aload_n hx hb dX12_readsSum_116 rfl (lv_at hl 1 rfl) ?_
            refine va_get (D := E.1) (ci := 11) (v := .int (S0_12.1 13)) (C := RX12) (T := TX12) (N := 57) hx hb hg in_X12 hown X.1 hP 0 rfl rfl 13 (by decide) (hg _ wf_X12_177) (fun _ h9 => h9) rfl dX12_readsSum_117 ?_
            refine lv_iconst (v := 1) hx hb dX12_readsSum_120 (by decide) ?_
            refine lv_isub hx hb dX12_readsSum_121 ?_
            obtain ⟨S0_13, eS, h⟩ := lt_el h
            refine va_put (D := E.1) (ci := 11) (v := .int ((S0_12.1 13) - 1)) (ty := .int) (C := RX12) (T := TX12) (N := 57) hx hb hg in_X12 tyX12 tyX12_ok nmX12 hown X.1 hP hD hS 0 rfl rfl 13 (by decide) (hg _ wf_X12_177) (fun _ h9 => h9) rfl (by decide +kernel) rfl rfl (Nat.le_of_ble_eq_true rfl) dX12_readsSum_122 (fun H locs hP hD hS => ?_)
            have hP : va_P E.1 vwCl (cw_X12 E q0 S0_13) H := by rw [eS]; exact hP
            have hD : va_D A (cw_X12 E q0 S0_13) := by rw [eS]; exact hD
            clear eS
            refine lv_aload_n hx hb dX12_readsSum_125 rfl (lv_at hl 1 rfl) ?_
            refine lv_aload_n hx hb dX12_readsSum_126 rfl (lv_at hl 1 rfl) ?_
            refine va_get (D := E.1) (ci := 11) (v := .int (S0_13.1 9)) (C := RX12) (T := TX12) (N := 57) hx hb hg in_X12 hown X.1 hP 0 rfl rfl 9 (by decide) (hg _ wf_X12_150) (fun _ h9 => h9) rfl dX12_readsSum_127 ?_
            refine lv_iconst (v := 1) hx hb dX12_readsSum_130 (by decide) ?_
            refine lv_iadd hx hb dX12_readsSum_131 ?_
            obtain ⟨S0_14, eS, h⟩ := lt_el h
            refine va_put (D := E.1) (ci := 11) (v := .int ((S0_13.1 9) + 1)) (ty := .int) (C := RX12) (T := TX12) (N := 57) hx hb hg in_X12 tyX12 tyX12_ok nmX12 hown X.1 hP hD hS 0 rfl rfl 9 (by decide) (hg _ wf_X12_150) (fun _ h9 => h9) rfl (by decide +kernel) rfl rfl (Nat.le_of_ble_eq_true rfl) dX12_readsSum_132 (fun H locs hP hD hS => ?_)
            have hP : va_P E.1 vwCl (cw_X12 E q0 S0_14) H := by rw [eS]; exact hP
            have hD : va_D A (cw_X12 E q0 S0_14) := by rw [eS]; exact hD
            clear eS
            refine lv_goto (tgt := 163) hx hb dX12_readsSum_135 (by decide) ?_
            refine lv_goto (tgt := 14) hx hb dX12_readsSum_163 (by decide) ?_
            exact ih S0_14 x1 _ _ _ h hP hD hS (lv_sub hl [1, 2] rfl)
      · have h := it_f h c6
        refine lv_aload_n hx hb dX12_readsSum_27 rfl (lv_at hl 1 rfl) ?_
        refine lv_iload_n hx hb dX12_readsSum_28 rfl (lv_at hl 0 rfl) ?_
        refine lv_iconst (v := 4) hx hb dX12_readsSum_29 (by decide) ?_
        refine lv_icmp_ge (tgt := 37) hx hb dX12_readsSum_30 (by decide) (fun c15 => ?_) (fun c15 => ?_)
        · have h := it_t h c15
          refine lv_iconst (v := 0) hx hb dX12_readsSum_37 (by decide) ?_
          exact N38 (f_X12_readsSum_n14 n) ih S0 x1 u5 0 _ _ _ h hP hD hS (lv_sub hl [1, 2, 0] rfl)
        · have h := it_f h c15
          refine lv_iconst (v := 1) hx hb dX12_readsSum_33 (by decide) ?_
          refine lv_goto (tgt := 38) hx hb dX12_readsSum_34 (by decide) ?_
          exact N38 (f_X12_readsSum_n14 n) ih S0 x1 u5 1 _ _ _ h hP hD hS (lv_sub hl [1, 2, 0] rfl)
  obtain ⟨H, eH⟩ : ∃ z, z = s.heap := ⟨_, rfl⟩
  rw [← eH]
  have hP : va_P E.1 vwCl (cw_X12 E q0 S0) H := by rw [eH]; exact hP
  have hS : va_S A s.heap H [] := by rw [eH]; exact hS
  clear eH
  obtain ⟨locs, el⟩ : ∃ z : List Loc, z = [] := ⟨_, rfl⟩
  rw [← el] at hS ⊢
  clear el
  refine lv_aload_n hx hb dX12_readsSum_0 rfl (lv_at hl 0 rfl) ?_
  refine va_get (D := E.1) (ci := 11) (v := .int (S0.1 15)) (C := RX12) (T := TX12) (N := 57) hx hb hg in_X12 hown X.1 hP 0 rfl rfl 15 (by decide) (hg _ wf_X12_180) (fun _ h9 => h9) rfl dX12_readsSum_1 ?_
  obtain ⟨v1, ev1, h⟩ := lt_el h
  refine lv_top' ev1 ?_
  refine lv_istore_n (lv' := [(1, .int v1), (0, .ref (q0 0))]) hx hb dX12_readsSum_4 rfl hl (by decide) rfl (fun ls hl => ?_)
  refine lv_aload_n hx hb dX12_readsSum_5 rfl (lv_at hl 1 rfl) ?_
  obtain ⟨u2, hc, h⟩ := bd_el h
  refine ct_iA (w1 := cw_X12 E q0 u2.2) X hP hD hS (va_runV (C := RX12) (As := []) (rest := []) ⟨hx, hb, hml, hown, hg⟩ (c_X12_readsFactor l E q0 H.size S0 u2 hc) (cwV 0 hg (gwV wm_X12_199 wi_X12_readsFactor wsl_X12_readsFactor wini_X12 wco_X12_readsFactor) rfl rfl rfl (by decide +kernel) ⟨Nat.le_of_ble_eq_true rfl, Nat.le_of_ble_eq_true rfl⟩) ⟨ct_blind, ct_rv X.1 hP 0 rfl rfl, ct_preA X hP hD hS _⟩ rfl rfl hl.1 rfl (lv_room (Nat.le_of_ble_eq_true rfl)) dX12_readsSum_6 ⟨Nat.zero_le _, Nat.zero_le _⟩) (fun H locs hP hD hS => ?_)
  refine lv_if_ne (tgt := 14) hx hb dX12_readsSum_9 (by decide) (fun c3 => ?_) (fun c3 => ?_)
  · have h := it_f h c3
    exact N14 fu u2.2 v1 _ _ _ h hP hD hS (lv_sub hl [1, 0] rfl)
  · have h := it_t h c3
    refine lv_iconst (v := 0) hx hb dX12_readsSum_12 (by decide) ?_
    exact RT 0 u2.2 _ _ _ _ h (by decide +kernel) hP hD hS dX12_readsSum_13
theorem dX12_readsCompared_0 : decode cX12_readsCompared 0 = .ok (.aload_n 0, 1) := by decide +kernel
theorem dX12_readsCompared_1 : decode cX12_readsCompared 1 = .ok (.invokevirtual 212, 3) := by decide +kernel
theorem dX12_readsCompared_4 : decode cX12_readsCompared 4 = .ok (.ifCond .ne 5, 3) := by decide +kernel
theorem dX12_readsCompared_7 : decode cX12_readsCompared 7 = .ok (.iconst 0, 1) := by decide +kernel
theorem dX12_readsCompared_8 : decode cX12_readsCompared 8 = .ok (.ireturn, 1) := by decide +kernel
theorem dX12_readsCompared_9 : decode cX12_readsCompared 9 = .ok (.aload_n 0, 1) := by decide +kernel
theorem dX12_readsCompared_10 : decode cX12_readsCompared 10 = .ok (.invokevirtual 156, 3) := by decide +kernel
theorem dX12_readsCompared_13 : decode cX12_readsCompared 13 = .ok (.bipush 60, 2) := by decide +kernel
theorem dX12_readsCompared_15 : decode cX12_readsCompared 15 = .ok (.if_icmp .ne 8, 3) := by decide +kernel
theorem dX12_readsCompared_18 : decode cX12_readsCompared 18 = .ok (.bipush 7, 2) := by decide +kernel
theorem dX12_readsCompared_20 : decode cX12_readsCompared 20 = .ok (.goto 32, 3) := by decide +kernel
theorem dX12_readsCompared_23 : decode cX12_readsCompared 23 = .ok (.aload_n 0, 1) := by decide +kernel
theorem dX12_readsCompared_24 : decode cX12_readsCompared 24 = .ok (.invokevirtual 156, 3) := by decide +kernel
theorem dX12_readsCompared_27 : decode cX12_readsCompared 27 = .ok (.bipush 62, 2) := by decide +kernel
theorem dX12_readsCompared_29 : decode cX12_readsCompared 29 = .ok (.if_icmp .ne 8, 3) := by decide +kernel
theorem dX12_readsCompared_32 : decode cX12_readsCompared 32 = .ok (.bipush 8, 2) := by decide +kernel
theorem dX12_readsCompared_34 : decode cX12_readsCompared 34 = .ok (.goto 18, 3) := by decide +kernel
theorem dX12_readsCompared_37 : decode cX12_readsCompared 37 = .ok (.aload_n 0, 1) := by decide +kernel
theorem dX12_readsCompared_38 : decode cX12_readsCompared 38 = .ok (.invokevirtual 156, 3) := by decide +kernel
theorem dX12_readsCompared_41 : decode cX12_readsCompared 41 = .ok (.bipush 61, 2) := by decide +kernel
theorem dX12_readsCompared_43 : decode cX12_readsCompared 43 = .ok (.if_icmp .ne 8, 3) := by decide +kernel
theorem dX12_readsCompared_46 : decode cX12_readsCompared 46 = .ok (.bipush 9, 2) := by decide +kernel
theorem dX12_readsCompared_48 : decode cX12_readsCompared 48 = .ok (.goto 4, 3) := by decide +kernel
theorem dX12_readsCompared_51 : decode cX12_readsCompared 51 = .ok (.iconst (-1), 1) := by decide +kernel
theorem dX12_readsCompared_52 : decode cX12_readsCompared 52 = .ok (.istore_n 1, 1) := by decide +kernel
theorem dX12_readsCompared_53 : decode cX12_readsCompared 53 = .ok (.iload_n 1, 1) := by decide +kernel
theorem dX12_readsCompared_54 : decode cX12_readsCompared 54 = .ok (.iconst (-1), 1) := by decide +kernel
theorem dX12_readsCompared_55 : decode cX12_readsCompared 55 = .ok (.if_icmp .ne 13, 3) := by decide +kernel
theorem dX12_readsCompared_58 : decode cX12_readsCompared 58 = .ok (.aload_n 0, 1) := by decide +kernel
theorem dX12_readsCompared_59 : decode cX12_readsCompared 59 = .ok (.iconst 1, 1) := by decide +kernel
theorem dX12_readsCompared_60 : decode cX12_readsCompared 60 = .ok (.aload_n 0, 1) := by decide +kernel
theorem dX12_readsCompared_61 : decode cX12_readsCompared 61 = .ok (.getfield 150, 3) := by decide +kernel
theorem dX12_readsCompared_64 : decode cX12_readsCompared 64 = .ok (.invokevirtual 163, 3) := by decide +kernel
theorem dX12_readsCompared_67 : decode cX12_readsCompared 67 = .ok (.ireturn, 1) := by decide +kernel
theorem dX12_readsCompared_68 : decode cX12_readsCompared 68 = .ok (.aload_n 0, 1) := by decide +kernel
theorem dX12_readsCompared_69 : decode cX12_readsCompared 69 = .ok (.aload_n 0, 1) := by decide +kernel
theorem dX12_readsCompared_70 : decode cX12_readsCompared 70 = .ok (.getfield 150, 3) := by decide +kernel
theorem dX12_readsCompared_73 : decode cX12_readsCompared 73 = .ok (.iconst 1, 1) := by decide +kernel
theorem dX12_readsCompared_74 : decode cX12_readsCompared 74 = .ok (.iadd, 1) := by decide +kernel
theorem dX12_readsCompared_75 : decode cX12_readsCompared 75 = .ok (.putfield 150, 3) := by decide +kernel
theorem dX12_readsCompared_78 : decode cX12_readsCompared 78 = .ok (.aload_n 0, 1) := by decide +kernel
theorem dX12_readsCompared_79 : decode cX12_readsCompared 79 = .ok (.invokevirtual 212, 3) := by decide +kernel
theorem dX12_readsCompared_82 : decode cX12_readsCompared 82 = .ok (.ifCond .ne 5, 3) := by decide +kernel
theorem dX12_readsCompared_85 : decode cX12_readsCompared 85 = .ok (.iconst 0, 1) := by decide +kernel
theorem dX12_readsCompared_86 : decode cX12_readsCompared 86 = .ok (.ireturn, 1) := by decide +kernel
theorem dX12_readsCompared_87 : decode cX12_readsCompared 87 = .ok (.aload_n 0, 1) := by decide +kernel
theorem dX12_readsCompared_88 : decode cX12_readsCompared 88 = .ok (.iload_n 1, 1) := by decide +kernel
theorem dX12_readsCompared_89 : decode cX12_readsCompared 89 = .ok (.iconst 0, 1) := by decide +kernel
theorem dX12_readsCompared_90 : decode cX12_readsCompared 90 = .ok (.invokevirtual 186, 3) := by decide +kernel
theorem dX12_readsCompared_93 : decode cX12_readsCompared 93 = .ok (.aload_n 0, 1) := by decide +kernel
theorem dX12_readsCompared_94 : decode cX12_readsCompared 94 = .ok (.invokevirtual 215, 3) := by decide +kernel
theorem dX12_readsCompared_97 : decode cX12_readsCompared 97 = .ok (.iconst 1, 1) := by decide +kernel
theorem dX12_readsCompared_98 : decode cX12_readsCompared 98 = .ok (.ireturn, 1) := by decide +kernel
def f_X12_readsCompared_n52  (S0 : Gr) (w0 : Int32) : Option (Int32 × Gr) := if w0 = (-1) then ((f_X12_wrongAt S0 1 (S0.1 9)).bind fun u15 => zb' u15.1 (some (u15.1, u15.2))) else (lt' (sI S0 9 ((S0.1 9) + 1)) fun S0_10 => (f_X12_readsSum S0_10).bind fun u11 => if u11.1 = 0 then (some (0, u11.2)) else ((f_X12_notes u11.2 w0 0).bind fun u13 => (f_X12_endsPiece u13).bind fun u14 => some (1, u14)))
def f_X12_readsCompared (S0 : Gr) : Option (Int32 × Gr) := (f_X12_readsSum S0).bind fun u1 => if u1.1 = 0 then (some (0, u1.2)) else ((f_X12_here u1.2).bind fun u3 => if u3 = 60 then (f_X12_readsCompared_n52 u1.2 7) else ((f_X12_here u1.2).bind fun u5 => if u5 = 62 then (f_X12_readsCompared_n52 u1.2 8) else ((f_X12_here u1.2).bind fun u7 => if u7 = 61 then (f_X12_readsCompared_n52 u1.2 9) else (f_X12_readsCompared_n52 u1.2 (-1)))))
set_option maxHeartbeats 4000000 in
set_option maxRecDepth 100000 in
theorem c_X12_readsCompared (l : Launch) (E : Ec) (q0 : Nat → Nat) (sz : Nat) (S0 : Gr) (Rv : Int32 × Gr) (h : f_X12_readsCompared S0 = some Rv) : Met l yX12_readsCompared (wsM (.code yX12_readsCompared cX12_readsCompared 2 (some .boolean))) ({ frames := 5, cells := 0, slots := 0, locals := 104 } : Room) (va_Pc [.ref (q0 0)] (ctP E (cw_X12 E q0 S0) sz)) (ctI E (cw_X12 E q0 S0) (cw_X12 E q0 Rv.2) sz Rv.1) 0 0 (va_A (cw_X12 E q0 S0) sz) := by
  refine ct_metI (by decide) (Nat.le_of_ble_eq_true rfl) ?_
  intro p e s m ar below meth c A QM hx hb hml hown hg X hP hD hS RET ls hl
  have hown : s.vm.findClass RX12 = some m.cls := hown
  have hl : lv_has ls 2 [(0, .ref (q0 0))] := hl
  have RT : ∀ (v : Int32) (S0 : Gr) (H : Heap) (locs : List Loc) (ls : Array Slot) (pc : Nat), some (v, S0) = some Rv → narrow .boolean (.int v) = .int v → va_P E.1 vwCl (cw_X12 E q0 S0) H → va_D A (cw_X12 E q0 S0) → va_S A s.heap H locs → decode cX12_readsCompared pc = .ok (.ireturn, 1) → W p l e ({ frames := 5, cells := 0, slots := 0, locals := 104 } : Room) s m ar below meth c H locs 0 0 QM (F0 m pc ls [.int v]) := by
    intro v S0 H locs ls pc e hn hP hD hS d
    obtain rfl := sm_e e
    exact RET H locs pc ls hn hP hD hS d
  clear RET
  have N52 : ∀ (S0 : Gr) (w0 : Int32) (H : Heap) (locs : List Loc) (ls : Array Slot), f_X12_readsCompared_n52 S0 w0 = some Rv → va_P E.1 vwCl (cw_X12 E q0 S0) H → va_D A (cw_X12 E q0 S0) → va_S A s.heap H locs → lv_has ls 2 [(0, .ref (q0 0))] → W p l e ({ frames := 5, cells := 0, slots := 0, locals := 104 } : Room) s m ar below meth c H locs 0 0 QM (F0 m 52 ls [.int w0]) := by
    intro S0 w0 H locs ls h hP hD hS hl
    refine lv_istore_n (lv' := [(1, .int w0), (0, .ref (q0 0))]) hx hb dX12_readsCompared_52 rfl hl (by decide) rfl (fun ls hl => ?_)
    refine lv_iload_n hx hb dX12_readsCompared_53 rfl (lv_at hl 0 rfl) ?_
    refine lv_iconst (v := (-1)) hx hb dX12_readsCompared_54 (by decide) ?_
    refine lv_icmp_ne (tgt := 68) hx hb dX12_readsCompared_55 (by decide) (fun c9 => ?_) (fun c9 => ?_)
    · have h := it_f h c9
      refine lv_aload_n hx hb dX12_readsCompared_68 rfl (lv_at hl 1 rfl) ?_
      refine lv_aload_n hx hb dX12_readsCompared_69 rfl (lv_at hl 1 rfl) ?_
      refine va_get (D := E.1) (ci := 11) (v := .int (S0.1 9)) (C := RX12) (T := TX12) (N := 57) hx hb hg in_X12 hown X.1 hP 0 rfl rfl 9 (by decide) (hg _ wf_X12_150) (fun _ h9 => h9) rfl dX12_readsCompared_70 ?_
      refine lv_iconst (v := 1) hx hb dX12_readsCompared_73 (by decide) ?_
      refine lv_iadd hx hb dX12_readsCompared_74 ?_
      obtain ⟨S0_10, eS, h⟩ := lt_el h
      refine va_put (D := E.1) (ci := 11) (v := .int ((S0.1 9) + 1)) (ty := .int) (C := RX12) (T := TX12) (N := 57) hx hb hg in_X12 tyX12 tyX12_ok nmX12 hown X.1 hP hD hS 0 rfl rfl 9 (by decide) (hg _ wf_X12_150) (fun _ h9 => h9) rfl (by decide +kernel) rfl rfl (Nat.le_of_ble_eq_true rfl) dX12_readsCompared_75 (fun H locs hP hD hS => ?_)
      have hP : va_P E.1 vwCl (cw_X12 E q0 S0_10) H := by rw [eS]; exact hP
      have hD : va_D A (cw_X12 E q0 S0_10) := by rw [eS]; exact hD
      clear eS
      refine lv_aload_n hx hb dX12_readsCompared_78 rfl (lv_at hl 1 rfl) ?_
      obtain ⟨u11, hc, h⟩ := bd_el h
      refine ct_iA (w1 := cw_X12 E q0 u11.2) X hP hD hS (va_runV (C := RX12) (As := []) (rest := []) ⟨hx, hb, hml, hown, hg⟩ (c_X12_readsSum l E q0 H.size S0_10 u11 hc) (cwV 0 hg (gwV wm_X12_212 wi_X12_readsSum wsl_X12_readsSum wini_X12 wco_X12_readsSum) rfl rfl rfl (by decide +kernel) ⟨Nat.le_of_ble_eq_true rfl, Nat.le_of_ble_eq_true rfl⟩) ⟨ct_blind, ct_rv X.1 hP 0 rfl rfl, ct_preA X hP hD hS _⟩ rfl rfl hl.1 rfl (lv_room (Nat.le_of_ble_eq_true rfl)) dX12_readsCompared_79 ⟨Nat.zero_le _, Nat.zero_le _⟩) (fun H locs hP hD hS => ?_)
      refine lv_if_ne (tgt := 87) hx hb dX12_readsCompared_82 (by decide) (fun c12 => ?_) (fun c12 => ?_)
      · have h := it_f h c12
        refine lv_aload_n hx hb dX12_readsCompared_87 rfl (lv_at hl 1 rfl) ?_
        refine lv_iload_n hx hb dX12_readsCompared_88 rfl (lv_at hl 0 rfl) ?_
        refine lv_iconst (v := 0) hx hb dX12_readsCompared_89 (by decide) ?_
        obtain ⟨u13, hc, h⟩ := bd_el h
        refine ct_vA (w1 := cw_X12 E q0 u13) X hP hD hS (va_runV (C := RX12) (As := [.int w0, .int 0]) (rest := []) ⟨hx, hb, hml, hown, hg⟩ (c_X12_notes l E q0 H.size u11.2 w0 0 u13 hc) (cwV 2 hg (gwV wm_X12_186 wi_X12_notes wsl_X12_notes wini_X12 wco_X12_notes) rfl rfl rfl (by decide +kernel) ⟨Nat.le_of_ble_eq_true rfl, Nat.le_of_ble_eq_true rfl⟩) ⟨ct_blind, ct_rv X.1 hP 0 rfl rfl, ct_preA X hP hD hS _⟩ rfl rfl hl.1 rfl (lv_room (Nat.le_of_ble_eq_true rfl)) dX12_readsCompared_90 ⟨Nat.zero_le _, Nat.zero_le _⟩) (fun H locs hP hD hS => ?_)
        refine lv_aload_n hx hb dX12_readsCompared_93 rfl (lv_at hl 1 rfl) ?_
        obtain ⟨u14, hc, h⟩ := bd_el h
        refine ct_vA (w1 := cw_X12 E q0 u14) X hP hD hS (va_runV (C := RX12) (As := []) (rest := []) ⟨hx, hb, hml, hown, hg⟩ (c_X12_endsPiece l E q0 H.size u13 u14 hc) (cwV 0 hg (gwV wm_X12_215 wi_X12_endsPiece wsl_X12_endsPiece wini_X12 wco_X12_endsPiece) rfl rfl rfl (by decide +kernel) ⟨Nat.le_of_ble_eq_true rfl, Nat.le_of_ble_eq_true rfl⟩) ⟨ct_blind, ct_rv X.1 hP 0 rfl rfl, ct_preA X hP hD hS _⟩ rfl rfl hl.1 rfl (lv_room (Nat.le_of_ble_eq_true rfl)) dX12_readsCompared_94 ⟨Nat.zero_le _, Nat.zero_le _⟩) (fun H locs hP hD hS => ?_)
        refine lv_iconst (v := 1) hx hb dX12_readsCompared_97 (by decide) ?_
        exact RT 1 u14 _ _ _ _ h (by decide +kernel) hP hD hS dX12_readsCompared_98
      · have h := it_t h c12
        refine lv_iconst (v := 0) hx hb dX12_readsCompared_85 (by decide) ?_
        exact RT 0 u11.2 _ _ _ _ h (by decide +kernel) hP hD hS dX12_readsCompared_86
    · have h := it_t h c9
      refine lv_aload_n hx hb dX12_readsCompared_58 rfl (lv_at hl 1 rfl) ?_
      refine lv_iconst (v := 1) hx hb dX12_readsCompared_59 (by decide) ?_
      refine lv_aload_n hx hb dX12_readsCompared_60 rfl (lv_at hl 1 rfl) ?_
      refine va_get (D := E.1) (ci := 11) (v := .int (S0.1 9)) (C := RX12) (T := TX12) (N := 57) hx hb hg in_X12 hown X.1 hP 0 rfl rfl 9 (by decide) (hg _ wf_X12_150) (fun _ h9 => h9) rfl dX12_readsCompared_61 ?_
      obtain ⟨u15, hc, h⟩ := bd_el h
      refine ct_iA (w1 := cw_X12 E q0 u15.2) X hP hD hS (va_runV (C := RX12) (As := [.int 1, .int (S0.1 9)]) (rest := []) ⟨hx, hb, hml, hown, hg⟩ (c_X12_wrongAt l E q0 H.size S0 1 (S0.1 9) u15 hc) (cwV 2 hg (gwV wm_X12_163 wi_X12_wrongAt wsl_X12_wrongAt wini_X12 wco_X12_wrongAt) rfl rfl rfl (by decide +kernel) ⟨Nat.le_of_ble_eq_true rfl, Nat.le_of_ble_eq_true rfl⟩) ⟨ct_blind, ct_rv X.1 hP 0 rfl rfl, ct_preA X hP hD hS _⟩ rfl rfl hl.1 rfl (lv_room (Nat.le_of_ble_eq_true rfl)) dX12_readsCompared_64 ⟨Nat.zero_le _, Nat.zero_le _⟩) (fun H locs hP hD hS => ?_)
      obtain ⟨hn1, -, h⟩ := zb_el h
      exact RT u15.1 u15.2 _ _ _ _ h hn1 hP hD hS dX12_readsCompared_67
  obtain ⟨H, eH⟩ : ∃ z, z = s.heap := ⟨_, rfl⟩
  rw [← eH]
  have hP : va_P E.1 vwCl (cw_X12 E q0 S0) H := by rw [eH]; exact hP
  have hS : va_S A s.heap H [] := by rw [eH]; exact hS
  clear eH
  obtain ⟨locs, el⟩ : ∃ z : List Loc, z = [] := ⟨_, rfl⟩
  rw [← el] at hS ⊢
  clear el
  refine lv_aload_n hx hb dX12_readsCompared_0 rfl (lv_at hl 0 rfl) ?_
  obtain ⟨u1, hc, h⟩ := bd_el h
  refine ct_iA (w1 := cw_X12 E q0 u1.2) X hP hD hS (va_runV (C := RX12) (As := []) (rest := []) ⟨hx, hb, hml, hown, hg⟩ (c_X12_readsSum l E q0 H.size S0 u1 hc) (cwV 0 hg (gwV wm_X12_212 wi_X12_readsSum wsl_X12_readsSum wini_X12 wco_X12_readsSum) rfl rfl rfl (by decide +kernel) ⟨Nat.le_of_ble_eq_true rfl, Nat.le_of_ble_eq_true rfl⟩) ⟨ct_blind, ct_rv X.1 hP 0 rfl rfl, ct_preA X hP hD hS _⟩ rfl rfl hl.1 rfl (lv_room (Nat.le_of_ble_eq_true rfl)) dX12_readsCompared_1 ⟨Nat.zero_le _, Nat.zero_le _⟩) (fun H locs hP hD hS => ?_)
  refine lv_if_ne (tgt := 9) hx hb dX12_readsCompared_4 (by decide) (fun c2 => ?_) (fun c2 => ?_)
  · have h := it_f h c2
    refine lv_aload_n hx hb dX12_readsCompared_9 rfl (lv_at hl 0 rfl) ?_
    obtain ⟨u3, hc, h⟩ := bd_el h
    refine ct_iA (w1 := cw_X12 E q0 u1.2) X hP hD hS (va_runV (C := RX12) (As := []) (rest := []) ⟨hx, hb, hml, hown, hg⟩ (c_X12_here l E q0 H.size u1.2 u3 hc) (cwV 0 hg (gwV wm_X12_156 wi_X12_here wsl_X12_here wini_X12 wco_X12_here) rfl rfl rfl (by decide +kernel) ⟨Nat.le_of_ble_eq_true rfl, Nat.le_of_ble_eq_true rfl⟩) ⟨ct_blind, ct_rv X.1 hP 0 rfl rfl, ct_preA X hP hD hS _⟩ rfl rfl hl.1 rfl (lv_room (Nat.le_of_ble_eq_true rfl)) dX12_readsCompared_10 ⟨Nat.zero_le _, Nat.zero_le _⟩) (fun H locs hP hD hS => ?_)
    refine lv_bipush (v := 60) hx hb dX12_readsCompared_13 (by decide) ?_
    refine lv_icmp_ne (tgt := 23) hx hb dX12_readsCompared_15 (by decide) (fun c4 => ?_) (fun c4 => ?_)
    · have h := it_f h c4
      refine lv_aload_n hx hb dX12_readsCompared_23 rfl (lv_at hl 0 rfl) ?_
      obtain ⟨u5, hc, h⟩ := bd_el h
      refine ct_iA (w1 := cw_X12 E q0 u1.2) X hP hD hS (va_runV (C := RX12) (As := []) (rest := []) ⟨hx, hb, hml, hown, hg⟩ (c_X12_here l E q0 H.size u1.2 u5 hc) (cwV 0 hg (gwV wm_X12_156 wi_X12_here wsl_X12_here wini_X12 wco_X12_here) rfl rfl rfl (by decide +kernel) ⟨Nat.le_of_ble_eq_true rfl, Nat.le_of_ble_eq_true rfl⟩) ⟨ct_blind, ct_rv X.1 hP 0 rfl rfl, ct_preA X hP hD hS _⟩ rfl rfl hl.1 rfl (lv_room (Nat.le_of_ble_eq_true rfl)) dX12_readsCompared_24 ⟨Nat.zero_le _, Nat.zero_le _⟩) (fun H locs hP hD hS => ?_)
      refine lv_bipush (v := 62) hx hb dX12_readsCompared_27 (by decide) ?_
      refine lv_icmp_ne (tgt := 37) hx hb dX12_readsCompared_29 (by decide) (fun c6 => ?_) (fun c6 => ?_)
      · have h := it_f h c6
        refine lv_aload_n hx hb dX12_readsCompared_37 rfl (lv_at hl 0 rfl) ?_
        obtain ⟨u7, hc, h⟩ := bd_el h
        refine ct_iA (w1 := cw_X12 E q0 u1.2) X hP hD hS (va_runV (C := RX12) (As := []) (rest := []) ⟨hx, hb, hml, hown, hg⟩ (c_X12_here l E q0 H.size u1.2 u7 hc) (cwV 0 hg (gwV wm_X12_156 wi_X12_here wsl_X12_here wini_X12 wco_X12_here) rfl rfl rfl (by decide +kernel) ⟨Nat.le_of_ble_eq_true rfl, Nat.le_of_ble_eq_true rfl⟩) ⟨ct_blind, ct_rv X.1 hP 0 rfl rfl, ct_preA X hP hD hS _⟩ rfl rfl hl.1 rfl (lv_room (Nat.le_of_ble_eq_true rfl)) dX12_readsCompared_38 ⟨Nat.zero_le _, Nat.zero_le _⟩) (fun H locs hP hD hS => ?_)
        refine lv_bipush (v := 61) hx hb dX12_readsCompared_41 (by decide) ?_
        refine lv_icmp_ne (tgt := 51) hx hb dX12_readsCompared_43 (by decide) (fun c8 => ?_) (fun c8 => ?_)
        · have h := it_f h c8
          refine lv_iconst (v := (-1)) hx hb dX12_readsCompared_51 (by decide) ?_
          exact N52  u1.2 (-1) _ _ _ h hP hD hS (lv_sub hl [0] rfl)
        · have h := it_t h c8
          refine lv_bipush (v := 9) hx hb dX12_readsCompared_46 (by decide) ?_
          refine lv_goto (tgt := 52) hx hb dX12_readsCompared_48 (by decide) ?_
          exact N52  u1.2 9 _ _ _ h hP hD hS (lv_sub hl [0] rfl)
      · have h := it_t h c6
        refine lv_bipush (v := 8) hx hb dX12_readsCompared_32 (by decide) ?_
        refine lv_goto (tgt := 52) hx hb dX12_readsCompared_34 (by decide) ?_
        exact N52  u1.2 8 _ _ _ h hP hD hS (lv_sub hl [0] rfl)
    · have h := it_t h c4
      refine lv_bipush (v := 7) hx hb dX12_readsCompared_18 (by decide) ?_
      refine lv_goto (tgt := 52) hx hb dX12_readsCompared_20 (by decide) ?_
      exact N52  u1.2 7 _ _ _ h hP hD hS (lv_sub hl [0] rfl)
  · have h := it_t h c2
    refine lv_iconst (v := 0) hx hb dX12_readsCompared_7 (by decide) ?_
    exact RT 0 u1.2 _ _ _ _ h (by decide +kernel) hP hD hS dX12_readsCompared_8
theorem dX12_readsCondition_0 : decode cX12_readsCondition 0 = .ok (.aload_n 0, 1) := by decide +kernel
theorem dX12_readsCondition_1 : decode cX12_readsCondition 1 = .ok (.invokevirtual 156, 3) := by decide +kernel
theorem dX12_readsCondition_4 : decode cX12_readsCondition 4 = .ok (.bipush 40, 2) := by decide +kernel
theorem dX12_readsCondition_6 : decode cX12_readsCondition 6 = .ok (.if_icmp .eq 13, 3) := by decide +kernel
theorem dX12_readsCondition_9 : decode cX12_readsCondition 9 = .ok (.aload_n 0, 1) := by decide +kernel
theorem dX12_readsCondition_10 : decode cX12_readsCondition 10 = .ok (.iconst 1, 1) := by decide +kernel
theorem dX12_readsCondition_11 : decode cX12_readsCondition 11 = .ok (.aload_n 0, 1) := by decide +kernel
theorem dX12_readsCondition_12 : decode cX12_readsCondition 12 = .ok (.getfield 150, 3) := by decide +kernel
theorem dX12_readsCondition_15 : decode cX12_readsCondition 15 = .ok (.invokevirtual 163, 3) := by decide +kernel
theorem dX12_readsCondition_18 : decode cX12_readsCondition 18 = .ok (.ireturn, 1) := by decide +kernel
theorem dX12_readsCondition_19 : decode cX12_readsCondition 19 = .ok (.aload_n 0, 1) := by decide +kernel
theorem dX12_readsCondition_20 : decode cX12_readsCondition 20 = .ok (.iconst 0, 1) := by decide +kernel
theorem dX12_readsCondition_21 : decode cX12_readsCondition 21 = .ok (.putfield 177, 3) := by decide +kernel
theorem dX12_readsCondition_24 : decode cX12_readsCondition 24 = .ok (.aload_n 0, 1) := by decide +kernel
theorem dX12_readsCondition_25 : decode cX12_readsCondition 25 = .ok (.iconst 0, 1) := by decide +kernel
theorem dX12_readsCondition_26 : decode cX12_readsCondition 26 = .ok (.putfield 180, 3) := by decide +kernel
theorem dX12_readsCondition_29 : decode cX12_readsCondition 29 = .ok (.aload_n 0, 1) := by decide +kernel
theorem dX12_readsCondition_30 : decode cX12_readsCondition 30 = .ok (.bipush 13, 2) := by decide +kernel
theorem dX12_readsCondition_32 : decode cX12_readsCondition 32 = .ok (.invokevirtual 190, 3) := by decide +kernel
theorem dX12_readsCondition_35 : decode cX12_readsCondition 35 = .ok (.ifCond .ne 5, 3) := by decide +kernel
theorem dX12_readsCondition_38 : decode cX12_readsCondition 38 = .ok (.iconst 0, 1) := by decide +kernel
theorem dX12_readsCondition_39 : decode cX12_readsCondition 39 = .ok (.ireturn, 1) := by decide +kernel
theorem dX12_readsCondition_40 : decode cX12_readsCondition 40 = .ok (.aload_n 0, 1) := by decide +kernel
theorem dX12_readsCondition_41 : decode cX12_readsCondition 41 = .ok (.invokevirtual 156, 3) := by decide +kernel
theorem dX12_readsCondition_44 : decode cX12_readsCondition 44 = .ok (.bipush 33, 2) := by decide +kernel
theorem dX12_readsCondition_46 : decode cX12_readsCondition 46 = .ok (.if_icmp .eq 12, 3) := by decide +kernel
theorem dX12_readsCondition_49 : decode cX12_readsCondition 49 = .ok (.aload_n 0, 1) := by decide +kernel
theorem dX12_readsCondition_50 : decode cX12_readsCondition 50 = .ok (.invokevirtual 156, 3) := by decide +kernel
theorem dX12_readsCondition_53 : decode cX12_readsCondition 53 = .ok (.bipush 40, 2) := by decide +kernel
theorem dX12_readsCondition_55 : decode cX12_readsCondition 55 = .ok (.if_icmp .ne 28, 3) := by decide +kernel
theorem dX12_readsCondition_58 : decode cX12_readsCondition 58 = .ok (.aload_n 0, 1) := by decide +kernel
theorem dX12_readsCondition_59 : decode cX12_readsCondition 59 = .ok (.aload_n 0, 1) := by decide +kernel
theorem dX12_readsCondition_60 : decode cX12_readsCondition 60 = .ok (.invokevirtual 156, 3) := by decide +kernel
theorem dX12_readsCondition_63 : decode cX12_readsCondition 63 = .ok (.bipush 33, 2) := by decide +kernel
theorem dX12_readsCondition_65 : decode cX12_readsCondition 65 = .ok (.if_icmp .ne 8, 3) := by decide +kernel
theorem dX12_readsCondition_68 : decode cX12_readsCondition 68 = .ok (.bipush 10, 2) := by decide +kernel
theorem dX12_readsCondition_70 : decode cX12_readsCondition 70 = .ok (.goto 5, 3) := by decide +kernel
theorem dX12_readsCondition_73 : decode cX12_readsCondition 73 = .ok (.bipush 13, 2) := by decide +kernel
theorem dX12_readsCondition_75 : decode cX12_readsCondition 75 = .ok (.invokevirtual 190, 3) := by decide +kernel
theorem dX12_readsCondition_78 : decode cX12_readsCondition 78 = .ok (.ifCond .ne (-38), 3) := by decide +kernel
theorem dX12_readsCondition_81 : decode cX12_readsCondition 81 = .ok (.iconst 0, 1) := by decide +kernel
theorem dX12_readsCondition_82 : decode cX12_readsCondition 82 = .ok (.ireturn, 1) := by decide +kernel
theorem dX12_readsCondition_83 : decode cX12_readsCondition 83 = .ok (.aload_n 0, 1) := by decide +kernel
theorem dX12_readsCondition_84 : decode cX12_readsCondition 84 = .ok (.invokevirtual 218, 3) := by decide +kernel
theorem dX12_readsCondition_87 : decode cX12_readsCondition 87 = .ok (.ifCond .ne 5, 3) := by decide +kernel
theorem dX12_readsCondition_90 : decode cX12_readsCondition 90 = .ok (.iconst 0, 1) := by decide +kernel
theorem dX12_readsCondition_91 : decode cX12_readsCondition 91 = .ok (.ireturn, 1) := by decide +kernel
theorem dX12_readsCondition_92 : decode cX12_readsCondition 92 = .ok (.aload_n 0, 1) := by decide +kernel
theorem dX12_readsCondition_93 : decode cX12_readsCondition 93 = .ok (.invokevirtual 156, 3) := by decide +kernel
theorem dX12_readsCondition_96 : decode cX12_readsCondition 96 = .ok (.bipush 41, 2) := by decide +kernel
theorem dX12_readsCondition_98 : decode cX12_readsCondition 98 = .ok (.if_icmp .ne 54, 3) := by decide +kernel
theorem dX12_readsCondition_101 : decode cX12_readsCondition 101 = .ok (.aload_n 0, 1) := by decide +kernel
theorem dX12_readsCondition_102 : decode cX12_readsCondition 102 = .ok (.iconst 1, 1) := by decide +kernel
theorem dX12_readsCondition_103 : decode cX12_readsCondition 103 = .ok (.invokevirtual 221, 3) := by decide +kernel
theorem dX12_readsCondition_106 : decode cX12_readsCondition 106 = .ok (.aload_n 0, 1) := by decide +kernel
theorem dX12_readsCondition_107 : decode cX12_readsCondition 107 = .ok (.aload_n 0, 1) := by decide +kernel
theorem dX12_readsCondition_108 : decode cX12_readsCondition 108 = .ok (.getfield 180, 3) := by decide +kernel
theorem dX12_readsCondition_111 : decode cX12_readsCondition 111 = .ok (.iconst 1, 1) := by decide +kernel
theorem dX12_readsCondition_112 : decode cX12_readsCondition 112 = .ok (.isub, 1) := by decide +kernel
theorem dX12_readsCondition_113 : decode cX12_readsCondition 113 = .ok (.putfield 180, 3) := by decide +kernel
theorem dX12_readsCondition_116 : decode cX12_readsCondition 116 = .ok (.aload_n 0, 1) := by decide +kernel
theorem dX12_readsCondition_117 : decode cX12_readsCondition 117 = .ok (.aload_n 0, 1) := by decide +kernel
theorem dX12_readsCondition_118 : decode cX12_readsCondition 118 = .ok (.getfield 177, 3) := by decide +kernel
theorem dX12_readsCondition_121 : decode cX12_readsCondition 121 = .ok (.iconst 1, 1) := by decide +kernel
theorem dX12_readsCondition_122 : decode cX12_readsCondition 122 = .ok (.isub, 1) := by decide +kernel
theorem dX12_readsCondition_123 : decode cX12_readsCondition 123 = .ok (.putfield 177, 3) := by decide +kernel
theorem dX12_readsCondition_126 : decode cX12_readsCondition 126 = .ok (.aload_n 0, 1) := by decide +kernel
theorem dX12_readsCondition_127 : decode cX12_readsCondition 127 = .ok (.aload_n 0, 1) := by decide +kernel
theorem dX12_readsCondition_128 : decode cX12_readsCondition 128 = .ok (.getfield 150, 3) := by decide +kernel
theorem dX12_readsCondition_131 : decode cX12_readsCondition 131 = .ok (.iconst 1, 1) := by decide +kernel
theorem dX12_readsCondition_132 : decode cX12_readsCondition 132 = .ok (.iadd, 1) := by decide +kernel
theorem dX12_readsCondition_133 : decode cX12_readsCondition 133 = .ok (.putfield 150, 3) := by decide +kernel
theorem dX12_readsCondition_136 : decode cX12_readsCondition 136 = .ok (.aload_n 0, 1) := by decide +kernel
theorem dX12_readsCondition_137 : decode cX12_readsCondition 137 = .ok (.getfield 180, 3) := by decide +kernel
theorem dX12_readsCondition_140 : decode cX12_readsCondition 140 = .ok (.ifCond .ne 5, 3) := by decide +kernel
theorem dX12_readsCondition_143 : decode cX12_readsCondition 143 = .ok (.iconst 1, 1) := by decide +kernel
theorem dX12_readsCondition_144 : decode cX12_readsCondition 144 = .ok (.ireturn, 1) := by decide +kernel
theorem dX12_readsCondition_145 : decode cX12_readsCondition 145 = .ok (.aload_n 0, 1) := by decide +kernel
theorem dX12_readsCondition_146 : decode cX12_readsCondition 146 = .ok (.invokevirtual 215, 3) := by decide +kernel
theorem dX12_readsCondition_149 : decode cX12_readsCondition 149 = .ok (.goto (-57), 3) := by decide +kernel
theorem dX12_readsCondition_152 : decode cX12_readsCondition 152 = .ok (.aload_n 0, 1) := by decide +kernel
theorem dX12_readsCondition_153 : decode cX12_readsCondition 153 = .ok (.invokevirtual 156, 3) := by decide +kernel
theorem dX12_readsCondition_156 : decode cX12_readsCondition 156 = .ok (.bipush 38, 2) := by decide +kernel
theorem dX12_readsCondition_158 : decode cX12_readsCondition 158 = .ok (.if_icmp .eq 22, 3) := by decide +kernel
theorem dX12_readsCondition_161 : decode cX12_readsCondition 161 = .ok (.aload_n 0, 1) := by decide +kernel
theorem dX12_readsCondition_162 : decode cX12_readsCondition 162 = .ok (.invokevirtual 156, 3) := by decide +kernel
theorem dX12_readsCondition_165 : decode cX12_readsCondition 165 = .ok (.bipush 124, 2) := by decide +kernel
theorem dX12_readsCondition_167 : decode cX12_readsCondition 167 = .ok (.if_icmp .eq 13, 3) := by decide +kernel
theorem dX12_readsCondition_170 : decode cX12_readsCondition 170 = .ok (.aload_n 0, 1) := by decide +kernel
theorem dX12_readsCondition_171 : decode cX12_readsCondition 171 = .ok (.iconst 1, 1) := by decide +kernel
theorem dX12_readsCondition_172 : decode cX12_readsCondition 172 = .ok (.aload_n 0, 1) := by decide +kernel
theorem dX12_readsCondition_173 : decode cX12_readsCondition 173 = .ok (.getfield 150, 3) := by decide +kernel
theorem dX12_readsCondition_176 : decode cX12_readsCondition 176 = .ok (.invokevirtual 163, 3) := by decide +kernel
theorem dX12_readsCondition_179 : decode cX12_readsCondition 179 = .ok (.ireturn, 1) := by decide +kernel
theorem dX12_readsCondition_180 : decode cX12_readsCondition 180 = .ok (.aload_n 0, 1) := by decide +kernel
theorem dX12_readsCondition_181 : decode cX12_readsCondition 181 = .ok (.aload_n 0, 1) := by decide +kernel
theorem dX12_readsCondition_182 : decode cX12_readsCondition 182 = .ok (.invokevirtual 156, 3) := by decide +kernel
theorem dX12_readsCondition_185 : decode cX12_readsCondition 185 = .ok (.bipush 124, 2) := by decide +kernel
theorem dX12_readsCondition_187 : decode cX12_readsCondition 187 = .ok (.if_icmp .ne 7, 3) := by decide +kernel
theorem dX12_readsCondition_190 : decode cX12_readsCondition 190 = .ok (.iconst 1, 1) := by decide +kernel
theorem dX12_readsCondition_191 : decode cX12_readsCondition 191 = .ok (.goto 4, 3) := by decide +kernel
theorem dX12_readsCondition_194 : decode cX12_readsCondition 194 = .ok (.iconst 0, 1) := by decide +kernel
theorem dX12_readsCondition_195 : decode cX12_readsCondition 195 = .ok (.invokevirtual 221, 3) := by decide +kernel
theorem dX12_readsCondition_198 : decode cX12_readsCondition 198 = .ok (.aload_n 0, 1) := by decide +kernel
theorem dX12_readsCondition_199 : decode cX12_readsCondition 199 = .ok (.aload_n 0, 1) := by decide +kernel
theorem dX12_readsCondition_200 : decode cX12_readsCondition 200 = .ok (.invokevirtual 156, 3) := by decide +kernel
theorem dX12_readsCondition_203 : decode cX12_readsCondition 203 = .ok (.bipush 38, 2) := by decide +kernel
theorem dX12_readsCondition_205 : decode cX12_readsCondition 205 = .ok (.if_icmp .ne 8, 3) := by decide +kernel
theorem dX12_readsCondition_208 : decode cX12_readsCondition 208 = .ok (.bipush 11, 2) := by decide +kernel
theorem dX12_readsCondition_210 : decode cX12_readsCondition 210 = .ok (.goto 5, 3) := by decide +kernel
theorem dX12_readsCondition_213 : decode cX12_readsCondition 213 = .ok (.bipush 12, 2) := by decide +kernel
theorem dX12_readsCondition_215 : decode cX12_readsCondition 215 = .ok (.invokevirtual 224, 3) := by decide +kernel
theorem dX12_readsCondition_218 : decode cX12_readsCondition 218 = .ok (.goto (-178), 3) := by decide +kernel
def f_X12_readsCondition_n58  (k40 : Gr → Option (Int32 × Gr)) (S0 : Gr) : Option (Int32 × Gr) := (f_X12_here S0).bind fun u39 => if u39 = 33 then ((f_X12_opens S0 10).bind fun u43 => if u43.1 = 0 then (some (0, u43.2)) else (k40 u43.2)) else ((f_X12_opens S0 13).bind fun u41 => if u41.1 = 0 then (some (0, u41.2)) else (k40 u41.2))
def f_X12_readsCondition_n180  (k40 : Gr → Option (Int32 × Gr)) (S0 : Gr) : Option (Int32 × Gr) := (f_X12_here S0).bind fun u27 => if u27 = 124 then ((f_X12_lands S0 1).bind fun u34 => (f_X12_here u34).bind fun u35 => if u35 = 38 then ((f_X12_jumps u34 11).bind fun u38 => k40 u38) else ((f_X12_jumps u34 12).bind fun u37 => k40 u37)) else ((f_X12_lands S0 0).bind fun u29 => (f_X12_here u29).bind fun u30 => if u30 = 38 then ((f_X12_jumps u29 11).bind fun u33 => k40 u33) else ((f_X12_jumps u29 12).bind fun u32 => k40 u32))
def f_X12_readsCondition_n92  (k40 : Gr → Option (Int32 × Gr)) : Nat → Gr → Option (Int32 × Gr)
  | 0, _ => none
  | n + 1, S0 => (f_X12_here S0).bind fun u14 => if u14 = 41 then ((f_X12_lands S0 1).bind fun u21 => lt' (sI u21 15 ((u21.1 15) - 1)) fun S0_22 => lt' (sI S0_22 13 ((S0_22.1 13) - 1)) fun S0_23 => lt' (sI S0_23 9 ((S0_23.1 9) + 1)) fun S0_24 => if (S0_24.1 15) = 0 then (some (1, S0_24)) else ((f_X12_endsPiece S0_24).bind fun u26 => f_X12_readsCondition_n92 k40 n u26)) else ((f_X12_here S0).bind fun u16 => if u16 = 38 then (f_X12_readsCondition_n180 k40 S0) else ((f_X12_here S0).bind fun u18 => if u18 = 124 then (f_X12_readsCondition_n180 k40 S0) else ((f_X12_wrongAt S0 1 (S0.1 9)).bind fun u20 => zb' u20.1 (some (u20.1, u20.2)))))
def f_X12_readsCondition_n40  : Nat → Gr → Option (Int32 × Gr)
  | 0, _ => none
  | n + 1, S0 => (f_X12_here S0).bind fun u8 => if u8 = 33 then (f_X12_readsCondition_n58 (f_X12_readsCondition_n40 n) S0) else ((f_X12_here S0).bind fun u10 => if u10 = 40 then (f_X12_readsCondition_n58 (f_X12_readsCondition_n40 n) S0) else ((f_X12_readsCompared S0).bind fun u12 => if u12.1 = 0 then (some (0, u12.2)) else (f_X12_readsCondition_n92 (f_X12_readsCondition_n40 n) fu u12.2)))
def f_X12_readsCondition (S0 : Gr) : Option (Int32 × Gr) := (f_X12_here S0).bind fun u1 => if u1 = 40 then (lt' (sI S0 13 0) fun S0_3 => lt' (sI S0_3 15 0) fun S0_4 => (f_X12_opens S0_4 13).bind fun u5 => if u5.1 = 0 then (some (0, u5.2)) else (f_X12_readsCondition_n40 fu u5.2)) else ((f_X12_wrongAt S0 1 (S0.1 9)).bind fun u7 => zb' u7.1 (some (u7.1, u7.2)))
set_option maxHeartbeats 4000000 in
set_option maxRecDepth 100000 in
theorem c_X12_readsCondition (l : Launch) (E : Ec) (q0 : Nat → Nat) (sz : Nat) (S0 : Gr) (Rv : Int32 × Gr) (h : f_X12_readsCondition S0 = some Rv) : Met l yX12_readsCondition (wsM (.code yX12_readsCondition cX12_readsCondition 1 (some .boolean))) ({ frames := 6, cells := 0, slots := 0, locals := 125 } : Room) (va_Pc [.ref (q0 0)] (ctP E (cw_X12 E q0 S0) sz)) (ctI E (cw_X12 E q0 S0) (cw_X12 E q0 Rv.2) sz Rv.1) 0 0 (va_A (cw_X12 E q0 S0) sz) := by
  refine ct_metI (by decide) (Nat.le_of_ble_eq_true rfl) ?_
  intro p e s m ar below meth c A QM hx hb hml hown hg X hP hD hS RET ls hl
  have hown : s.vm.findClass RX12 = some m.cls := hown
  have hl : lv_has ls 1 [(0, .ref (q0 0))] := hl
  have RT : ∀ (v : Int32) (S0 : Gr) (H : Heap) (locs : List Loc) (ls : Array Slot) (pc : Nat), some (v, S0) = some Rv → narrow .boolean (.int v) = .int v → va_P E.1 vwCl (cw_X12 E q0 S0) H → va_D A (cw_X12 E q0 S0) → va_S A s.heap H locs → decode cX12_readsCondition pc = .ok (.ireturn, 1) → W p l e ({ frames := 6, cells := 0, slots := 0, locals := 125 } : Room) s m ar below meth c H locs 0 0 QM (F0 m pc ls [.int v]) := by
    intro v S0 H locs ls pc e hn hP hD hS d
    obtain rfl := sm_e e
    exact RET H locs pc ls hn hP hD hS d
  clear RET
  have N58 : ∀ (k40 : Gr → Option (Int32 × Gr)) (hk40 : ∀ (S0 : Gr) (H : Heap) (locs : List Loc) (ls : Array Slot), k40 S0 = some Rv → va_P E.1 vwCl (cw_X12 E q0 S0) H → va_D A (cw_X12 E q0 S0) → va_S A s.heap H locs → lv_has ls 1 [(0, .ref (q0 0))] → W p l e ({ frames := 6, cells := 0, slots := 0, locals := 125 } : Room) s m ar below meth c H locs 0 0 QM (F0 m 40 ls [])) (S0 : Gr) (H : Heap) (locs : List Loc) (ls : Array Slot), f_X12_readsCondition_n58 k40 S0 = some Rv → va_P E.1 vwCl (cw_X12 E q0 S0) H → va_D A (cw_X12 E q0 S0) → va_S A s.heap H locs → lv_has ls 1 [(0, .ref (q0 0))] → W p l e ({ frames := 6, cells := 0, slots := 0, locals := 125 } : Room) s m ar below meth c H locs 0 0 QM (F0 m 58 ls []) := by
    intro k40 hk40 S0 H locs ls h hP hD hS hl
    refine lv_aload_n hx hb dX12_readsCondition_58 rfl (lv_at hl 0 rfl) ?_
    refine lv_aload_n hx hb dX12_readsCondition_59 rfl (lv_at hl 0 rfl) ?_
    obtain ⟨u39, hc, h⟩ := bd_el h
    refine ct_iA (w1 := cw_X12 E q0 S0) X hP hD hS (va_runV (C := RX12) (As := []) (rest := [.ref (q0 0)]) ⟨hx, hb, hml, hown, hg⟩ (c_X12_here l E q0 H.size S0 u39 hc) (cwV 0 hg (gwV wm_X12_156 wi_X12_here wsl_X12_here wini_X12 wco_X12_here) rfl rfl rfl (by decide +kernel) ⟨Nat.le_of_ble_eq_true rfl, Nat.le_of_ble_eq_true rfl⟩) ⟨ct_blind, ct_rv X.1 hP 0 rfl rfl, ct_preA X hP hD hS _⟩ rfl rfl hl.1 rfl (lv_room (Nat.le_of_ble_eq_true rfl)) dX12_readsCondition_60 ⟨Nat.zero_le _, Nat.zero_le _⟩) (fun H locs hP hD hS => ?_)
    refine lv_bipush (v := 33) hx hb dX12_readsCondition_63 (by decide) ?_
    refine lv_icmp_ne (tgt := 73) hx hb dX12_readsCondition_65 (by decide) (fun c40 => ?_) (fun c40 => ?_)
    · have h := it_f h c40
      refine lv_bipush (v := 13) hx hb dX12_readsCondition_73 (by decide) ?_
      obtain ⟨u41, hc, h⟩ := bd_el h
      refine ct_iA (w1 := cw_X12 E q0 u41.2) X hP hD hS (va_runV (C := RX12) (As := [.int 13]) (rest := []) ⟨hx, hb, hml, hown, hg⟩ (c_X12_opens l E q0 H.size S0 13 u41 hc) (cwV 1 hg (gwV wm_X12_190 wi_X12_opens wsl_X12_opens wini_X12 wco_X12_opens) rfl rfl rfl (by decide +kernel) ⟨Nat.le_of_ble_eq_true rfl, Nat.le_of_ble_eq_true rfl⟩) ⟨ct_blind, ct_rv X.1 hP 0 rfl rfl, ct_preA X hP hD hS _⟩ rfl rfl hl.1 rfl (lv_room (Nat.le_of_ble_eq_true rfl)) dX12_readsCondition_75 ⟨Nat.zero_le _, Nat.zero_le _⟩) (fun H locs hP hD hS => ?_)
      refine lv_if_ne (tgt := 40) hx hb dX12_readsCondition_78 (by decide) (fun c42 => ?_) (fun c42 => ?_)
      · have h := it_f h c42
        exact hk40 u41.2 _ _ _ h hP hD hS (lv_sub hl [0] rfl)
      · have h := it_t h c42
        refine lv_iconst (v := 0) hx hb dX12_readsCondition_81 (by decide) ?_
        exact RT 0 u41.2 _ _ _ _ h (by decide +kernel) hP hD hS dX12_readsCondition_82
    · have h := it_t h c40
      refine lv_bipush (v := 10) hx hb dX12_readsCondition_68 (by decide) ?_
      refine lv_goto (tgt := 75) hx hb dX12_readsCondition_70 (by decide) ?_
      obtain ⟨u43, hc, h⟩ := bd_el h
      refine ct_iA (w1 := cw_X12 E q0 u43.2) X hP hD hS (va_runV (C := RX12) (As := [.int 10]) (rest := []) ⟨hx, hb, hml, hown, hg⟩ (c_X12_opens l E q0 H.size S0 10 u43 hc) (cwV 1 hg (gwV wm_X12_190 wi_X12_opens wsl_X12_opens wini_X12 wco_X12_opens) rfl rfl rfl (by decide +kernel) ⟨Nat.le_of_ble_eq_true rfl, Nat.le_of_ble_eq_true rfl⟩) ⟨ct_blind, ct_rv X.1 hP 0 rfl rfl, ct_preA X hP hD hS _⟩ rfl rfl hl.1 rfl (lv_room (Nat.le_of_ble_eq_true rfl)) dX12_readsCondition_75 ⟨Nat.zero_le _, Nat.zero_le _⟩) (fun H locs hP hD hS => ?_)
      refine lv_if_ne (tgt := 40) hx hb dX12_readsCondition_78 (by decide) (fun c44 => ?_) (fun c44 => ?_)
      · have h := it_f h c44
        exact hk40 u43.2 _ _ _ h hP hD hS (lv_sub hl [0] rfl)
      · have h := it_t h c44
        refine lv_iconst (v := 0) hx hb dX12_readsCondition_81 (by decide) ?_
        exact RT 0 u43.2 _ _ _ _ h (by decide +kernel) hP hD hS dX12_readsCondition_82
  have N180 : ∀ (k40 : Gr → Option (Int32 × Gr)) (hk40 : ∀ (S0 : Gr) (H : Heap) (locs : List Loc) (ls : Array Slot), k40 S0 = some Rv → va_P E.1 vwCl (cw_X12 E q0 S0) H → va_D A (cw_X12 E q0 S0) → va_S A s.heap H locs → lv_has ls 1 [(0, .ref (q0 0))] → W p l e ({ frames := 6, cells := 0, slots := 0, locals := 125 } : Room) s m ar below meth c H locs 0 0 QM (F0 m 40 ls [])) (S0 : Gr) (H : Heap) (locs : List Loc) (ls : Array Slot), f_X12_readsCondition_n180 k40 S0 = some Rv → va_P E.1 vwCl (cw_X12 E q0 S0) H → va_D A (cw_X12 E q0 S0) → va_S A s.heap H locs → lv_has ls 1 [(0, .ref (q0 0))] → W p l e ({ frames := 6, cells := 0, slots := 0, locals := 125 } : Room) s m ar below meth c H locs 0 0 QM (F0 m 180 ls []) := by
    intro k40 hk40 S0 H locs ls h hP hD hS hl
    refine lv_aload_n hx hb dX12_readsCondition_180 rfl (lv_at hl 0 rfl) ?_
    refine lv_aload_n hx hb dX12_readsCondition_181 rfl (lv_at hl 0 rfl) ?_
    obtain ⟨u27, hc, h⟩ := bd_el h
    refine ct_iA (w1 := cw_X12 E q0 S0) X hP hD hS (va_runV (C := RX12) (As := []) (rest := [.ref (q0 0)]) ⟨hx, hb, hml, hown, hg⟩ (c_X12_here l E q0 H.size S0 u27 hc) (cwV 0 hg (gwV wm_X12_156 wi_X12_here wsl_X12_here wini_X12 wco_X12_here) rfl rfl rfl (by decide +kernel) ⟨Nat.le_of_ble_eq_true rfl, Nat.le_of_ble_eq_true rfl⟩) ⟨ct_blind, ct_rv X.1 hP 0 rfl rfl, ct_preA X hP hD hS _⟩ rfl rfl hl.1 rfl (lv_room (Nat.le_of_ble_eq_true rfl)) dX12_readsCondition_182 ⟨Nat.zero_le _, Nat.zero_le _⟩) (fun H locs hP hD hS => ?_)
    refine lv_bipush (v := 124) hx hb dX12_readsCondition_185 (by decide) ?_
    refine lv_icmp_ne (tgt := 194) hx hb dX12_readsCondition_187 (by decide) (fun c28 => ?_) (fun c28 => ?_)
    · have h := it_f h c28
      refine lv_iconst (v := 0) hx hb dX12_readsCondition_194 (by decide) ?_
      obtain ⟨u29, hc, h⟩ := bd_el h
      refine ct_vA (w1 := cw_X12 E q0 u29) X hP hD hS (va_runV (C := RX12) (As := [.int 0]) (rest := []) ⟨hx, hb, hml, hown, hg⟩ (c_X12_lands l E q0 H.size S0 0 u29 hc) (cwV 1 hg (gwV wm_X12_221 wi_X12_lands wsl_X12_lands wini_X12 wco_X12_lands) rfl rfl rfl (by decide +kernel) ⟨Nat.le_of_ble_eq_true rfl, Nat.le_of_ble_eq_true rfl⟩) ⟨ct_blind, ct_rv X.1 hP 0 rfl rfl, ct_preA X hP hD hS _⟩ rfl rfl hl.1 rfl (lv_room (Nat.le_of_ble_eq_true rfl)) dX12_readsCondition_195 ⟨Nat.zero_le _, Nat.zero_le _⟩) (fun H locs hP hD hS => ?_)
      refine lv_aload_n hx hb dX12_readsCondition_198 rfl (lv_at hl 0 rfl) ?_
      refine lv_aload_n hx hb dX12_readsCondition_199 rfl (lv_at hl 0 rfl) ?_
      obtain ⟨u30, hc, h⟩ := bd_el h
      refine ct_iA (w1 := cw_X12 E q0 u29) X hP hD hS (va_runV (C := RX12) (As := []) (rest := [.ref (q0 0)]) ⟨hx, hb, hml, hown, hg⟩ (c_X12_here l E q0 H.size u29 u30 hc) (cwV 0 hg (gwV wm_X12_156 wi_X12_here wsl_X12_here wini_X12 wco_X12_here) rfl rfl rfl (by decide +kernel) ⟨Nat.le_of_ble_eq_true rfl, Nat.le_of_ble_eq_true rfl⟩) ⟨ct_blind, ct_rv X.1 hP 0 rfl rfl, ct_preA X hP hD hS _⟩ rfl rfl hl.1 rfl (lv_room (Nat.le_of_ble_eq_true rfl)) dX12_readsCondition_200 ⟨Nat.zero_le _, Nat.zero_le _⟩) (fun H locs hP hD hS => ?_)
      refine lv_bipush (v := 38) hx hb dX12_readsCondition_203 (by decide) ?_
      refine lv_icmp_ne (tgt := 213) hx hb dX12_readsCondition_205 (by decide) (fun c31 => ?_) (fun c31 => ?_)
      · have h := it_f h c31
        refine lv_bipush (v := 12) hx hb dX12_readsCondition_213 (by decide) ?_
        obtain ⟨u32, hc, h⟩ := bd_el h
        refine ct_vA (w1 := cw_X12 E q0 u32) X hP hD hS (va_runV (C := RX12) (As := [.int 12]) (rest := []) ⟨hx, hb, hml, hown, hg⟩ (c_X12_jumps l E q0 H.size u29 12 u32 hc) (cwV 1 hg (gwV wm_X12_224 wi_X12_jumps wsl_X12_jumps wini_X12 wco_X12_jumps) rfl rfl rfl (by decide +kernel) ⟨Nat.le_of_ble_eq_true rfl, Nat.le_of_ble_eq_true rfl⟩) ⟨ct_blind, ct_rv X.1 hP 0 rfl rfl, ct_preA X hP hD hS _⟩ rfl rfl hl.1 rfl (lv_room (Nat.le_of_ble_eq_true rfl)) dX12_readsCondition_215 ⟨Nat.zero_le _, Nat.zero_le _⟩) (fun H locs hP hD hS => ?_)
        refine lv_goto (tgt := 40) hx hb dX12_readsCondition_218 (by decide) ?_
        exact hk40 u32 _ _ _ h hP hD hS (lv_sub hl [0] rfl)
      · have h := it_t h c31
        refine lv_bipush (v := 11) hx hb dX12_readsCondition_208 (by decide) ?_
        refine lv_goto (tgt := 215) hx hb dX12_readsCondition_210 (by decide) ?_
        obtain ⟨u33, hc, h⟩ := bd_el h
        refine ct_vA (w1 := cw_X12 E q0 u33) X hP hD hS (va_runV (C := RX12) (As := [.int 11]) (rest := []) ⟨hx, hb, hml, hown, hg⟩ (c_X12_jumps l E q0 H.size u29 11 u33 hc) (cwV 1 hg (gwV wm_X12_224 wi_X12_jumps wsl_X12_jumps wini_X12 wco_X12_jumps) rfl rfl rfl (by decide +kernel) ⟨Nat.le_of_ble_eq_true rfl, Nat.le_of_ble_eq_true rfl⟩) ⟨ct_blind, ct_rv X.1 hP 0 rfl rfl, ct_preA X hP hD hS _⟩ rfl rfl hl.1 rfl (lv_room (Nat.le_of_ble_eq_true rfl)) dX12_readsCondition_215 ⟨Nat.zero_le _, Nat.zero_le _⟩) (fun H locs hP hD hS => ?_)
        refine lv_goto (tgt := 40) hx hb dX12_readsCondition_218 (by decide) ?_
        exact hk40 u33 _ _ _ h hP hD hS (lv_sub hl [0] rfl)
    · have h := it_t h c28
      refine lv_iconst (v := 1) hx hb dX12_readsCondition_190 (by decide) ?_
      refine lv_goto (tgt := 195) hx hb dX12_readsCondition_191 (by decide) ?_
      obtain ⟨u34, hc, h⟩ := bd_el h
      refine ct_vA (w1 := cw_X12 E q0 u34) X hP hD hS (va_runV (C := RX12) (As := [.int 1]) (rest := []) ⟨hx, hb, hml, hown, hg⟩ (c_X12_lands l E q0 H.size S0 1 u34 hc) (cwV 1 hg (gwV wm_X12_221 wi_X12_lands wsl_X12_lands wini_X12 wco_X12_lands) rfl rfl rfl (by decide +kernel) ⟨Nat.le_of_ble_eq_true rfl, Nat.le_of_ble_eq_true rfl⟩) ⟨ct_blind, ct_rv X.1 hP 0 rfl rfl, ct_preA X hP hD hS _⟩ rfl rfl hl.1 rfl (lv_room (Nat.le_of_ble_eq_true rfl)) dX12_readsCondition_195 ⟨Nat.zero_le _, Nat.zero_le _⟩) (fun H locs hP hD hS => ?_)
      refine lv_aload_n hx hb dX12_readsCondition_198 rfl (lv_at hl 0 rfl) ?_
      refine lv_aload_n hx hb dX12_readsCondition_199 rfl (lv_at hl 0 rfl) ?_
      obtain ⟨u35, hc, h⟩ := bd_el h
      refine ct_iA (w1 := cw_X12 E q0 u34) X hP hD hS (va_runV (C := RX12) (As := []) (rest := [.ref (q0 0)]) ⟨hx, hb, hml, hown, hg⟩ (c_X12_here l E q0 H.size u34 u35 hc) (cwV 0 hg (gwV wm_X12_156 wi_X12_here wsl_X12_here wini_X12 wco_X12_here) rfl rfl rfl (by decide +kernel) ⟨Nat.le_of_ble_eq_true rfl, Nat.le_of_ble_eq_true rfl⟩) ⟨ct_blind, ct_rv X.1 hP 0 rfl rfl, ct_preA X hP hD hS _⟩ rfl rfl hl.1 rfl (lv_room (Nat.le_of_ble_eq_true rfl)) dX12_readsCondition_200 ⟨Nat.zero_le _, Nat.zero_le _⟩) (fun H locs hP hD hS => ?_)
      refine lv_bipush (v := 38) hx hb dX12_readsCondition_203 (by decide) ?_
      refine lv_icmp_ne (tgt := 213) hx hb dX12_readsCondition_205 (by decide) (fun c36 => ?_) (fun c36 => ?_)
      · have h := it_f h c36
        refine lv_bipush (v := 12) hx hb dX12_readsCondition_213 (by decide) ?_
        obtain ⟨u37, hc, h⟩ := bd_el h
        refine ct_vA (w1 := cw_X12 E q0 u37) X hP hD hS (va_runV (C := RX12) (As := [.int 12]) (rest := []) ⟨hx, hb, hml, hown, hg⟩ (c_X12_jumps l E q0 H.size u34 12 u37 hc) (cwV 1 hg (gwV wm_X12_224 wi_X12_jumps wsl_X12_jumps wini_X12 wco_X12_jumps) rfl rfl rfl (by decide +kernel) ⟨Nat.le_of_ble_eq_true rfl, Nat.le_of_ble_eq_true rfl⟩) ⟨ct_blind, ct_rv X.1 hP 0 rfl rfl, ct_preA X hP hD hS _⟩ rfl rfl hl.1 rfl (lv_room (Nat.le_of_ble_eq_true rfl)) dX12_readsCondition_215 ⟨Nat.zero_le _, Nat.zero_le _⟩) (fun H locs hP hD hS => ?_)
        refine lv_goto (tgt := 40) hx hb dX12_readsCondition_218 (by decide) ?_
        exact hk40 u37 _ _ _ h hP hD hS (lv_sub hl [0] rfl)
      · have h := it_t h c36
        refine lv_bipush (v := 11) hx hb dX12_readsCondition_208 (by decide) ?_
        refine lv_goto (tgt := 215) hx hb dX12_readsCondition_210 (by decide) ?_
        obtain ⟨u38, hc, h⟩ := bd_el h
        refine ct_vA (w1 := cw_X12 E q0 u38) X hP hD hS (va_runV (C := RX12) (As := [.int 11]) (rest := []) ⟨hx, hb, hml, hown, hg⟩ (c_X12_jumps l E q0 H.size u34 11 u38 hc) (cwV 1 hg (gwV wm_X12_224 wi_X12_jumps wsl_X12_jumps wini_X12 wco_X12_jumps) rfl rfl rfl (by decide +kernel) ⟨Nat.le_of_ble_eq_true rfl, Nat.le_of_ble_eq_true rfl⟩) ⟨ct_blind, ct_rv X.1 hP 0 rfl rfl, ct_preA X hP hD hS _⟩ rfl rfl hl.1 rfl (lv_room (Nat.le_of_ble_eq_true rfl)) dX12_readsCondition_215 ⟨Nat.zero_le _, Nat.zero_le _⟩) (fun H locs hP hD hS => ?_)
        refine lv_goto (tgt := 40) hx hb dX12_readsCondition_218 (by decide) ?_
        exact hk40 u38 _ _ _ h hP hD hS (lv_sub hl [0] rfl)
  have N92 : ∀ (k40 : Gr → Option (Int32 × Gr)) (hk40 : ∀ (S0 : Gr) (H : Heap) (locs : List Loc) (ls : Array Slot), k40 S0 = some Rv → va_P E.1 vwCl (cw_X12 E q0 S0) H → va_D A (cw_X12 E q0 S0) → va_S A s.heap H locs → lv_has ls 1 [(0, .ref (q0 0))] → W p l e ({ frames := 6, cells := 0, slots := 0, locals := 125 } : Room) s m ar below meth c H locs 0 0 QM (F0 m 40 ls [])) (n : Nat) (S0 : Gr) (H : Heap) (locs : List Loc) (ls : Array Slot), f_X12_readsCondition_n92 k40 n S0 = some Rv → va_P E.1 vwCl (cw_X12 E q0 S0) H → va_D A (cw_X12 E q0 S0) → va_S A s.heap H locs → lv_has ls 1 [(0, .ref (q0 0))] → W p l e ({ frames := 6, cells := 0, slots := 0, locals := 125 } : Room) s m ar below meth c H locs 0 0 QM (F0 m 92 ls []) := by
    intro k40 hk40 n
    induction n with
    | zero => intro S0 H locs ls h; exact nn_el h
    | succ n ih =>
      intro S0 H locs ls h hP hD hS hl
      refine lv_aload_n hx hb dX12_readsCondition_92 rfl (lv_at hl 0 rfl) ?_
      obtain ⟨u14, hc, h⟩ := bd_el h
      refine ct_iA (w1 := cw_X12 E q0 S0) X hP hD hS (va_runV (C := RX12) (As := []) (rest := []) ⟨hx, hb, hml, hown, hg⟩ (c_X12_here l E q0 H.size S0 u14 hc) (cwV 0 hg (gwV wm_X12_156 wi_X12_here wsl_X12_here wini_X12 wco_X12_here) rfl rfl rfl (by decide +kernel) ⟨Nat.le_of_ble_eq_true rfl, Nat.le_of_ble_eq_true rfl⟩) ⟨ct_blind, ct_rv X.1 hP 0 rfl rfl, ct_preA X hP hD hS _⟩ rfl rfl hl.1 rfl (lv_room (Nat.le_of_ble_eq_true rfl)) dX12_readsCondition_93 ⟨Nat.zero_le _, Nat.zero_le _⟩) (fun H locs hP hD hS => ?_)
      refine lv_bipush (v := 41) hx hb dX12_readsCondition_96 (by decide) ?_
      refine lv_icmp_ne (tgt := 152) hx hb dX12_readsCondition_98 (by decide) (fun c15 => ?_) (fun c15 => ?_)
      · have h := it_f h c15
        refine lv_aload_n hx hb dX12_readsCondition_152 rfl (lv_at hl 0 rfl) ?_
        obtain ⟨u16, hc, h⟩ := bd_el h
        refine ct_iA (w1 := cw_X12 E q0 S0) X hP hD hS (va_runV (C := RX12) (As := []) (rest := []) ⟨hx, hb, hml, hown, hg⟩ (c_X12_here l E q0 H.size S0 u16 hc) (cwV 0 hg (gwV wm_X12_156 wi_X12_here wsl_X12_here wini_X12 wco_X12_here) rfl rfl rfl (by decide +kernel) ⟨Nat.le_of_ble_eq_true rfl, Nat.le_of_ble_eq_true rfl⟩) ⟨ct_blind, ct_rv X.1 hP 0 rfl rfl, ct_preA X hP hD hS _⟩ rfl rfl hl.1 rfl (lv_room (Nat.le_of_ble_eq_true rfl)) dX12_readsCondition_153 ⟨Nat.zero_le _, Nat.zero_le _⟩) (fun H locs hP hD hS => ?_)
        refine lv_bipush (v := 38) hx hb dX12_readsCondition_156 (by decide) ?_
        refine lv_icmp_eq (tgt := 180) hx hb dX12_readsCondition_158 (by decide) (fun c17 => ?_) (fun c17 => ?_)
        · have h := it_t h c17
          exact N180 k40 hk40 S0 _ _ _ h hP hD hS (lv_sub hl [0] rfl)
        · have h := it_f h c17
          refine lv_aload_n hx hb dX12_readsCondition_161 rfl (lv_at hl 0 rfl) ?_
          obtain ⟨u18, hc, h⟩ := bd_el h
          refine ct_iA (w1 := cw_X12 E q0 S0) X hP hD hS (va_runV (C := RX12) (As := []) (rest := []) ⟨hx, hb, hml, hown, hg⟩ (c_X12_here l E q0 H.size S0 u18 hc) (cwV 0 hg (gwV wm_X12_156 wi_X12_here wsl_X12_here wini_X12 wco_X12_here) rfl rfl rfl (by decide +kernel) ⟨Nat.le_of_ble_eq_true rfl, Nat.le_of_ble_eq_true rfl⟩) ⟨ct_blind, ct_rv X.1 hP 0 rfl rfl, ct_preA X hP hD hS _⟩ rfl rfl hl.1 rfl (lv_room (Nat.le_of_ble_eq_true rfl)) dX12_readsCondition_162 ⟨Nat.zero_le _, Nat.zero_le _⟩) (fun H locs hP hD hS => ?_)
          refine lv_bipush (v := 124) hx hb dX12_readsCondition_165 (by decide) ?_
          refine lv_icmp_eq (tgt := 180) hx hb dX12_readsCondition_167 (by decide) (fun c19 => ?_) (fun c19 => ?_)
          · have h := it_t h c19
            exact N180 k40 hk40 S0 _ _ _ h hP hD hS (lv_sub hl [0] rfl)
          · have h := it_f h c19
            refine lv_aload_n hx hb dX12_readsCondition_170 rfl (lv_at hl 0 rfl) ?_
            refine lv_iconst (v := 1) hx hb dX12_readsCondition_171 (by decide) ?_
            refine lv_aload_n hx hb dX12_readsCondition_172 rfl (lv_at hl 0 rfl) ?_
            refine va_get (D := E.1) (ci := 11) (v := .int (S0.1 9)) (C := RX12) (T := TX12) (N := 57) hx hb hg in_X12 hown X.1 hP 0 rfl rfl 9 (by decide) (hg _ wf_X12_150) (fun _ h9 => h9) rfl dX12_readsCondition_173 ?_
            obtain ⟨u20, hc, h⟩ := bd_el h
            refine ct_iA (w1 := cw_X12 E q0 u20.2) X hP hD hS (va_runV (C := RX12) (As := [.int 1, .int (S0.1 9)]) (rest := []) ⟨hx, hb, hml, hown, hg⟩ (c_X12_wrongAt l E q0 H.size S0 1 (S0.1 9) u20 hc) (cwV 2 hg (gwV wm_X12_163 wi_X12_wrongAt wsl_X12_wrongAt wini_X12 wco_X12_wrongAt) rfl rfl rfl (by decide +kernel) ⟨Nat.le_of_ble_eq_true rfl, Nat.le_of_ble_eq_true rfl⟩) ⟨ct_blind, ct_rv X.1 hP 0 rfl rfl, ct_preA X hP hD hS _⟩ rfl rfl hl.1 rfl (lv_room (Nat.le_of_ble_eq_true rfl)) dX12_readsCondition_176 ⟨Nat.zero_le _, Nat.zero_le _⟩) (fun H locs hP hD hS => ?_)
            obtain ⟨hn1, -, h⟩ := zb_el h
            exact RT u20.1 u20.2 _ _ _ _ h hn1 hP hD hS dX12_readsCondition_179
      · have h := it_t h c15
        refine lv_aload_n hx hb dX12_readsCondition_101 rfl (lv_at hl 0 rfl) ?_
        refine lv_iconst (v := 1) hx hb dX12_readsCondition_102 (by decide) ?_
        obtain ⟨u21, hc, h⟩ := bd_el h
        refine ct_vA (w1 := cw_X12 E q0 u21) X hP hD hS (va_runV (C := RX12) (As := [.int 1]) (rest := []) ⟨hx, hb, hml, hown, hg⟩ (c_X12_lands l E q0 H.size S0 1 u21 hc) (cwV 1 hg (gwV wm_X12_221 wi_X12_lands wsl_X12_lands wini_X12 wco_X12_lands) rfl rfl rfl (by decide +kernel) ⟨Nat.le_of_ble_eq_true rfl, Nat.le_of_ble_eq_true rfl⟩) ⟨ct_blind, ct_rv X.1 hP 0 rfl rfl, ct_preA X hP hD hS _⟩ rfl rfl hl.1 rfl (lv_room (Nat.le_of_ble_eq_true rfl)) dX12_readsCondition_103 ⟨Nat.zero_le _, Nat.zero_le _⟩) (fun H locs hP hD hS => ?_)
        refine lv_aload_n hx hb dX12_readsCondition_106 rfl (lv_at hl 0 rfl) ?_
        refine lv_aload_n hx hb dX12_readsCondition_107 rfl (lv_at hl 0 rfl) ?_
        refine va_get (D := E.1) (ci := 11) (v := .int (u21.1 15)) (C := RX12) (T := TX12) (N := 57) hx hb hg in_X12 hown X.1 hP 0 rfl rfl 15 (by decide) (hg _ wf_X12_180) (fun _ h9 => h9) rfl dX12_readsCondition_108 ?_
        refine lv_iconst (v := 1) hx hb dX12_readsCondition_111 (by decide) ?_
        refine lv_isub hx hb dX12_readsCondition_112 ?_
        obtain ⟨S0_22, eS, h⟩ := lt_el h
        refine va_put (D := E.1) (ci := 11) (v := .int ((u21.1 15) - 1)) (ty := .int) (C := RX12) (T := TX12) (N := 57) hx hb hg in_X12 tyX12 tyX12_ok nmX12 hown X.1 hP hD hS 0 rfl rfl 15 (by decide) (hg _ wf_X12_180) (fun _ h9 => h9) rfl (by decide +kernel) rfl rfl (Nat.le_of_ble_eq_true rfl) dX12_readsCondition_113 (fun H locs hP hD hS => ?_)
        have hP : va_P E.1 vwCl (cw_X12 E q0 S0_22) H := by rw [eS]; exact hP
        have hD : va_D A (cw_X12 E q0 S0_22) := by rw [eS]; exact hD
        clear eS
        refine lv_aload_n hx hb dX12_readsCondition_116 rfl (lv_at hl 0 rfl) ?_
        refine lv_aload_n hx hb dX12_readsCondition_117 rfl (lv_at hl 0 rfl) ?_
        refine va_get (D := E.1) (ci := 11) (v := .int (S0_22.1 13)) (C := RX12) (T := TX12) (N := 57) hx hb hg in_X12 hown X.1 hP 0 rfl rfl 13 (by decide) (hg _ wf_X12_177) (fun _ h9 => h9) rfl dX12_readsCondition_118 ?_
        refine lv_iconst (v := 1) hx hb dX12_readsCondition_121 (by decide) ?_
        refine lv_isub hx hb dX12_readsCondition_122 ?_
        obtain ⟨S0_23, eS, h⟩ := lt_el h
        refine va_put (D := E.1) (ci := 11) (v := .int ((S0_22.1 13) - 1)) (ty := .int) (C := RX12) (T := TX12) (N := 57) hx hb hg in_X12 tyX12 tyX12_ok nmX12 hown X.1 hP hD hS 0 rfl rfl 13 (by decide) (hg _ wf_X12_177) (fun _ h9 => h9) rfl (by decide +kernel) rfl rfl (Nat.le_of_ble_eq_true rfl) dX12_readsCondition_123 (fun H locs hP hD hS => ?_)
        have hP : va_P E.1 vwCl (cw_X12 E q0 S0_23) H := by rw [eS]; exact hP
        have hD : va_D A (cw_X12 E q0 S0_23) := by rw [eS]; exact hD
        clear eS
        refine lv_aload_n hx hb dX12_readsCondition_126 rfl (lv_at hl 0 rfl) ?_
        refine lv_aload_n hx hb dX12_readsCondition_127 rfl (lv_at hl 0 rfl) ?_
        refine va_get (D := E.1) (ci := 11) (v := .int (S0_23.1 9)) (C := RX12) (T := TX12) (N := 57) hx hb hg in_X12 hown X.1 hP 0 rfl rfl 9 (by decide) (hg _ wf_X12_150) (fun _ h9 => h9) rfl dX12_readsCondition_128 ?_
        refine lv_iconst (v := 1) hx hb dX12_readsCondition_131 (by decide) ?_
        refine lv_iadd hx hb dX12_readsCondition_132 ?_
        obtain ⟨S0_24, eS, h⟩ := lt_el h
        refine va_put (D := E.1) (ci := 11) (v := .int ((S0_23.1 9) + 1)) (ty := .int) (C := RX12) (T := TX12) (N := 57) hx hb hg in_X12 tyX12 tyX12_ok nmX12 hown X.1 hP hD hS 0 rfl rfl 9 (by decide) (hg _ wf_X12_150) (fun _ h9 => h9) rfl (by decide +kernel) rfl rfl (Nat.le_of_ble_eq_true rfl) dX12_readsCondition_133 (fun H locs hP hD hS => ?_)
        have hP : va_P E.1 vwCl (cw_X12 E q0 S0_24) H := by rw [eS]; exact hP
        have hD : va_D A (cw_X12 E q0 S0_24) := by rw [eS]; exact hD
        clear eS
        refine lv_aload_n hx hb dX12_readsCondition_136 rfl (lv_at hl 0 rfl) ?_
        refine va_get (D := E.1) (ci := 11) (v := .int (S0_24.1 15)) (C := RX12) (T := TX12) (N := 57) hx hb hg in_X12 hown X.1 hP 0 rfl rfl 15 (by decide) (hg _ wf_X12_180) (fun _ h9 => h9) rfl dX12_readsCondition_137 ?_
        refine lv_if_ne (tgt := 145) hx hb dX12_readsCondition_140 (by decide) (fun c25 => ?_) (fun c25 => ?_)
        · have h := it_f h c25
          refine lv_aload_n hx hb dX12_readsCondition_145 rfl (lv_at hl 0 rfl) ?_
          obtain ⟨u26, hc, h⟩ := bd_el h
          refine ct_vA (w1 := cw_X12 E q0 u26) X hP hD hS (va_runV (C := RX12) (As := []) (rest := []) ⟨hx, hb, hml, hown, hg⟩ (c_X12_endsPiece l E q0 H.size S0_24 u26 hc) (cwV 0 hg (gwV wm_X12_215 wi_X12_endsPiece wsl_X12_endsPiece wini_X12 wco_X12_endsPiece) rfl rfl rfl (by decide +kernel) ⟨Nat.le_of_ble_eq_true rfl, Nat.le_of_ble_eq_true rfl⟩) ⟨ct_blind, ct_rv X.1 hP 0 rfl rfl, ct_preA X hP hD hS _⟩ rfl rfl hl.1 rfl (lv_room (Nat.le_of_ble_eq_true rfl)) dX12_readsCondition_146 ⟨Nat.zero_le _, Nat.zero_le _⟩) (fun H locs hP hD hS => ?_)
          refine lv_goto (tgt := 92) hx hb dX12_readsCondition_149 (by decide) ?_
          exact ih u26 _ _ _ h hP hD hS (lv_sub hl [0] rfl)
        · have h := it_t h c25
          refine lv_iconst (v := 1) hx hb dX12_readsCondition_143 (by decide) ?_
          exact RT 1 S0_24 _ _ _ _ h (by decide +kernel) hP hD hS dX12_readsCondition_144
  have N40 : ∀ (n : Nat) (S0 : Gr) (H : Heap) (locs : List Loc) (ls : Array Slot), f_X12_readsCondition_n40 n S0 = some Rv → va_P E.1 vwCl (cw_X12 E q0 S0) H → va_D A (cw_X12 E q0 S0) → va_S A s.heap H locs → lv_has ls 1 [(0, .ref (q0 0))] → W p l e ({ frames := 6, cells := 0, slots := 0, locals := 125 } : Room) s m ar below meth c H locs 0 0 QM (F0 m 40 ls []) := by
    intro n
    induction n with
    | zero => intro S0 H locs ls h; exact nn_el h
    | succ n ih =>
      intro S0 H locs ls h hP hD hS hl
      refine lv_aload_n hx hb dX12_readsCondition_40 rfl (lv_at hl 0 rfl) ?_
      obtain ⟨u8, hc, h⟩ := bd_el h
      refine ct_iA (w1 := cw_X12 E q0 S0) X hP hD hS (va_runV (C := RX12) (As := []) (rest := []) ⟨hx, hb, hml, hown, hg⟩ (c_X12_here l E q0 H.size S0 u8 hc) (cwV 0 hg (gwV wm_X12_156 wi_X12_here wsl_X12_here wini_X12 wco_X12_here) rfl rfl rfl (by decide +kernel) ⟨Nat.le_of_ble_eq_true rfl, Nat.le_of_ble_eq_true rfl⟩) ⟨ct_blind, ct_rv X.1 hP 0 rfl rfl, ct_preA X hP hD hS _⟩ rfl rfl hl.1 rfl (lv_room (Nat.le_of_ble_eq_true rfl)) dX12_readsCondition_41 ⟨Nat.zero_le _, Nat.zero_le _⟩) (fun H locs hP hD hS => ?_)
      refine lv_bipush (v := 33) hx hb dX12_readsCondition_44 (by decide) ?_
      refine lv_icmp_eq (tgt := 58) hx hb dX12_readsCondition_46 (by decide) (fun c9 => ?_) (fun c9 => ?_)
      · have h := it_t h c9
        exact N58 (f_X12_readsCondition_n40 n) ih S0 _ _ _ h hP hD hS (lv_sub hl [0] rfl)
      · have h := it_f h c9
        refine lv_aload_n hx hb dX12_readsCondition_49 rfl (lv_at hl 0 rfl) ?_
        obtain ⟨u10, hc, h⟩ := bd_el h
        refine ct_iA (w1 := cw_X12 E q0 S0) X hP hD hS (va_runV (C := RX12) (As := []) (rest := []) ⟨hx, hb, hml, hown, hg⟩ (c_X12_here l E q0 H.size S0 u10 hc) (cwV 0 hg (gwV wm_X12_156 wi_X12_here wsl_X12_here wini_X12 wco_X12_here) rfl rfl rfl (by decide +kernel) ⟨Nat.le_of_ble_eq_true rfl, Nat.le_of_ble_eq_true rfl⟩) ⟨ct_blind, ct_rv X.1 hP 0 rfl rfl, ct_preA X hP hD hS _⟩ rfl rfl hl.1 rfl (lv_room (Nat.le_of_ble_eq_true rfl)) dX12_readsCondition_50 ⟨Nat.zero_le _, Nat.zero_le _⟩) (fun H locs hP hD hS => ?_)
        refine lv_bipush (v := 40) hx hb dX12_readsCondition_53 (by decide) ?_
        refine lv_icmp_ne (tgt := 83) hx hb dX12_readsCondition_55 (by decide) (fun c11 => ?_) (fun c11 => ?_)
        · have h := it_f h c11
          refine lv_aload_n hx hb dX12_readsCondition_83 rfl (lv_at hl 0 rfl) ?_
          obtain ⟨u12, hc, h⟩ := bd_el h
          refine ct_iA (w1 := cw_X12 E q0 u12.2) X hP hD hS (va_runV (C := RX12) (As := []) (rest := []) ⟨hx, hb, hml, hown, hg⟩ (c_X12_readsCompared l E q0 H.size S0 u12 hc) (cwV 0 hg (gwV wm_X12_218 wi_X12_readsCompared wsl_X12_readsCompared wini_X12 wco_X12_readsCompared) rfl rfl rfl (by decide +kernel) ⟨Nat.le_of_ble_eq_true rfl, Nat.le_of_ble_eq_true rfl⟩) ⟨ct_blind, ct_rv X.1 hP 0 rfl rfl, ct_preA X hP hD hS _⟩ rfl rfl hl.1 rfl (lv_room (Nat.le_of_ble_eq_true rfl)) dX12_readsCondition_84 ⟨Nat.zero_le _, Nat.zero_le _⟩) (fun H locs hP hD hS => ?_)
          refine lv_if_ne (tgt := 92) hx hb dX12_readsCondition_87 (by decide) (fun c13 => ?_) (fun c13 => ?_)
          · have h := it_f h c13
            exact N92 (f_X12_readsCondition_n40 n) ih fu u12.2 _ _ _ h hP hD hS (lv_sub hl [0] rfl)
          · have h := it_t h c13
            refine lv_iconst (v := 0) hx hb dX12_readsCondition_90 (by decide) ?_
            exact RT 0 u12.2 _ _ _ _ h (by decide +kernel) hP hD hS dX12_readsCondition_91
        · have h := it_t h c11
          exact N58 (f_X12_readsCondition_n40 n) ih S0 _ _ _ h hP hD hS (lv_sub hl [0] rfl)
  obtain ⟨H, eH⟩ : ∃ z, z = s.heap := ⟨_, rfl⟩
  rw [← eH]
  have hP : va_P E.1 vwCl (cw_X12 E q0 S0) H := by rw [eH]; exact hP
  have hS : va_S A s.heap H [] := by rw [eH]; exact hS
  clear eH
  obtain ⟨locs, el⟩ : ∃ z : List Loc, z = [] := ⟨_, rfl⟩
  rw [← el] at hS ⊢
  clear el
  refine lv_aload_n hx hb dX12_readsCondition_0 rfl (lv_at hl 0 rfl) ?_
  obtain ⟨u1, hc, h⟩ := bd_el h
  refine ct_iA (w1 := cw_X12 E q0 S0) X hP hD hS (va_runV (C := RX12) (As := []) (rest := []) ⟨hx, hb, hml, hown, hg⟩ (c_X12_here l E q0 H.size S0 u1 hc) (cwV 0 hg (gwV wm_X12_156 wi_X12_here wsl_X12_here wini_X12 wco_X12_here) rfl rfl rfl (by decide +kernel) ⟨Nat.le_of_ble_eq_true rfl, Nat.le_of_ble_eq_true rfl⟩) ⟨ct_blind, ct_rv X.1 hP 0 rfl rfl, ct_preA X hP hD hS _⟩ rfl rfl hl.1 rfl (lv_room (Nat.le_of_ble_eq_true rfl)) dX12_readsCondition_1 ⟨Nat.zero_le _, Nat.zero_le _⟩) (fun H locs hP hD hS => ?_)
  refine lv_bipush (v := 40) hx hb dX12_readsCondition_4 (by decide) ?_
  refine lv_icmp_eq (tgt := 19) hx hb dX12_readsCondition_6 (by decide) (fun c2 => ?_) (fun c2 => ?_)
  · have h := it_t h c2
    refine lv_aload_n hx hb dX12_readsCondition_19 rfl (lv_at hl 0 rfl) ?_
    refine lv_iconst (v := 0) hx hb dX12_readsCondition_20 (by decide) ?_
    obtain ⟨S0_3, eS, h⟩ := lt_el h
    refine va_put (D := E.1) (ci := 11) (v := .int 0) (ty := .int) (C := RX12) (T := TX12) (N := 57) hx hb hg in_X12 tyX12 tyX12_ok nmX12 hown X.1 hP hD hS 0 rfl rfl 13 (by decide) (hg _ wf_X12_177) (fun _ h9 => h9) rfl (by decide +kernel) rfl rfl (Nat.le_of_ble_eq_true rfl) dX12_readsCondition_21 (fun H locs hP hD hS => ?_)
    have hP : va_P E.1 vwCl (cw_X12 E q0 S0_3) H := by rw [eS]; exact hP
    have hD : va_D A (cw_X12 E q0 S0_3) := by rw [eS]; exact hD
    clear eS
    refine lv_aload_n hx hb dX12_readsCondition_24 rfl (lv_at hl 0 rfl) ?_
    refine lv_iconst (v := 0) hx hb dX12_readsCondition_25 (by decide) ?_
    obtain ⟨S0_4, eS, h⟩ := lt_el h
    refine va_put (D := E.1) (ci := 11) (v := .int 0) (ty := .int) (C := RX12) (T := TX12) (N := 57) hx hb hg in_X12 tyX12 tyX12_ok nmX12 hown X.1 hP hD hS 0 rfl rfl 15 (by decide) (hg _ wf_X12_180) (fun _ h9 => h9) rfl (by decide +kernel) rfl rfl (Nat.le_of_ble_eq_true rfl) dX12_readsCondition_26 (fun H locs hP hD hS => ?_)
    have hP : va_P E.1 vwCl (cw_X12 E q0 S0_4) H := by rw [eS]; exact hP
    have hD : va_D A (cw_X12 E q0 S0_4) := by rw [eS]; exact hD
    clear eS
    refine lv_aload_n hx hb dX12_readsCondition_29 rfl (lv_at hl 0 rfl) ?_
    refine lv_bipush (v := 13) hx hb dX12_readsCondition_30 (by decide) ?_
    obtain ⟨u5, hc, h⟩ := bd_el h
    refine ct_iA (w1 := cw_X12 E q0 u5.2) X hP hD hS (va_runV (C := RX12) (As := [.int 13]) (rest := []) ⟨hx, hb, hml, hown, hg⟩ (c_X12_opens l E q0 H.size S0_4 13 u5 hc) (cwV 1 hg (gwV wm_X12_190 wi_X12_opens wsl_X12_opens wini_X12 wco_X12_opens) rfl rfl rfl (by decide +kernel) ⟨Nat.le_of_ble_eq_true rfl, Nat.le_of_ble_eq_true rfl⟩) ⟨ct_blind, ct_rv X.1 hP 0 rfl rfl, ct_preA X hP hD hS _⟩ rfl rfl hl.1 rfl (lv_room (Nat.le_of_ble_eq_true rfl)) dX12_readsCondition_32 ⟨Nat.zero_le _, Nat.zero_le _⟩) (fun H locs hP hD hS => ?_)
    refine lv_if_ne (tgt := 40) hx hb dX12_readsCondition_35 (by decide) (fun c6 => ?_) (fun c6 => ?_)
    · have h := it_f h c6
      exact N40 fu u5.2 _ _ _ h hP hD hS (lv_sub hl [0] rfl)
    · have h := it_t h c6
      refine lv_iconst (v := 0) hx hb dX12_readsCondition_38 (by decide) ?_
      exact RT 0 u5.2 _ _ _ _ h (by decide +kernel) hP hD hS dX12_readsCondition_39
  · have h := it_f h c2
    refine lv_aload_n hx hb dX12_readsCondition_9 rfl (lv_at hl 0 rfl) ?_
    refine lv_iconst (v := 1) hx hb dX12_readsCondition_10 (by decide) ?_
    refine lv_aload_n hx hb dX12_readsCondition_11 rfl (lv_at hl 0 rfl) ?_
    refine va_get (D := E.1) (ci := 11) (v := .int (S0.1 9)) (C := RX12) (T := TX12) (N := 57) hx hb hg in_X12 hown X.1 hP 0 rfl rfl 9 (by decide) (hg _ wf_X12_150) (fun _ h9 => h9) rfl dX12_readsCondition_12 ?_
    obtain ⟨u7, hc, h⟩ := bd_el h
    refine ct_iA (w1 := cw_X12 E q0 u7.2) X hP hD hS (va_runV (C := RX12) (As := [.int 1, .int (S0.1 9)]) (rest := []) ⟨hx, hb, hml, hown, hg⟩ (c_X12_wrongAt l E q0 H.size S0 1 (S0.1 9) u7 hc) (cwV 2 hg (gwV wm_X12_163 wi_X12_wrongAt wsl_X12_wrongAt wini_X12 wco_X12_wrongAt) rfl rfl rfl (by decide +kernel) ⟨Nat.le_of_ble_eq_true rfl, Nat.le_of_ble_eq_true rfl⟩) ⟨ct_blind, ct_rv X.1 hP 0 rfl rfl, ct_preA X hP hD hS _⟩ rfl rfl hl.1 rfl (lv_room (Nat.le_of_ble_eq_true rfl)) dX12_readsCondition_15 ⟨Nat.zero_le _, Nat.zero_le _⟩) (fun H locs hP hD hS => ?_)
    obtain ⟨hn1, -, h⟩ := zb_el h
    exact RT u7.1 u7.2 _ _ _ _ h hn1 hP hD hS dX12_readsCondition_18
theorem dX12_readsRule_0 : decode cX12_readsRule 0 = .ok (.aload_n 0, 1) := by decide +kernel
theorem dX12_readsRule_1 : decode cX12_readsRule 1 = .ok (.invokevirtual 156, 3) := by decide +kernel
theorem dX12_readsRule_4 : decode cX12_readsRule 4 = .ok (.istore_n 1, 1) := by decide +kernel
theorem dX12_readsRule_5 : decode cX12_readsRule 5 = .ok (.iload_n 1, 1) := by decide +kernel
theorem dX12_readsRule_6 : decode cX12_readsRule 6 = .ok (.bipush 116, 2) := by decide +kernel
theorem dX12_readsRule_8 : decode cX12_readsRule 8 = .ok (.if_icmp .eq 25, 3) := by decide +kernel
theorem dX12_readsRule_11 : decode cX12_readsRule 11 = .ok (.iload_n 1, 1) := by decide +kernel
theorem dX12_readsRule_12 : decode cX12_readsRule 12 = .ok (.bipush 109, 2) := by decide +kernel
theorem dX12_readsRule_14 : decode cX12_readsRule 14 = .ok (.if_icmp .eq 19, 3) := by decide +kernel
theorem dX12_readsRule_17 : decode cX12_readsRule 17 = .ok (.iload_n 1, 1) := by decide +kernel
theorem dX12_readsRule_18 : decode cX12_readsRule 18 = .ok (.bipush 120, 2) := by decide +kernel
theorem dX12_readsRule_20 : decode cX12_readsRule 20 = .ok (.if_icmp .eq 13, 3) := by decide +kernel
theorem dX12_readsRule_23 : decode cX12_readsRule 23 = .ok (.aload_n 0, 1) := by decide +kernel
theorem dX12_readsRule_24 : decode cX12_readsRule 24 = .ok (.iconst 1, 1) := by decide +kernel
theorem dX12_readsRule_25 : decode cX12_readsRule 25 = .ok (.aload_n 0, 1) := by decide +kernel
theorem dX12_readsRule_26 : decode cX12_readsRule 26 = .ok (.getfield 150, 3) := by decide +kernel
theorem dX12_readsRule_29 : decode cX12_readsRule 29 = .ok (.invokevirtual 163, 3) := by decide +kernel
theorem dX12_readsRule_32 : decode cX12_readsRule 32 = .ok (.ireturn, 1) := by decide +kernel
theorem dX12_readsRule_33 : decode cX12_readsRule 33 = .ok (.aload_n 0, 1) := by decide +kernel
theorem dX12_readsRule_34 : decode cX12_readsRule 34 = .ok (.getfield 227, 3) := by decide +kernel
theorem dX12_readsRule_37 : decode cX12_readsRule 37 = .ok (.bipush 16, 2) := by decide +kernel
theorem dX12_readsRule_39 : decode cX12_readsRule 39 = .ok (.if_icmp .ne 13, 3) := by decide +kernel
theorem dX12_readsRule_42 : decode cX12_readsRule 42 = .ok (.aload_n 0, 1) := by decide +kernel
theorem dX12_readsRule_43 : decode cX12_readsRule 43 = .ok (.iconst 4, 1) := by decide +kernel
theorem dX12_readsRule_44 : decode cX12_readsRule 44 = .ok (.aload_n 0, 1) := by decide +kernel
theorem dX12_readsRule_45 : decode cX12_readsRule 45 = .ok (.getfield 150, 3) := by decide +kernel
theorem dX12_readsRule_48 : decode cX12_readsRule 48 = .ok (.invokevirtual 163, 3) := by decide +kernel
theorem dX12_readsRule_51 : decode cX12_readsRule 51 = .ok (.ireturn, 1) := by decide +kernel
theorem dX12_readsRule_52 : decode cX12_readsRule 52 = .ok (.aload_n 0, 1) := by decide +kernel
theorem dX12_readsRule_53 : decode cX12_readsRule 53 = .ok (.getfield 35, 3) := by decide +kernel
theorem dX12_readsRule_56 : decode cX12_readsRule 56 = .ok (.aload_n 0, 1) := by decide +kernel
theorem dX12_readsRule_57 : decode cX12_readsRule 57 = .ok (.getfield 227, 3) := by decide +kernel
theorem dX12_readsRule_60 : decode cX12_readsRule 60 = .ok (.iload_n 1, 1) := by decide +kernel
theorem dX12_readsRule_61 : decode cX12_readsRule 61 = .ok (.iastore, 1) := by decide +kernel
theorem dX12_readsRule_62 : decode cX12_readsRule 62 = .ok (.aload_n 0, 1) := by decide +kernel
theorem dX12_readsRule_63 : decode cX12_readsRule 63 = .ok (.aload_n 0, 1) := by decide +kernel
theorem dX12_readsRule_64 : decode cX12_readsRule 64 = .ok (.getfield 150, 3) := by decide +kernel
theorem dX12_readsRule_67 : decode cX12_readsRule 67 = .ok (.iconst 1, 1) := by decide +kernel
theorem dX12_readsRule_68 : decode cX12_readsRule 68 = .ok (.iadd, 1) := by decide +kernel
theorem dX12_readsRule_69 : decode cX12_readsRule 69 = .ok (.putfield 150, 3) := by decide +kernel
theorem dX12_readsRule_72 : decode cX12_readsRule 72 = .ok (.aload_n 0, 1) := by decide +kernel
theorem dX12_readsRule_73 : decode cX12_readsRule 73 = .ok (.getfield 38, 3) := by decide +kernel
theorem dX12_readsRule_76 : decode cX12_readsRule 76 = .ok (.aload_n 0, 1) := by decide +kernel
theorem dX12_readsRule_77 : decode cX12_readsRule 77 = .ok (.getfield 227, 3) := by decide +kernel
theorem dX12_readsRule_80 : decode cX12_readsRule 80 = .ok (.aload_n 0, 1) := by decide +kernel
theorem dX12_readsRule_81 : decode cX12_readsRule 81 = .ok (.getfield 173, 3) := by decide +kernel
theorem dX12_readsRule_84 : decode cX12_readsRule 84 = .ok (.iastore, 1) := by decide +kernel
theorem dX12_readsRule_85 : decode cX12_readsRule 85 = .ok (.aload_n 0, 1) := by decide +kernel
theorem dX12_readsRule_86 : decode cX12_readsRule 86 = .ok (.iconst 0, 1) := by decide +kernel
theorem dX12_readsRule_87 : decode cX12_readsRule 87 = .ok (.putfield 177, 3) := by decide +kernel
theorem dX12_readsRule_90 : decode cX12_readsRule 90 = .ok (.aload_n 0, 1) := by decide +kernel
theorem dX12_readsRule_91 : decode cX12_readsRule 91 = .ok (.iconst 0, 1) := by decide +kernel
theorem dX12_readsRule_92 : decode cX12_readsRule 92 = .ok (.putfield 180, 3) := by decide +kernel
theorem dX12_readsRule_95 : decode cX12_readsRule 95 = .ok (.iload_n 1, 1) := by decide +kernel
theorem dX12_readsRule_96 : decode cX12_readsRule 96 = .ok (.bipush 120, 2) := by decide +kernel
theorem dX12_readsRule_98 : decode cX12_readsRule 98 = .ok (.if_icmp .eq 12, 3) := by decide +kernel
theorem dX12_readsRule_101 : decode cX12_readsRule 101 = .ok (.aload_n 0, 1) := by decide +kernel
theorem dX12_readsRule_102 : decode cX12_readsRule 102 = .ok (.invokevirtual 212, 3) := by decide +kernel
theorem dX12_readsRule_105 : decode cX12_readsRule 105 = .ok (.ifCond .ne 5, 3) := by decide +kernel
theorem dX12_readsRule_108 : decode cX12_readsRule 108 = .ok (.iconst 0, 1) := by decide +kernel
theorem dX12_readsRule_109 : decode cX12_readsRule 109 = .ok (.ireturn, 1) := by decide +kernel
theorem dX12_readsRule_110 : decode cX12_readsRule 110 = .ok (.aload_n 0, 1) := by decide +kernel
theorem dX12_readsRule_111 : decode cX12_readsRule 111 = .ok (.getfield 41, 3) := by decide +kernel
theorem dX12_readsRule_114 : decode cX12_readsRule 114 = .ok (.aload_n 0, 1) := by decide +kernel
theorem dX12_readsRule_115 : decode cX12_readsRule 115 = .ok (.getfield 227, 3) := by decide +kernel
theorem dX12_readsRule_118 : decode cX12_readsRule 118 = .ok (.aload_n 0, 1) := by decide +kernel
theorem dX12_readsRule_119 : decode cX12_readsRule 119 = .ok (.getfield 173, 3) := by decide +kernel
theorem dX12_readsRule_122 : decode cX12_readsRule 122 = .ok (.iastore, 1) := by decide +kernel
theorem dX12_readsRule_123 : decode cX12_readsRule 123 = .ok (.aload_n 0, 1) := by decide +kernel
theorem dX12_readsRule_124 : decode cX12_readsRule 124 = .ok (.invokevirtual 230, 3) := by decide +kernel
theorem dX12_readsRule_127 : decode cX12_readsRule 127 = .ok (.ifCond .ne 5, 3) := by decide +kernel
theorem dX12_readsRule_130 : decode cX12_readsRule 130 = .ok (.iconst 0, 1) := by decide +kernel
theorem dX12_readsRule_131 : decode cX12_readsRule 131 = .ok (.ireturn, 1) := by decide +kernel
theorem dX12_readsRule_132 : decode cX12_readsRule 132 = .ok (.aload_n 0, 1) := by decide +kernel
theorem dX12_readsRule_133 : decode cX12_readsRule 133 = .ok (.getfield 44, 3) := by decide +kernel
theorem dX12_readsRule_136 : decode cX12_readsRule 136 = .ok (.aload_n 0, 1) := by decide +kernel
theorem dX12_readsRule_137 : decode cX12_readsRule 137 = .ok (.getfield 227, 3) := by decide +kernel
theorem dX12_readsRule_140 : decode cX12_readsRule 140 = .ok (.aload_n 0, 1) := by decide +kernel
theorem dX12_readsRule_141 : decode cX12_readsRule 141 = .ok (.getfield 173, 3) := by decide +kernel
theorem dX12_readsRule_144 : decode cX12_readsRule 144 = .ok (.iastore, 1) := by decide +kernel
theorem dX12_readsRule_145 : decode cX12_readsRule 145 = .ok (.aload_n 0, 1) := by decide +kernel
theorem dX12_readsRule_146 : decode cX12_readsRule 146 = .ok (.aload_n 0, 1) := by decide +kernel
theorem dX12_readsRule_147 : decode cX12_readsRule 147 = .ok (.getfield 227, 3) := by decide +kernel
theorem dX12_readsRule_150 : decode cX12_readsRule 150 = .ok (.iconst 1, 1) := by decide +kernel
theorem dX12_readsRule_151 : decode cX12_readsRule 151 = .ok (.iadd, 1) := by decide +kernel
theorem dX12_readsRule_152 : decode cX12_readsRule 152 = .ok (.putfield 227, 3) := by decide +kernel
theorem dX12_readsRule_155 : decode cX12_readsRule 155 = .ok (.iconst 1, 1) := by decide +kernel
theorem dX12_readsRule_156 : decode cX12_readsRule 156 = .ok (.ireturn, 1) := by decide +kernel
def f_X12_readsRule_n110  (S0 : Gr) : Option (Int32 × Gr) := ck' 16 (S0.1 16) (lt' (sA S0 22 (Int32.toNatClampNeg (S0.1 16)) (S0.1 14)) fun S0_16 => (f_X12_readsCondition S0_16).bind fun u17 => if u17.1 = 0 then (some (0, u17.2)) else (ck' 16 (u17.2.1 16) (lt' (sA u17.2 23 (Int32.toNatClampNeg (u17.2.1 16)) (u17.2.1 14)) fun S0_19 => lt' (sI S0_19 16 ((S0_19.1 16) + 1)) fun S0_20 => some (1, S0_20))))
def f_X12_readsRule_n33  (S0 : Gr) (x1 : Int32) : Option (Int32 × Gr) := if (S0.1 16) = 16 then ((f_X12_wrongAt S0 4 (S0.1 9)).bind fun u15 => zb' u15.1 (some (u15.1, u15.2))) else (ck' 16 (S0.1 16) (lt' (sA S0 20 (Int32.toNatClampNeg (S0.1 16)) x1) fun S0_7 => lt' (sI S0_7 9 ((S0_7.1 9) + 1)) fun S0_8 => ck' 16 (S0_8.1 16) (lt' (sA S0_8 21 (Int32.toNatClampNeg (S0_8.1 16)) (S0_8.1 14)) fun S0_9 => lt' (sI S0_9 13 0) fun S0_10 => lt' (sI S0_10 15 0) fun S0_11 => if x1 = 120 then (f_X12_readsRule_n110 S0_11) else ((f_X12_readsSum S0_11).bind fun u13 => if u13.1 = 0 then (some (0, u13.2)) else (f_X12_readsRule_n110 u13.2)))))
def f_X12_readsRule (S0 : Gr) : Option (Int32 × Gr) := (f_X12_here S0).bind fun u1 => if u1 = 116 then (f_X12_readsRule_n33 S0 u1) else (if u1 = 109 then (f_X12_readsRule_n33 S0 u1) else (if u1 = 120 then (f_X12_readsRule_n33 S0 u1) else ((f_X12_wrongAt S0 1 (S0.1 9)).bind fun u5 => zb' u5.1 (some (u5.1, u5.2)))))
set_option maxHeartbeats 4000000 in
set_option maxRecDepth 100000 in
theorem c_X12_readsRule (l : Launch) (E : Ec) (q0 : Nat → Nat) (sz : Nat) (S0 : Gr) (Rv : Int32 × Gr) (h : f_X12_readsRule S0 = some Rv) : Met l yX12_readsRule (wsM (.code yX12_readsRule cX12_readsRule 2 (some .boolean))) ({ frames := 7, cells := 0, slots := 0, locals := 145 } : Room) (va_Pc [.ref (q0 0)] (ctP E (cw_X12 E q0 S0) sz)) (ctI E (cw_X12 E q0 S0) (cw_X12 E q0 Rv.2) sz Rv.1) 0 0 (va_A (cw_X12 E q0 S0) sz) := by
  refine ct_metI (by decide) (Nat.le_of_ble_eq_true rfl) ?_
  intro p e s m ar below meth c A QM hx hb hml hown hg X hP hD hS RET ls hl
  have hown : s.vm.findClass RX12 = some m.cls := hown
  have hl : lv_has ls 2 [(0, .ref (q0 0))] := hl
  have RT : ∀ (v : Int32) (S0 : Gr) (H : Heap) (locs : List Loc) (ls : Array Slot) (pc : Nat), some (v, S0) = some Rv → narrow .boolean (.int v) = .int v → va_P E.1 vwCl (cw_X12 E q0 S0) H → va_D A (cw_X12 E q0 S0) → va_S A s.heap H locs → decode cX12_readsRule pc = .ok (.ireturn, 1) → W p l e ({ frames := 7, cells := 0, slots := 0, locals := 145 } : Room) s m ar below meth c H locs 0 0 QM (F0 m pc ls [.int v]) := by
    intro v S0 H locs ls pc e hn hP hD hS d
    obtain rfl := sm_e e
    exact RET H locs pc ls hn hP hD hS d
  clear RET
  have N110 : ∀ (S0 : Gr) (H : Heap) (locs : List Loc) (ls : Array Slot), f_X12_readsRule_n110 S0 = some Rv → va_P E.1 vwCl (cw_X12 E q0 S0) H → va_D A (cw_X12 E q0 S0) → va_S A s.heap H locs → lv_has ls 2 [(0, .ref (q0 0))] → W p l e ({ frames := 7, cells := 0, slots := 0, locals := 145 } : Room) s m ar below meth c H locs 0 0 QM (F0 m 110 ls []) := by
    intro S0 H locs ls h hP hD hS hl
    refine lv_aload_n hx hb dX12_readsRule_110 rfl (lv_at hl 0 rfl) ?_
    refine va_get (D := E.1) (ci := 11) (v := .ref (q0 11)) (C := RX12) (T := TX12) (N := 57) hx hb hg in_X12 hown X.1 hP 0 rfl rfl 22 (by decide) (hg _ wf_X12_41) (fun _ h9 => h9) rfl dX12_readsRule_111 ?_
    refine lv_aload_n hx hb dX12_readsRule_114 rfl (lv_at hl 0 rfl) ?_
    refine va_get (D := E.1) (ci := 11) (v := .int (S0.1 16)) (C := RX12) (T := TX12) (N := 57) hx hb hg in_X12 hown X.1 hP 0 rfl rfl 16 (by decide) (hg _ wf_X12_227) (fun _ h9 => h9) rfl dX12_readsRule_115 ?_
    refine lv_aload_n hx hb dX12_readsRule_118 rfl (lv_at hl 0 rfl) ?_
    refine va_get (D := E.1) (ci := 11) (v := .int (S0.1 14)) (C := RX12) (T := TX12) (N := 57) hx hb hg in_X12 hown X.1 hP 0 rfl rfl 14 (by decide) (hg _ wf_X12_173) (fun _ h9 => h9) rfl dX12_readsRule_119 ?_
    obtain ⟨hi, h⟩ := ck_el h
    obtain ⟨S0_16, eS, h⟩ := lt_el h
    refine va_iast hx hb X.1 hP hD hS 11 0 rfl rfl hi dX12_readsRule_122 (fun H locs hP hD hS => ?_)
    have hP : va_P E.1 vwCl (cw_X12 E q0 S0_16) H := by rw [eS]; exact hP
    have hD : va_D A (cw_X12 E q0 S0_16) := by rw [eS]; exact hD
    clear eS
    refine lv_aload_n hx hb dX12_readsRule_123 rfl (lv_at hl 0 rfl) ?_
    obtain ⟨u17, hc, h⟩ := bd_el h
    refine ct_iA (w1 := cw_X12 E q0 u17.2) X hP hD hS (va_runV (C := RX12) (As := []) (rest := []) ⟨hx, hb, hml, hown, hg⟩ (c_X12_readsCondition l E q0 H.size S0_16 u17 hc) (cwV 0 hg (gwV wm_X12_230 wi_X12_readsCondition wsl_X12_readsCondition wini_X12 wco_X12_readsCondition) rfl rfl rfl (by decide +kernel) ⟨Nat.le_of_ble_eq_true rfl, Nat.le_of_ble_eq_true rfl⟩) ⟨ct_blind, ct_rv X.1 hP 0 rfl rfl, ct_preA X hP hD hS _⟩ rfl rfl hl.1 rfl (lv_room (Nat.le_of_ble_eq_true rfl)) dX12_readsRule_124 ⟨Nat.zero_le _, Nat.zero_le _⟩) (fun H locs hP hD hS => ?_)
    refine lv_if_ne (tgt := 132) hx hb dX12_readsRule_127 (by decide) (fun c18 => ?_) (fun c18 => ?_)
    · have h := it_f h c18
      refine lv_aload_n hx hb dX12_readsRule_132 rfl (lv_at hl 0 rfl) ?_
      refine va_get (D := E.1) (ci := 11) (v := .ref (q0 12)) (C := RX12) (T := TX12) (N := 57) hx hb hg in_X12 hown X.1 hP 0 rfl rfl 23 (by decide) (hg _ wf_X12_44) (fun _ h9 => h9) rfl dX12_readsRule_133 ?_
      refine lv_aload_n hx hb dX12_readsRule_136 rfl (lv_at hl 0 rfl) ?_
      refine va_get (D := E.1) (ci := 11) (v := .int (u17.2.1 16)) (C := RX12) (T := TX12) (N := 57) hx hb hg in_X12 hown X.1 hP 0 rfl rfl 16 (by decide) (hg _ wf_X12_227) (fun _ h9 => h9) rfl dX12_readsRule_137 ?_
      refine lv_aload_n hx hb dX12_readsRule_140 rfl (lv_at hl 0 rfl) ?_
      refine va_get (D := E.1) (ci := 11) (v := .int (u17.2.1 14)) (C := RX12) (T := TX12) (N := 57) hx hb hg in_X12 hown X.1 hP 0 rfl rfl 14 (by decide) (hg _ wf_X12_173) (fun _ h9 => h9) rfl dX12_readsRule_141 ?_
      obtain ⟨hi, h⟩ := ck_el h
      obtain ⟨S0_19, eS, h⟩ := lt_el h
      refine va_iast hx hb X.1 hP hD hS 12 0 rfl rfl hi dX12_readsRule_144 (fun H locs hP hD hS => ?_)
      have hP : va_P E.1 vwCl (cw_X12 E q0 S0_19) H := by rw [eS]; exact hP
      have hD : va_D A (cw_X12 E q0 S0_19) := by rw [eS]; exact hD
      clear eS
      refine lv_aload_n hx hb dX12_readsRule_145 rfl (lv_at hl 0 rfl) ?_
      refine lv_aload_n hx hb dX12_readsRule_146 rfl (lv_at hl 0 rfl) ?_
      refine va_get (D := E.1) (ci := 11) (v := .int (S0_19.1 16)) (C := RX12) (T := TX12) (N := 57) hx hb hg in_X12 hown X.1 hP 0 rfl rfl 16 (by decide) (hg _ wf_X12_227) (fun _ h9 => h9) rfl dX12_readsRule_147 ?_
      refine lv_iconst (v := 1) hx hb dX12_readsRule_150 (by decide) ?_
      refine lv_iadd hx hb dX12_readsRule_151 ?_
      obtain ⟨S0_20, eS, h⟩ := lt_el h
      refine va_put (D := E.1) (ci := 11) (v := .int ((S0_19.1 16) + 1)) (ty := .int) (C := RX12) (T := TX12) (N := 57) hx hb hg in_X12 tyX12 tyX12_ok nmX12 hown X.1 hP hD hS 0 rfl rfl 16 (by decide) (hg _ wf_X12_227) (fun _ h9 => h9) rfl (by decide +kernel) rfl rfl (Nat.le_of_ble_eq_true rfl) dX12_readsRule_152 (fun H locs hP hD hS => ?_)
      have hP : va_P E.1 vwCl (cw_X12 E q0 S0_20) H := by rw [eS]; exact hP
      have hD : va_D A (cw_X12 E q0 S0_20) := by rw [eS]; exact hD
      clear eS
      refine lv_iconst (v := 1) hx hb dX12_readsRule_155 (by decide) ?_
      exact RT 1 S0_20 _ _ _ _ h (by decide +kernel) hP hD hS dX12_readsRule_156
    · have h := it_t h c18
      refine lv_iconst (v := 0) hx hb dX12_readsRule_130 (by decide) ?_
      exact RT 0 u17.2 _ _ _ _ h (by decide +kernel) hP hD hS dX12_readsRule_131
  have N33 : ∀ (S0 : Gr) (x1 : Int32) (H : Heap) (locs : List Loc) (ls : Array Slot), f_X12_readsRule_n33 S0 x1 = some Rv → va_P E.1 vwCl (cw_X12 E q0 S0) H → va_D A (cw_X12 E q0 S0) → va_S A s.heap H locs → lv_has ls 2 [(0, .ref (q0 0)), (1, .int x1)] → W p l e ({ frames := 7, cells := 0, slots := 0, locals := 145 } : Room) s m ar below meth c H locs 0 0 QM (F0 m 33 ls []) := by
    intro S0 x1 H locs ls h hP hD hS hl
    refine lv_aload_n hx hb dX12_readsRule_33 rfl (lv_at hl 0 rfl) ?_
    refine va_get (D := E.1) (ci := 11) (v := .int (S0.1 16)) (C := RX12) (T := TX12) (N := 57) hx hb hg in_X12 hown X.1 hP 0 rfl rfl 16 (by decide) (hg _ wf_X12_227) (fun _ h9 => h9) rfl dX12_readsRule_34 ?_
    refine lv_bipush (v := 16) hx hb dX12_readsRule_37 (by decide) ?_
    refine lv_icmp_ne (tgt := 52) hx hb dX12_readsRule_39 (by decide) (fun c6 => ?_) (fun c6 => ?_)
    · have h := it_f h c6
      refine lv_aload_n hx hb dX12_readsRule_52 rfl (lv_at hl 0 rfl) ?_
      refine va_get (D := E.1) (ci := 11) (v := .ref (q0 9)) (C := RX12) (T := TX12) (N := 57) hx hb hg in_X12 hown X.1 hP 0 rfl rfl 20 (by decide) (hg _ wf_X12_35) (fun _ h9 => h9) rfl dX12_readsRule_53 ?_
      refine lv_aload_n hx hb dX12_readsRule_56 rfl (lv_at hl 0 rfl) ?_
      refine va_get (D := E.1) (ci := 11) (v := .int (S0.1 16)) (C := RX12) (T := TX12) (N := 57) hx hb hg in_X12 hown X.1 hP 0 rfl rfl 16 (by decide) (hg _ wf_X12_227) (fun _ h9 => h9) rfl dX12_readsRule_57 ?_
      refine lv_iload_n hx hb dX12_readsRule_60 rfl (lv_at hl 1 rfl) ?_
      obtain ⟨hi, h⟩ := ck_el h
      obtain ⟨S0_7, eS, h⟩ := lt_el h
      refine va_iast hx hb X.1 hP hD hS 9 0 rfl rfl hi dX12_readsRule_61 (fun H locs hP hD hS => ?_)
      have hP : va_P E.1 vwCl (cw_X12 E q0 S0_7) H := by rw [eS]; exact hP
      have hD : va_D A (cw_X12 E q0 S0_7) := by rw [eS]; exact hD
      clear eS
      refine lv_aload_n hx hb dX12_readsRule_62 rfl (lv_at hl 0 rfl) ?_
      refine lv_aload_n hx hb dX12_readsRule_63 rfl (lv_at hl 0 rfl) ?_
      refine va_get (D := E.1) (ci := 11) (v := .int (S0_7.1 9)) (C := RX12) (T := TX12) (N := 57) hx hb hg in_X12 hown X.1 hP 0 rfl rfl 9 (by decide) (hg _ wf_X12_150) (fun _ h9 => h9) rfl dX12_readsRule_64 ?_
      refine lv_iconst (v := 1) hx hb dX12_readsRule_67 (by decide) ?_
      refine lv_iadd hx hb dX12_readsRule_68 ?_
      obtain ⟨S0_8, eS, h⟩ := lt_el h
      refine va_put (D := E.1) (ci := 11) (v := .int ((S0_7.1 9) + 1)) (ty := .int) (C := RX12) (T := TX12) (N := 57) hx hb hg in_X12 tyX12 tyX12_ok nmX12 hown X.1 hP hD hS 0 rfl rfl 9 (by decide) (hg _ wf_X12_150) (fun _ h9 => h9) rfl (by decide +kernel) rfl rfl (Nat.le_of_ble_eq_true rfl) dX12_readsRule_69 (fun H locs hP hD hS => ?_)
      have hP : va_P E.1 vwCl (cw_X12 E q0 S0_8) H := by rw [eS]; exact hP
      have hD : va_D A (cw_X12 E q0 S0_8) := by rw [eS]; exact hD
      clear eS
      refine lv_aload_n hx hb dX12_readsRule_72 rfl (lv_at hl 0 rfl) ?_
      refine va_get (D := E.1) (ci := 11) (v := .ref (q0 10)) (C := RX12) (T := TX12) (N := 57) hx hb hg in_X12 hown X.1 hP 0 rfl rfl 21 (by decide) (hg _ wf_X12_38) (fun _ h9 => h9) rfl dX12_readsRule_73 ?_
      refine lv_aload_n hx hb dX12_readsRule_76 rfl (lv_at hl 0 rfl) ?_
      refine va_get (D := E.1) (ci := 11) (v := .int (S0_8.1 16)) (C := RX12) (T := TX12) (N := 57) hx hb hg in_X12 hown X.1 hP 0 rfl rfl 16 (by decide) (hg _ wf_X12_227) (fun _ h9 => h9) rfl dX12_readsRule_77 ?_
      refine lv_aload_n hx hb dX12_readsRule_80 rfl (lv_at hl 0 rfl) ?_
      refine va_get (D := E.1) (ci := 11) (v := .int (S0_8.1 14)) (C := RX12) (T := TX12) (N := 57) hx hb hg in_X12 hown X.1 hP 0 rfl rfl 14 (by decide) (hg _ wf_X12_173) (fun _ h9 => h9) rfl dX12_readsRule_81 ?_
      obtain ⟨hi, h⟩ := ck_el h
      obtain ⟨S0_9, eS, h⟩ := lt_el h
      refine va_iast hx hb X.1 hP hD hS 10 0 rfl rfl hi dX12_readsRule_84 (fun H locs hP hD hS => ?_)
      have hP : va_P E.1 vwCl (cw_X12 E q0 S0_9) H := by rw [eS]; exact hP
      have hD : va_D A (cw_X12 E q0 S0_9) := by rw [eS]; exact hD
      clear eS
      refine lv_aload_n hx hb dX12_readsRule_85 rfl (lv_at hl 0 rfl) ?_
      refine lv_iconst (v := 0) hx hb dX12_readsRule_86 (by decide) ?_
      obtain ⟨S0_10, eS, h⟩ := lt_el h
      refine va_put (D := E.1) (ci := 11) (v := .int 0) (ty := .int) (C := RX12) (T := TX12) (N := 57) hx hb hg in_X12 tyX12 tyX12_ok nmX12 hown X.1 hP hD hS 0 rfl rfl 13 (by decide) (hg _ wf_X12_177) (fun _ h9 => h9) rfl (by decide +kernel) rfl rfl (Nat.le_of_ble_eq_true rfl) dX12_readsRule_87 (fun H locs hP hD hS => ?_)
      have hP : va_P E.1 vwCl (cw_X12 E q0 S0_10) H := by rw [eS]; exact hP
      have hD : va_D A (cw_X12 E q0 S0_10) := by rw [eS]; exact hD
      clear eS
      refine lv_aload_n hx hb dX12_readsRule_90 rfl (lv_at hl 0 rfl) ?_
      refine lv_iconst (v := 0) hx hb dX12_readsRule_91 (by decide) ?_
      obtain ⟨S0_11, eS, h⟩ := lt_el h
      refine va_put (D := E.1) (ci := 11) (v := .int 0) (ty := .int) (C := RX12) (T := TX12) (N := 57) hx hb hg in_X12 tyX12 tyX12_ok nmX12 hown X.1 hP hD hS 0 rfl rfl 15 (by decide) (hg _ wf_X12_180) (fun _ h9 => h9) rfl (by decide +kernel) rfl rfl (Nat.le_of_ble_eq_true rfl) dX12_readsRule_92 (fun H locs hP hD hS => ?_)
      have hP : va_P E.1 vwCl (cw_X12 E q0 S0_11) H := by rw [eS]; exact hP
      have hD : va_D A (cw_X12 E q0 S0_11) := by rw [eS]; exact hD
      clear eS
      refine lv_iload_n hx hb dX12_readsRule_95 rfl (lv_at hl 1 rfl) ?_
      refine lv_bipush (v := 120) hx hb dX12_readsRule_96 (by decide) ?_
      refine lv_icmp_eq (tgt := 110) hx hb dX12_readsRule_98 (by decide) (fun c12 => ?_) (fun c12 => ?_)
      · have h := it_t h c12
        exact N110  S0_11 _ _ _ h hP hD hS (lv_sub hl [0] rfl)
      · have h := it_f h c12
        refine lv_aload_n hx hb dX12_readsRule_101 rfl (lv_at hl 0 rfl) ?_
        obtain ⟨u13, hc, h⟩ := bd_el h
        refine ct_iA (w1 := cw_X12 E q0 u13.2) X hP hD hS (va_runV (C := RX12) (As := []) (rest := []) ⟨hx, hb, hml, hown, hg⟩ (c_X12_readsSum l E q0 H.size S0_11 u13 hc) (cwV 0 hg (gwV wm_X12_212 wi_X12_readsSum wsl_X12_readsSum wini_X12 wco_X12_readsSum) rfl rfl rfl (by decide +kernel) ⟨Nat.le_of_ble_eq_true rfl, Nat.le_of_ble_eq_true rfl⟩) ⟨ct_blind, ct_rv X.1 hP 0 rfl rfl, ct_preA X hP hD hS _⟩ rfl rfl hl.1 rfl (lv_room (Nat.le_of_ble_eq_true rfl)) dX12_readsRule_102 ⟨Nat.zero_le _, Nat.zero_le _⟩) (fun H locs hP hD hS => ?_)
        refine lv_if_ne (tgt := 110) hx hb dX12_readsRule_105 (by decide) (fun c14 => ?_) (fun c14 => ?_)
        · have h := it_f h c14
          exact N110  u13.2 _ _ _ h hP hD hS (lv_sub hl [0] rfl)
        · have h := it_t h c14
          refine lv_iconst (v := 0) hx hb dX12_readsRule_108 (by decide) ?_
          exact RT 0 u13.2 _ _ _ _ h (by decide +kernel) hP hD hS dX12_readsRule_109
    · have h := it_t h c6
      refine lv_aload_n hx hb dX12_readsRule_42 rfl (lv_at hl 0 rfl) ?_
      refine lv_iconst (v := 4) hx hb dX12_readsRule_43 (by decide) ?_
      refine lv_aload_n hx hb dX12_readsRule_44 rfl (lv_at hl 0 rfl) ?_
      refine va_get (D := E.1) (ci := 11) (v := .int (S0.1 9)) (C := RX12) (T := TX12) (N := 57) hx hb hg in_X12 hown X.1 hP 0 rfl rfl 9 (by decide) (hg _ wf_X12_150) (fun _ h9 => h9) rfl dX12_readsRule_45 ?_
      obtain ⟨u15, hc, h⟩ := bd_el h
      refine ct_iA (w1 := cw_X12 E q0 u15.2) X hP hD hS (va_runV (C := RX12) (As := [.int 4, .int (S0.1 9)]) (rest := []) ⟨hx, hb, hml, hown, hg⟩ (c_X12_wrongAt l E q0 H.size S0 4 (S0.1 9) u15 hc) (cwV 2 hg (gwV wm_X12_163 wi_X12_wrongAt wsl_X12_wrongAt wini_X12 wco_X12_wrongAt) rfl rfl rfl (by decide +kernel) ⟨Nat.le_of_ble_eq_true rfl, Nat.le_of_ble_eq_true rfl⟩) ⟨ct_blind, ct_rv X.1 hP 0 rfl rfl, ct_preA X hP hD hS _⟩ rfl rfl hl.1 rfl (lv_room (Nat.le_of_ble_eq_true rfl)) dX12_readsRule_48 ⟨Nat.zero_le _, Nat.zero_le _⟩) (fun H locs hP hD hS => ?_)
      obtain ⟨hn1, -, h⟩ := zb_el h
      exact RT u15.1 u15.2 _ _ _ _ h hn1 hP hD hS dX12_readsRule_51
  obtain ⟨H, eH⟩ : ∃ z, z = s.heap := ⟨_, rfl⟩
  rw [← eH]
  have hP : va_P E.1 vwCl (cw_X12 E q0 S0) H := by rw [eH]; exact hP
  have hS : va_S A s.heap H [] := by rw [eH]; exact hS
  clear eH
  obtain ⟨locs, el⟩ : ∃ z : List Loc, z = [] := ⟨_, rfl⟩
  rw [← el] at hS ⊢
  clear el
  refine lv_aload_n hx hb dX12_readsRule_0 rfl (lv_at hl 0 rfl) ?_
  obtain ⟨u1, hc, h⟩ := bd_el h
  refine ct_iA (w1 := cw_X12 E q0 S0) X hP hD hS (va_runV (C := RX12) (As := []) (rest := []) ⟨hx, hb, hml, hown, hg⟩ (c_X12_here l E q0 H.size S0 u1 hc) (cwV 0 hg (gwV wm_X12_156 wi_X12_here wsl_X12_here wini_X12 wco_X12_here) rfl rfl rfl (by decide +kernel) ⟨Nat.le_of_ble_eq_true rfl, Nat.le_of_ble_eq_true rfl⟩) ⟨ct_blind, ct_rv X.1 hP 0 rfl rfl, ct_preA X hP hD hS _⟩ rfl rfl hl.1 rfl (lv_room (Nat.le_of_ble_eq_true rfl)) dX12_readsRule_1 ⟨Nat.zero_le _, Nat.zero_le _⟩) (fun H locs hP hD hS => ?_)
  refine lv_istore_n (lv' := [(1, .int u1), (0, .ref (q0 0))]) hx hb dX12_readsRule_4 rfl hl (by decide) rfl (fun ls hl => ?_)
  refine lv_iload_n hx hb dX12_readsRule_5 rfl (lv_at hl 0 rfl) ?_
  refine lv_bipush (v := 116) hx hb dX12_readsRule_6 (by decide) ?_
  refine lv_icmp_eq (tgt := 33) hx hb dX12_readsRule_8 (by decide) (fun c2 => ?_) (fun c2 => ?_)
  · have h := it_t h c2
    exact N33  S0 u1 _ _ _ h hP hD hS (lv_sub hl [1, 0] rfl)
  · have h := it_f h c2
    refine lv_iload_n hx hb dX12_readsRule_11 rfl (lv_at hl 0 rfl) ?_
    refine lv_bipush (v := 109) hx hb dX12_readsRule_12 (by decide) ?_
    refine lv_icmp_eq (tgt := 33) hx hb dX12_readsRule_14 (by decide) (fun c3 => ?_) (fun c3 => ?_)
    · have h := it_t h c3
      exact N33  S0 u1 _ _ _ h hP hD hS (lv_sub hl [1, 0] rfl)
    · have h := it_f h c3
      refine lv_iload_n hx hb dX12_readsRule_17 rfl (lv_at hl 0 rfl) ?_
      refine lv_bipush (v := 120) hx hb dX12_readsRule_18 (by decide) ?_
      refine lv_icmp_eq (tgt := 33) hx hb dX12_readsRule_20 (by decide) (fun c4 => ?_) (fun c4 => ?_)
      · have h := it_t h c4
        exact N33  S0 u1 _ _ _ h hP hD hS (lv_sub hl [1, 0] rfl)
      · have h := it_f h c4
        refine lv_aload_n hx hb dX12_readsRule_23 rfl (lv_at hl 1 rfl) ?_
        refine lv_iconst (v := 1) hx hb dX12_readsRule_24 (by decide) ?_
        refine lv_aload_n hx hb dX12_readsRule_25 rfl (lv_at hl 1 rfl) ?_
        refine va_get (D := E.1) (ci := 11) (v := .int (S0.1 9)) (C := RX12) (T := TX12) (N := 57) hx hb hg in_X12 hown X.1 hP 0 rfl rfl 9 (by decide) (hg _ wf_X12_150) (fun _ h9 => h9) rfl dX12_readsRule_26 ?_
        obtain ⟨u5, hc, h⟩ := bd_el h
        refine ct_iA (w1 := cw_X12 E q0 u5.2) X hP hD hS (va_runV (C := RX12) (As := [.int 1, .int (S0.1 9)]) (rest := []) ⟨hx, hb, hml, hown, hg⟩ (c_X12_wrongAt l E q0 H.size S0 1 (S0.1 9) u5 hc) (cwV 2 hg (gwV wm_X12_163 wi_X12_wrongAt wsl_X12_wrongAt wini_X12 wco_X12_wrongAt) rfl rfl rfl (by decide +kernel) ⟨Nat.le_of_ble_eq_true rfl, Nat.le_of_ble_eq_true rfl⟩) ⟨ct_blind, ct_rv X.1 hP 0 rfl rfl, ct_preA X hP hD hS _⟩ rfl rfl hl.1 rfl (lv_room (Nat.le_of_ble_eq_true rfl)) dX12_readsRule_29 ⟨Nat.zero_le _, Nat.zero_le _⟩) (fun H locs hP hD hS => ?_)
        obtain ⟨hn1, -, h⟩ := zb_el h
        exact RT u5.1 u5.2 _ _ _ _ h hn1 hP hD hS dX12_readsRule_32
theorem dX12_law_0 : decode cX12_law 0 = .ok (.iload_n 1, 1) := by decide +kernel
theorem dX12_law_1 : decode cX12_law 1 = .ok (.iconst 1, 1) := by decide +kernel
theorem dX12_law_2 : decode cX12_law 2 = .ok (.sipush 240, 3) := by decide +kernel
theorem dX12_law_5 : decode cX12_law 5 = .ok (.invokestatic 110, 3) := by decide +kernel
theorem dX12_law_8 : decode cX12_law 8 = .ok (.ifCond .eq 11, 3) := by decide +kernel
theorem dX12_law_11 : decode cX12_law 11 = .ok (.iload_n 1, 1) := by decide +kernel
theorem dX12_law_12 : decode cX12_law 12 = .ok (.aload_n 0, 1) := by decide +kernel
theorem dX12_law_13 : decode cX12_law 13 = .ok (.getfield 143, 3) := by decide +kernel
theorem dX12_law_16 : decode cX12_law 16 = .ok (.if_icmp .le 5, 3) := by decide +kernel
theorem dX12_law_19 : decode cX12_law 19 = .ok (.iconst (-1), 1) := by decide +kernel
theorem dX12_law_20 : decode cX12_law 20 = .ok (.ireturn, 1) := by decide +kernel
theorem dX12_law_21 : decode cX12_law 21 = .ok (.aload_n 0, 1) := by decide +kernel
theorem dX12_law_22 : decode cX12_law 22 = .ok (.iload_n 1, 1) := by decide +kernel
theorem dX12_law_23 : decode cX12_law 23 = .ok (.invokevirtual 233, 3) := by decide +kernel
theorem dX12_law_26 : decode cX12_law 26 = .ok (.aload_n 0, 1) := by decide +kernel
theorem dX12_law_27 : decode cX12_law 27 = .ok (.invokevirtual 236, 3) := by decide +kernel
theorem dX12_law_30 : decode cX12_law 30 = .ok (.istore_n 2, 1) := by decide +kernel
theorem dX12_law_31 : decode cX12_law 31 = .ok (.iload_n 2, 1) := by decide +kernel
theorem dX12_law_32 : decode cX12_law 32 = .ok (.ifCond .eq 39, 3) := by decide +kernel
theorem dX12_law_35 : decode cX12_law 35 = .ok (.aload_n 0, 1) := by decide +kernel
theorem dX12_law_36 : decode cX12_law 36 = .ok (.getfield 150, 3) := by decide +kernel
theorem dX12_law_39 : decode cX12_law 39 = .ok (.aload_n 0, 1) := by decide +kernel
theorem dX12_law_40 : decode cX12_law 40 = .ok (.getfield 153, 3) := by decide +kernel
theorem dX12_law_43 : decode cX12_law 43 = .ok (.if_icmp .ge 28, 3) := by decide +kernel
theorem dX12_law_46 : decode cX12_law 46 = .ok (.aload_n 0, 1) := by decide +kernel
theorem dX12_law_47 : decode cX12_law 47 = .ok (.bipush 59, 2) := by decide +kernel
theorem dX12_law_49 : decode cX12_law 49 = .ok (.invokevirtual 239, 3) := by decide +kernel
theorem dX12_law_52 : decode cX12_law 52 = .ok (.ifCond .eq 14, 3) := by decide +kernel
theorem dX12_law_55 : decode cX12_law 55 = .ok (.aload_n 0, 1) := by decide +kernel
theorem dX12_law_56 : decode cX12_law 56 = .ok (.invokevirtual 236, 3) := by decide +kernel
theorem dX12_law_59 : decode cX12_law 59 = .ok (.ifCond .eq 7, 3) := by decide +kernel
theorem dX12_law_62 : decode cX12_law 62 = .ok (.iconst 1, 1) := by decide +kernel
theorem dX12_law_63 : decode cX12_law 63 = .ok (.goto 4, 3) := by decide +kernel
theorem dX12_law_66 : decode cX12_law 66 = .ok (.iconst 0, 1) := by decide +kernel
theorem dX12_law_67 : decode cX12_law 67 = .ok (.istore_n 2, 1) := by decide +kernel
theorem dX12_law_68 : decode cX12_law 68 = .ok (.goto (-37), 3) := by decide +kernel
theorem dX12_law_71 : decode cX12_law 71 = .ok (.aload_n 0, 1) := by decide +kernel
theorem dX12_law_72 : decode cX12_law 72 = .ok (.iconst 0, 1) := by decide +kernel
theorem dX12_law_73 : decode cX12_law 73 = .ok (.putfield 143, 3) := by decide +kernel
theorem dX12_law_76 : decode cX12_law 76 = .ok (.iload_n 2, 1) := by decide +kernel
theorem dX12_law_77 : decode cX12_law 77 = .ok (.ifCond .ne 8, 3) := by decide +kernel
theorem dX12_law_80 : decode cX12_law 80 = .ok (.aload_n 0, 1) := by decide +kernel
theorem dX12_law_81 : decode cX12_law 81 = .ok (.getfield 160, 3) := by decide +kernel
theorem dX12_law_84 : decode cX12_law 84 = .ok (.ireturn, 1) := by decide +kernel
theorem dX12_law_85 : decode cX12_law 85 = .ok (.aload_n 0, 1) := by decide +kernel
theorem dX12_law_86 : decode cX12_law 86 = .ok (.aload_n 0, 1) := by decide +kernel
theorem dX12_law_87 : decode cX12_law 87 = .ok (.getfield 227, 3) := by decide +kernel
theorem dX12_law_90 : decode cX12_law 90 = .ok (.putfield 242, 3) := by decide +kernel
theorem dX12_law_93 : decode cX12_law 93 = .ok (.iconst 0, 1) := by decide +kernel
theorem dX12_law_94 : decode cX12_law 94 = .ok (.istore_n 3, 1) := by decide +kernel
theorem dX12_law_95 : decode cX12_law 95 = .ok (.iload_n 3, 1) := by decide +kernel
theorem dX12_law_96 : decode cX12_law 96 = .ok (.aload_n 0, 1) := by decide +kernel
theorem dX12_law_97 : decode cX12_law 97 = .ok (.getfield 173, 3) := by decide +kernel
theorem dX12_law_100 : decode cX12_law 100 = .ok (.if_icmp .ge 21, 3) := by decide +kernel
theorem dX12_law_103 : decode cX12_law 103 = .ok (.aload_n 0, 1) := by decide +kernel
theorem dX12_law_104 : decode cX12_law 104 = .ok (.getfield 47, 3) := by decide +kernel
theorem dX12_law_107 : decode cX12_law 107 = .ok (.iload_n 3, 1) := by decide +kernel
theorem dX12_law_108 : decode cX12_law 108 = .ok (.aload_n 0, 1) := by decide +kernel
theorem dX12_law_109 : decode cX12_law 109 = .ok (.getfield 29, 3) := by decide +kernel
theorem dX12_law_112 : decode cX12_law 112 = .ok (.iload_n 3, 1) := by decide +kernel
theorem dX12_law_113 : decode cX12_law 113 = .ok (.iaload, 1) := by decide +kernel
theorem dX12_law_114 : decode cX12_law 114 = .ok (.iastore, 1) := by decide +kernel
theorem dX12_law_115 : decode cX12_law 115 = .ok (.iinc 3 1, 3) := by decide +kernel
theorem dX12_law_118 : decode cX12_law 118 = .ok (.goto (-23), 3) := by decide +kernel
theorem dX12_law_121 : decode cX12_law 121 = .ok (.iconst 0, 1) := by decide +kernel
theorem dX12_law_122 : decode cX12_law 122 = .ok (.istore_n 3, 1) := by decide +kernel
theorem dX12_law_123 : decode cX12_law 123 = .ok (.iload_n 3, 1) := by decide +kernel
theorem dX12_law_124 : decode cX12_law 124 = .ok (.aload_n 0, 1) := by decide +kernel
theorem dX12_law_125 : decode cX12_law 125 = .ok (.getfield 227, 3) := by decide +kernel
theorem dX12_law_128 : decode cX12_law 128 = .ok (.if_icmp .ge 57, 3) := by decide +kernel
theorem dX12_law_131 : decode cX12_law 131 = .ok (.aload_n 0, 1) := by decide +kernel
theorem dX12_law_132 : decode cX12_law 132 = .ok (.getfield 50, 3) := by decide +kernel
theorem dX12_law_135 : decode cX12_law 135 = .ok (.iload_n 3, 1) := by decide +kernel
theorem dX12_law_136 : decode cX12_law 136 = .ok (.aload_n 0, 1) := by decide +kernel
theorem dX12_law_137 : decode cX12_law 137 = .ok (.getfield 35, 3) := by decide +kernel
theorem dX12_law_140 : decode cX12_law 140 = .ok (.iload_n 3, 1) := by decide +kernel
theorem dX12_law_141 : decode cX12_law 141 = .ok (.iaload, 1) := by decide +kernel
theorem dX12_law_142 : decode cX12_law 142 = .ok (.iastore, 1) := by decide +kernel
theorem dX12_law_143 : decode cX12_law 143 = .ok (.aload_n 0, 1) := by decide +kernel
theorem dX12_law_144 : decode cX12_law 144 = .ok (.getfield 53, 3) := by decide +kernel
theorem dX12_law_147 : decode cX12_law 147 = .ok (.iload_n 3, 1) := by decide +kernel
theorem dX12_law_148 : decode cX12_law 148 = .ok (.aload_n 0, 1) := by decide +kernel
theorem dX12_law_149 : decode cX12_law 149 = .ok (.getfield 38, 3) := by decide +kernel
theorem dX12_law_152 : decode cX12_law 152 = .ok (.iload_n 3, 1) := by decide +kernel
theorem dX12_law_153 : decode cX12_law 153 = .ok (.iaload, 1) := by decide +kernel
theorem dX12_law_154 : decode cX12_law 154 = .ok (.iastore, 1) := by decide +kernel
theorem dX12_law_155 : decode cX12_law 155 = .ok (.aload_n 0, 1) := by decide +kernel
theorem dX12_law_156 : decode cX12_law 156 = .ok (.getfield 56, 3) := by decide +kernel
theorem dX12_law_159 : decode cX12_law 159 = .ok (.iload_n 3, 1) := by decide +kernel
theorem dX12_law_160 : decode cX12_law 160 = .ok (.aload_n 0, 1) := by decide +kernel
theorem dX12_law_161 : decode cX12_law 161 = .ok (.getfield 41, 3) := by decide +kernel
theorem dX12_law_164 : decode cX12_law 164 = .ok (.iload_n 3, 1) := by decide +kernel
theorem dX12_law_165 : decode cX12_law 165 = .ok (.iaload, 1) := by decide +kernel
theorem dX12_law_166 : decode cX12_law 166 = .ok (.iastore, 1) := by decide +kernel
theorem dX12_law_167 : decode cX12_law 167 = .ok (.aload_n 0, 1) := by decide +kernel
theorem dX12_law_168 : decode cX12_law 168 = .ok (.getfield 59, 3) := by decide +kernel
theorem dX12_law_171 : decode cX12_law 171 = .ok (.iload_n 3, 1) := by decide +kernel
theorem dX12_law_172 : decode cX12_law 172 = .ok (.aload_n 0, 1) := by decide +kernel
theorem dX12_law_173 : decode cX12_law 173 = .ok (.getfield 44, 3) := by decide +kernel
theorem dX12_law_176 : decode cX12_law 176 = .ok (.iload_n 3, 1) := by decide +kernel
theorem dX12_law_177 : decode cX12_law 177 = .ok (.iaload, 1) := by decide +kernel
theorem dX12_law_178 : decode cX12_law 178 = .ok (.iastore, 1) := by decide +kernel
theorem dX12_law_179 : decode cX12_law 179 = .ok (.iinc 3 1, 3) := by decide +kernel
theorem dX12_law_182 : decode cX12_law 182 = .ok (.goto (-59), 3) := by decide +kernel
theorem dX12_law_185 : decode cX12_law 185 = .ok (.aload_n 0, 1) := by decide +kernel
theorem dX12_law_186 : decode cX12_law 186 = .ok (.getfield 227, 3) := by decide +kernel
theorem dX12_law_189 : decode cX12_law 189 = .ok (.ireturn, 1) := by decide +kernel
def f_X12_law_n123 (x1 : Int32) : Nat → Gr → Int32 → Option (Int32 × Gr)
  | 0, _, _ => none
  | n + 1, S0, x3 => if (S0.1 16) ≤ x3 then (some ((S0.1 16), S0)) else (rd' (S0.2 20) 16 x3 fun v23 => ck' 16 x3 (lt' (sA S0 25 (Int32.toNatClampNeg x3) v23) fun S0_24 => rd' (S0_24.2 21) 16 x3 fun v25 => ck' 16 x3 (lt' (sA S0_24 26 (Int32.toNatClampNeg x3) v25) fun S0_26 => rd' (S0_26.2 22) 16 x3 fun v27 => ck' 16 x3 (lt' (sA S0_26 27 (Int32.toNatClampNeg x3) v27) fun S0_28 => rd' (S0_28.2 23) 16 x3 fun v29 => ck' 16 x3 (lt' (sA S0_28 28 (Int32.toNatClampNeg x3) v29) fun S0_30 => lt' (x3 + 1) fun v31 => f_X12_law_n123 x1 n S0_30 v31)))))
def f_X12_law_n95 (x1 : Int32) : Nat → Gr → Int32 → Option (Int32 × Gr)
  | 0, _, _ => none
  | n + 1, S0, x3 => if (S0.1 14) ≤ x3 then (f_X12_law_n123 x1 fu S0 0) else (rd' (S0.2 18) 260 x3 fun v19 => ck' 260 x3 (lt' (sA S0 24 (Int32.toNatClampNeg x3) v19) fun S0_20 => lt' (x3 + 1) fun v21 => f_X12_law_n95 x1 n S0_20 v21))
def f_X12_law_n31 (x1 : Int32) : Nat → Gr → Int32 → Option (Int32 × Gr)
  | 0, _, _ => none
  | n + 1, S0, x2 => if x2 = 0 then (lt' (sI S0 8 0) fun S0_7 => if x2 = 0 then (some ((S0_7.1 11), S0_7)) else (lt' (sI S0_7 17 (S0_7.1 16)) fun S0_9 => f_X12_law_n95 x1 fu S0_9 0)) else (if (S0.1 10) ≤ (S0.1 9) then (lt' (sI S0 8 0) fun S0_11 => if x2 = 0 then (some ((S0_11.1 11), S0_11)) else (lt' (sI S0_11 17 (S0_11.1 16)) fun S0_13 => f_X12_law_n95 x1 fu S0_13 0)) else ((f_X12_takes S0 59).bind fun u14 => if u14.1 = 0 then (f_X12_law_n31 x1 n u14.2 0) else ((f_X12_readsRule u14.2).bind fun u16 => if u16.1 = 0 then (f_X12_law_n31 x1 n u16.2 0) else (f_X12_law_n31 x1 n u16.2 1))))
def f_X12_law (S0 : Gr) (x1 : Int32) : Option (Int32 × Gr) := (f_X12_in x1 1 240).bind fun u1 => if u1 = 0 then (some ((-1), S0)) else (if x1 ≤ (S0.1 8) then ((f_X12_beginsText S0 x1).bind fun u4 => (f_X12_readsRule u4).bind fun u5 => f_X12_law_n31 x1 fu u5.2 u5.1) else (some ((-1), S0)))
set_option maxHeartbeats 4000000 in
set_option maxRecDepth 100000 in
theorem c_X12_law (l : Launch) (E : Ec) (q0 : Nat → Nat) (sz : Nat) (S0 : Gr) (x1 : Int32) (Rv : Int32 × Gr) (h : f_X12_law S0 x1 = some Rv) : Met l yX12_law (wsM (.code yX12_law cX12_law 4 (some .int))) ({ frames := 8, cells := 0, slots := 0, locals := 166 } : Room) (va_Pc [.ref (q0 0), .int x1] (ctP E (cw_X12 E q0 S0) sz)) (ctI E (cw_X12 E q0 S0) (cw_X12 E q0 Rv.2) sz Rv.1) 0 0 (va_A (cw_X12 E q0 S0) sz) := by
  refine ct_metI (by decide) (Nat.le_of_ble_eq_true rfl) ?_
  intro p e s m ar below meth c A QM hx hb hml hown hg X hP hD hS RET ls hl
  have hown : s.vm.findClass RX12 = some m.cls := hown
  have hl : lv_has ls 4 [(0, .ref (q0 0)), (1, .int x1)] := hl
  have RT : ∀ (v : Int32) (S0 : Gr) (H : Heap) (locs : List Loc) (ls : Array Slot) (pc : Nat), some (v, S0) = some Rv → narrow .int (.int v) = .int v → va_P E.1 vwCl (cw_X12 E q0 S0) H → va_D A (cw_X12 E q0 S0) → va_S A s.heap H locs → decode cX12_law pc = .ok (.ireturn, 1) → W p l e ({ frames := 8, cells := 0, slots := 0, locals := 166 } : Room) s m ar below meth c H locs 0 0 QM (F0 m pc ls [.int v]) := by
    intro v S0 H locs ls pc e hn hP hD hS d
    obtain rfl := sm_e e
    exact RET H locs pc ls hn hP hD hS d
  clear RET
  have N123 : ∀ (n : Nat) (S0 : Gr) (x3 : Int32) (H : Heap) (locs : List Loc) (ls : Array Slot), f_X12_law_n123 x1 n S0 x3 = some Rv → va_P E.1 vwCl (cw_X12 E q0 S0) H → va_D A (cw_X12 E q0 S0) → va_S A s.heap H locs → lv_has ls 4 [(0, .ref (q0 0)), (3, .int x3)] → W p l e ({ frames := 8, cells := 0, slots := 0, locals := 166 } : Room) s m ar below meth c H locs 0 0 QM (F0 m 123 ls []) := by
    intro n
    induction n with
    | zero => intro S0 x3 H locs ls h; exact nn_el h
    | succ n ih =>
      intro S0 x3 H locs ls h hP hD hS hl
      refine lv_iload_n hx hb dX12_law_123 rfl (lv_at hl 1 rfl) ?_
      refine lv_aload_n hx hb dX12_law_124 rfl (lv_at hl 0 rfl) ?_
      refine va_get (D := E.1) (ci := 11) (v := .int (S0.1 16)) (C := RX12) (T := TX12) (N := 57) hx hb hg in_X12 hown X.1 hP 0 rfl rfl 16 (by decide) (hg _ wf_X12_227) (fun _ h9 => h9) rfl dX12_law_125 ?_
      refine lv_icmp_ge (tgt := 185) hx hb dX12_law_128 (by decide) (fun c22 => ?_) (fun c22 => ?_)
      · have h := it_t h c22
        refine lv_aload_n hx hb dX12_law_185 rfl (lv_at hl 0 rfl) ?_
        refine va_get (D := E.1) (ci := 11) (v := .int (S0.1 16)) (C := RX12) (T := TX12) (N := 57) hx hb hg in_X12 hown X.1 hP 0 rfl rfl 16 (by decide) (hg _ wf_X12_227) (fun _ h9 => h9) rfl dX12_law_186 ?_
        exact RT (S0.1 16) S0 _ _ _ _ h rfl hP hD hS dX12_law_189
      · have h := it_f h c22
        refine lv_aload_n hx hb dX12_law_131 rfl (lv_at hl 0 rfl) ?_
        refine va_get (D := E.1) (ci := 11) (v := .ref (q0 14)) (C := RX12) (T := TX12) (N := 57) hx hb hg in_X12 hown X.1 hP 0 rfl rfl 25 (by decide) (hg _ wf_X12_50) (fun _ h9 => h9) rfl dX12_law_132 ?_
        refine lv_iload_n hx hb dX12_law_135 rfl (lv_at hl 1 rfl) ?_
        refine lv_aload_n hx hb dX12_law_136 rfl (lv_at hl 0 rfl) ?_
        refine va_get (D := E.1) (ci := 11) (v := .ref (q0 9)) (C := RX12) (T := TX12) (N := 57) hx hb hg in_X12 hown X.1 hP 0 rfl rfl 20 (by decide) (hg _ wf_X12_35) (fun _ h9 => h9) rfl dX12_law_137 ?_
        refine lv_iload_n hx hb dX12_law_140 rfl (lv_at hl 1 rfl) ?_
        obtain ⟨hi, v23, ev23, h⟩ := rd_el h
        refine va_iald hx hb X.1 hP 9 0 rfl rfl hi dX12_law_141 ?_
        refine lv_top' ev23 ?_
        obtain ⟨hi, h⟩ := ck_el h
        obtain ⟨S0_24, eS, h⟩ := lt_el h
        refine va_iast hx hb X.1 hP hD hS 14 0 rfl rfl hi dX12_law_142 (fun H locs hP hD hS => ?_)
        have hP : va_P E.1 vwCl (cw_X12 E q0 S0_24) H := by rw [eS]; exact hP
        have hD : va_D A (cw_X12 E q0 S0_24) := by rw [eS]; exact hD
        clear eS
        refine lv_aload_n hx hb dX12_law_143 rfl (lv_at hl 0 rfl) ?_
        refine va_get (D := E.1) (ci := 11) (v := .ref (q0 15)) (C := RX12) (T := TX12) (N := 57) hx hb hg in_X12 hown X.1 hP 0 rfl rfl 26 (by decide) (hg _ wf_X12_53) (fun _ h9 => h9) rfl dX12_law_144 ?_
        refine lv_iload_n hx hb dX12_law_147 rfl (lv_at hl 1 rfl) ?_
        refine lv_aload_n hx hb dX12_law_148 rfl (lv_at hl 0 rfl) ?_
        refine va_get (D := E.1) (ci := 11) (v := .ref (q0 10)) (C := RX12) (T := TX12) (N := 57) hx hb hg in_X12 hown X.1 hP 0 rfl rfl 21 (by decide) (hg _ wf_X12_38) (fun _ h9 => h9) rfl dX12_law_149 ?_
        refine lv_iload_n hx hb dX12_law_152 rfl (lv_at hl 1 rfl) ?_
        obtain ⟨hi, v25, ev25, h⟩ := rd_el h
        refine va_iald hx hb X.1 hP 10 0 rfl rfl hi dX12_law_153 ?_
        refine lv_top' ev25 ?_
        obtain ⟨hi, h⟩ := ck_el h
        obtain ⟨S0_26, eS, h⟩ := lt_el h
        refine va_iast hx hb X.1 hP hD hS 15 0 rfl rfl hi dX12_law_154 (fun H locs hP hD hS => ?_)
        have hP : va_P E.1 vwCl (cw_X12 E q0 S0_26) H := by rw [eS]; exact hP
        have hD : va_D A (cw_X12 E q0 S0_26) := by rw [eS]; exact hD
        clear eS
        refine lv_aload_n hx hb dX12_law_155 rfl (lv_at hl 0 rfl) ?_
        refine va_get (D := E.1) (ci := 11) (v := .ref (q0 16)) (C := RX12) (T := TX12) (N := 57) hx hb hg in_X12 hown X.1 hP 0 rfl rfl 27 (by decide) (hg _ wf_X12_56) (fun _ h9 => h9) rfl dX12_law_156 ?_
        refine lv_iload_n hx hb dX12_law_159 rfl (lv_at hl 1 rfl) ?_
        refine lv_aload_n hx hb dX12_law_160 rfl (lv_at hl 0 rfl) ?_
        refine va_get (D := E.1) (ci := 11) (v := .ref (q0 11)) (C := RX12) (T := TX12) (N := 57) hx hb hg in_X12 hown X.1 hP 0 rfl rfl 22 (by decide) (hg _ wf_X12_41) (fun _ h9 => h9) rfl dX12_law_161 ?_
        refine lv_iload_n hx hb dX12_law_164 rfl (lv_at hl 1 rfl) ?_
        obtain ⟨hi, v27, ev27, h⟩ := rd_el h
        refine va_iald hx hb X.1 hP 11 0 rfl rfl hi dX12_law_165 ?_
        refine lv_top' ev27 ?_
        obtain ⟨hi, h⟩ := ck_el h
        obtain ⟨S0_28, eS, h⟩ := lt_el h
        refine va_iast hx hb X.1 hP hD hS 16 0 rfl rfl hi dX12_law_166 (fun H locs hP hD hS => ?_)
        have hP : va_P E.1 vwCl (cw_X12 E q0 S0_28) H := by rw [eS]; exact hP
        have hD : va_D A (cw_X12 E q0 S0_28) := by rw [eS]; exact hD
        clear eS
        refine lv_aload_n hx hb dX12_law_167 rfl (lv_at hl 0 rfl) ?_
        refine va_get (D := E.1) (ci := 11) (v := .ref (q0 17)) (C := RX12) (T := TX12) (N := 57) hx hb hg in_X12 hown X.1 hP 0 rfl rfl 28 (by decide) (hg _ wf_X12_59) (fun _ h9 => h9) rfl dX12_law_168 ?_
        refine lv_iload_n hx hb dX12_law_171 rfl (lv_at hl 1 rfl) ?_
        refine lv_aload_n hx hb dX12_law_172 rfl (lv_at hl 0 rfl) ?_
        refine va_get (D := E.1) (ci := 11) (v := .ref (q0 12)) (C := RX12) (T := TX12) (N := 57) hx hb hg in_X12 hown X.1 hP 0 rfl rfl 23 (by decide) (hg _ wf_X12_44) (fun _ h9 => h9) rfl dX12_law_173 ?_
        refine lv_iload_n hx hb dX12_law_176 rfl (lv_at hl 1 rfl) ?_
        obtain ⟨hi, v29, ev29, h⟩ := rd_el h
        refine va_iald hx hb X.1 hP 12 0 rfl rfl hi dX12_law_177 ?_
        refine lv_top' ev29 ?_
        obtain ⟨hi, h⟩ := ck_el h
        obtain ⟨S0_30, eS, h⟩ := lt_el h
        refine va_iast hx hb X.1 hP hD hS 17 0 rfl rfl hi dX12_law_178 (fun H locs hP hD hS => ?_)
        have hP : va_P E.1 vwCl (cw_X12 E q0 S0_30) H := by rw [eS]; exact hP
        have hD : va_D A (cw_X12 E q0 S0_30) := by rw [eS]; exact hD
        clear eS
        obtain ⟨v31, ev31, h⟩ := lt_el h
        refine lv_iinc (v := v31) (lv' := [(3, .int v31), (0, .ref (q0 0))]) hx hb dX12_law_179 hl (k := 1) rfl (by rw [ev31]; rfl) (by decide) rfl (fun ls hl => ?_)
        refine lv_goto (tgt := 123) hx hb dX12_law_182 (by decide) ?_
        exact ih S0_30 v31 _ _ _ h hP hD hS (lv_sub hl [1, 0] rfl)
  have N95 : ∀ (n : Nat) (S0 : Gr) (x3 : Int32) (H : Heap) (locs : List Loc) (ls : Array Slot), f_X12_law_n95 x1 n S0 x3 = some Rv → va_P E.1 vwCl (cw_X12 E q0 S0) H → va_D A (cw_X12 E q0 S0) → va_S A s.heap H locs → lv_has ls 4 [(0, .ref (q0 0)), (3, .int x3)] → W p l e ({ frames := 8, cells := 0, slots := 0, locals := 166 } : Room) s m ar below meth c H locs 0 0 QM (F0 m 95 ls []) := by
    intro n
    induction n with
    | zero => intro S0 x3 H locs ls h; exact nn_el h
    | succ n ih =>
      intro S0 x3 H locs ls h hP hD hS hl
      refine lv_iload_n hx hb dX12_law_95 rfl (lv_at hl 1 rfl) ?_
      refine lv_aload_n hx hb dX12_law_96 rfl (lv_at hl 0 rfl) ?_
      refine va_get (D := E.1) (ci := 11) (v := .int (S0.1 14)) (C := RX12) (T := TX12) (N := 57) hx hb hg in_X12 hown X.1 hP 0 rfl rfl 14 (by decide) (hg _ wf_X12_173) (fun _ h9 => h9) rfl dX12_law_97 ?_
      refine lv_icmp_ge (tgt := 121) hx hb dX12_law_100 (by decide) (fun c18 => ?_) (fun c18 => ?_)
      · have h := it_t h c18
        refine lv_iconst (v := 0) hx hb dX12_law_121 (by decide) ?_
        refine lv_istore_n (lv' := [(3, .int 0), (0, .ref (q0 0))]) hx hb dX12_law_122 rfl hl (by decide) rfl (fun ls hl => ?_)
        exact N123 fu S0 0 _ _ _ h hP hD hS (lv_sub hl [1, 0] rfl)
      · have h := it_f h c18
        refine lv_aload_n hx hb dX12_law_103 rfl (lv_at hl 0 rfl) ?_
        refine va_get (D := E.1) (ci := 11) (v := .ref (q0 13)) (C := RX12) (T := TX12) (N := 57) hx hb hg in_X12 hown X.1 hP 0 rfl rfl 24 (by decide) (hg _ wf_X12_47) (fun _ h9 => h9) rfl dX12_law_104 ?_
        refine lv_iload_n hx hb dX12_law_107 rfl (lv_at hl 1 rfl) ?_
        refine lv_aload_n hx hb dX12_law_108 rfl (lv_at hl 0 rfl) ?_
        refine va_get (D := E.1) (ci := 11) (v := .ref (q0 7)) (C := RX12) (T := TX12) (N := 57) hx hb hg in_X12 hown X.1 hP 0 rfl rfl 18 (by decide) (hg _ wf_X12_29) (fun _ h9 => h9) rfl dX12_law_109 ?_
        refine lv_iload_n hx hb dX12_law_112 rfl (lv_at hl 1 rfl) ?_
        obtain ⟨hi, v19, ev19, h⟩ := rd_el h
        refine va_iald hx hb X.1 hP 7 0 rfl rfl hi dX12_law_113 ?_
        refine lv_top' ev19 ?_
        obtain ⟨hi, h⟩ := ck_el h
        obtain ⟨S0_20, eS, h⟩ := lt_el h
        refine va_iast hx hb X.1 hP hD hS 13 0 rfl rfl hi dX12_law_114 (fun H locs hP hD hS => ?_)
        have hP : va_P E.1 vwCl (cw_X12 E q0 S0_20) H := by rw [eS]; exact hP
        have hD : va_D A (cw_X12 E q0 S0_20) := by rw [eS]; exact hD
        clear eS
        obtain ⟨v21, ev21, h⟩ := lt_el h
        refine lv_iinc (v := v21) (lv' := [(3, .int v21), (0, .ref (q0 0))]) hx hb dX12_law_115 hl (k := 1) rfl (by rw [ev21]; rfl) (by decide) rfl (fun ls hl => ?_)
        refine lv_goto (tgt := 95) hx hb dX12_law_118 (by decide) ?_
        exact ih S0_20 v21 _ _ _ h hP hD hS (lv_sub hl [1, 0] rfl)
  have N31 : ∀ (n : Nat) (S0 : Gr) (x2 : Int32) (H : Heap) (locs : List Loc) (ls : Array Slot), f_X12_law_n31 x1 n S0 x2 = some Rv → va_P E.1 vwCl (cw_X12 E q0 S0) H → va_D A (cw_X12 E q0 S0) → va_S A s.heap H locs → lv_has ls 4 [(0, .ref (q0 0)), (2, .int x2)] → W p l e ({ frames := 8, cells := 0, slots := 0, locals := 166 } : Room) s m ar below meth c H locs 0 0 QM (F0 m 31 ls []) := by
    intro n
    induction n with
    | zero => intro S0 x2 H locs ls h; exact nn_el h
    | succ n ih =>
      intro S0 x2 H locs ls h hP hD hS hl
      refine lv_iload_n hx hb dX12_law_31 rfl (lv_at hl 1 rfl) ?_
      refine lv_if_eq (tgt := 71) hx hb dX12_law_32 (by decide) (fun c6 => ?_) (fun c6 => ?_)
      · have h := it_t h c6
        refine lv_aload_n hx hb dX12_law_71 rfl (lv_at hl 0 rfl) ?_
        refine lv_iconst (v := 0) hx hb dX12_law_72 (by decide) ?_
        obtain ⟨S0_7, eS, h⟩ := lt_el h
        refine va_put (D := E.1) (ci := 11) (v := .int 0) (ty := .int) (C := RX12) (T := TX12) (N := 57) hx hb hg in_X12 tyX12 tyX12_ok nmX12 hown X.1 hP hD hS 0 rfl rfl 8 (by decide) (hg _ wf_X12_143) (fun _ h9 => h9) rfl (by decide +kernel) rfl rfl (Nat.le_of_ble_eq_true rfl) dX12_law_73 (fun H locs hP hD hS => ?_)
        have hP : va_P E.1 vwCl (cw_X12 E q0 S0_7) H := by rw [eS]; exact hP
        have hD : va_D A (cw_X12 E q0 S0_7) := by rw [eS]; exact hD
        clear eS
        refine lv_iload_n hx hb dX12_law_76 rfl (lv_at hl 1 rfl) ?_
        refine lv_if_ne (tgt := 85) hx hb dX12_law_77 (by decide) (fun c8 => ?_) (fun c8 => ?_)
        · have h := it_f h c8
          refine lv_aload_n hx hb dX12_law_85 rfl (lv_at hl 0 rfl) ?_
          refine lv_aload_n hx hb dX12_law_86 rfl (lv_at hl 0 rfl) ?_
          refine va_get (D := E.1) (ci := 11) (v := .int (S0_7.1 16)) (C := RX12) (T := TX12) (N := 57) hx hb hg in_X12 hown X.1 hP 0 rfl rfl 16 (by decide) (hg _ wf_X12_227) (fun _ h9 => h9) rfl dX12_law_87 ?_
          obtain ⟨S0_9, eS, h⟩ := lt_el h
          refine va_put (D := E.1) (ci := 11) (v := .int (S0_7.1 16)) (ty := .int) (C := RX12) (T := TX12) (N := 57) hx hb hg in_X12 tyX12 tyX12_ok nmX12 hown X.1 hP hD hS 0 rfl rfl 17 (by decide) (hg _ wf_X12_242) (fun _ h9 => h9) rfl (by decide +kernel) rfl rfl (Nat.le_of_ble_eq_true rfl) dX12_law_90 (fun H locs hP hD hS => ?_)
          have hP : va_P E.1 vwCl (cw_X12 E q0 S0_9) H := by rw [eS]; exact hP
          have hD : va_D A (cw_X12 E q0 S0_9) := by rw [eS]; exact hD
          clear eS
          refine lv_iconst (v := 0) hx hb dX12_law_93 (by decide) ?_
          refine lv_istore_n (lv' := [(3, .int 0), (0, .ref (q0 0)), (2, .int x2)]) hx hb dX12_law_94 rfl hl (by decide) rfl (fun ls hl => ?_)
          exact N95 fu S0_9 0 _ _ _ h hP hD hS (lv_sub hl [1, 0] rfl)
        · have h := it_t h c8
          refine lv_aload_n hx hb dX12_law_80 rfl (lv_at hl 0 rfl) ?_
          refine va_get (D := E.1) (ci := 11) (v := .int (S0_7.1 11)) (C := RX12) (T := TX12) (N := 57) hx hb hg in_X12 hown X.1 hP 0 rfl rfl 11 (by decide) (hg _ wf_X12_160) (fun _ h9 => h9) rfl dX12_law_81 ?_
          exact RT (S0_7.1 11) S0_7 _ _ _ _ h rfl hP hD hS dX12_law_84
      · have h := it_f h c6
        refine lv_aload_n hx hb dX12_law_35 rfl (lv_at hl 0 rfl) ?_
        refine va_get (D := E.1) (ci := 11) (v := .int (S0.1 9)) (C := RX12) (T := TX12) (N := 57) hx hb hg in_X12 hown X.1 hP 0 rfl rfl 9 (by decide) (hg _ wf_X12_150) (fun _ h9 => h9) rfl dX12_law_36 ?_
        refine lv_aload_n hx hb dX12_law_39 rfl (lv_at hl 0 rfl) ?_
        refine va_get (D := E.1) (ci := 11) (v := .int (S0.1 10)) (C := RX12) (T := TX12) (N := 57) hx hb hg in_X12 hown X.1 hP 0 rfl rfl 10 (by decide) (hg _ wf_X12_153) (fun _ h9 => h9) rfl dX12_law_40 ?_
        refine lv_icmp_ge (tgt := 71) hx hb dX12_law_43 (by decide) (fun c10 => ?_) (fun c10 => ?_)
        · have h := it_t h c10
          refine lv_aload_n hx hb dX12_law_71 rfl (lv_at hl 0 rfl) ?_
          refine lv_iconst (v := 0) hx hb dX12_law_72 (by decide) ?_
          obtain ⟨S0_11, eS, h⟩ := lt_el h
          refine va_put (D := E.1) (ci := 11) (v := .int 0) (ty := .int) (C := RX12) (T := TX12) (N := 57) hx hb hg in_X12 tyX12 tyX12_ok nmX12 hown X.1 hP hD hS 0 rfl rfl 8 (by decide) (hg _ wf_X12_143) (fun _ h9 => h9) rfl (by decide +kernel) rfl rfl (Nat.le_of_ble_eq_true rfl) dX12_law_73 (fun H locs hP hD hS => ?_)
          have hP : va_P E.1 vwCl (cw_X12 E q0 S0_11) H := by rw [eS]; exact hP
          have hD : va_D A (cw_X12 E q0 S0_11) := by rw [eS]; exact hD
          clear eS
          refine lv_iload_n hx hb dX12_law_76 rfl (lv_at hl 1 rfl) ?_
          refine lv_if_ne (tgt := 85) hx hb dX12_law_77 (by decide) (fun c12 => ?_) (fun c12 => ?_)
          · have h := it_f h c12
            refine lv_aload_n hx hb dX12_law_85 rfl (lv_at hl 0 rfl) ?_
            refine lv_aload_n hx hb dX12_law_86 rfl (lv_at hl 0 rfl) ?_
            refine va_get (D := E.1) (ci := 11) (v := .int (S0_11.1 16)) (C := RX12) (T := TX12) (N := 57) hx hb hg in_X12 hown X.1 hP 0 rfl rfl 16 (by decide) (hg _ wf_X12_227) (fun _ h9 => h9) rfl dX12_law_87 ?_
            obtain ⟨S0_13, eS, h⟩ := lt_el h
            refine va_put (D := E.1) (ci := 11) (v := .int (S0_11.1 16)) (ty := .int) (C := RX12) (T := TX12) (N := 57) hx hb hg in_X12 tyX12 tyX12_ok nmX12 hown X.1 hP hD hS 0 rfl rfl 17 (by decide) (hg _ wf_X12_242) (fun _ h9 => h9) rfl (by decide +kernel) rfl rfl (Nat.le_of_ble_eq_true rfl) dX12_law_90 (fun H locs hP hD hS => ?_)
            have hP : va_P E.1 vwCl (cw_X12 E q0 S0_13) H := by rw [eS]; exact hP
            have hD : va_D A (cw_X12 E q0 S0_13) := by rw [eS]; exact hD
            clear eS
            refine lv_iconst (v := 0) hx hb dX12_law_93 (by decide) ?_
            refine lv_istore_n (lv' := [(3, .int 0), (0, .ref (q0 0)), (2, .int x2)]) hx hb dX12_law_94 rfl hl (by decide) rfl (fun ls hl => ?_)
            exact N95 fu S0_13 0 _ _ _ h hP hD hS (lv_sub hl [1, 0] rfl)
          · have h := it_t h c12
            refine lv_aload_n hx hb dX12_law_80 rfl (lv_at hl 0 rfl) ?_
            refine va_get (D := E.1) (ci := 11) (v := .int (S0_11.1 11)) (C := RX12) (T := TX12) (N := 57) hx hb hg in_X12 hown X.1 hP 0 rfl rfl 11 (by decide) (hg _ wf_X12_160) (fun _ h9 => h9) rfl dX12_law_81 ?_
            exact RT (S0_11.1 11) S0_11 _ _ _ _ h rfl hP hD hS dX12_law_84
        · have h := it_f h c10
          refine lv_aload_n hx hb dX12_law_46 rfl (lv_at hl 0 rfl) ?_
          refine lv_bipush (v := 59) hx hb dX12_law_47 (by decide) ?_
          obtain ⟨u14, hc, h⟩ := bd_el h
          refine ct_iA (w1 := cw_X12 E q0 u14.2) X hP hD hS (va_runV (C := RX12) (As := [.int 59]) (rest := []) ⟨hx, hb, hml, hown, hg⟩ (c_X12_takes l E q0 H.size S0 59 u14 hc) (cwV 1 hg (gwV wm_X12_239 wi_X12_takes wsl_X12_takes wini_X12 wco_X12_takes) rfl rfl rfl (by decide +kernel) ⟨Nat.le_of_ble_eq_true rfl, Nat.le_of_ble_eq_true rfl⟩) ⟨ct_blind, ct_rv X.1 hP 0 rfl rfl, ct_preA X hP hD hS _⟩ rfl rfl hl.1 rfl (lv_room (Nat.le_of_ble_eq_true rfl)) dX12_law_49 ⟨Nat.zero_le _, Nat.zero_le _⟩) (fun H locs hP hD hS => ?_)
          refine lv_if_eq (tgt := 66) hx hb dX12_law_52 (by decide) (fun c15 => ?_) (fun c15 => ?_)
          · have h := it_t h c15
            refine lv_iconst (v := 0) hx hb dX12_law_66 (by decide) ?_
            refine lv_istore_n (lv' := [(2, .int 0), (0, .ref (q0 0))]) hx hb dX12_law_67 rfl hl (by decide) rfl (fun ls hl => ?_)
            refine lv_goto (tgt := 31) hx hb dX12_law_68 (by decide) ?_
            exact ih u14.2 0 _ _ _ h hP hD hS (lv_sub hl [1, 0] rfl)
          · have h := it_f h c15
            refine lv_aload_n hx hb dX12_law_55 rfl (lv_at hl 0 rfl) ?_
            obtain ⟨u16, hc, h⟩ := bd_el h
            refine ct_iA (w1 := cw_X12 E q0 u16.2) X hP hD hS (va_runV (C := RX12) (As := []) (rest := []) ⟨hx, hb, hml, hown, hg⟩ (c_X12_readsRule l E q0 H.size u14.2 u16 hc) (cwV 0 hg (gwV wm_X12_236 wi_X12_readsRule wsl_X12_readsRule wini_X12 wco_X12_readsRule) rfl rfl rfl (by decide +kernel) ⟨Nat.le_of_ble_eq_true rfl, Nat.le_of_ble_eq_true rfl⟩) ⟨ct_blind, ct_rv X.1 hP 0 rfl rfl, ct_preA X hP hD hS _⟩ rfl rfl hl.1 rfl (lv_room (Nat.le_of_ble_eq_true rfl)) dX12_law_56 ⟨Nat.zero_le _, Nat.zero_le _⟩) (fun H locs hP hD hS => ?_)
            refine lv_if_eq (tgt := 66) hx hb dX12_law_59 (by decide) (fun c17 => ?_) (fun c17 => ?_)
            · have h := it_t h c17
              refine lv_iconst (v := 0) hx hb dX12_law_66 (by decide) ?_
              refine lv_istore_n (lv' := [(2, .int 0), (0, .ref (q0 0))]) hx hb dX12_law_67 rfl hl (by decide) rfl (fun ls hl => ?_)
              refine lv_goto (tgt := 31) hx hb dX12_law_68 (by decide) ?_
              exact ih u16.2 0 _ _ _ h hP hD hS (lv_sub hl [1, 0] rfl)
            · have h := it_f h c17
              refine lv_iconst (v := 1) hx hb dX12_law_62 (by decide) ?_
              refine lv_goto (tgt := 67) hx hb dX12_law_63 (by decide) ?_
              refine lv_istore_n (lv' := [(2, .int 1), (0, .ref (q0 0))]) hx hb dX12_law_67 rfl hl (by decide) rfl (fun ls hl => ?_)
              refine lv_goto (tgt := 31) hx hb dX12_law_68 (by decide) ?_
              exact ih u16.2 1 _ _ _ h hP hD hS (lv_sub hl [1, 0] rfl)
  obtain ⟨H, eH⟩ : ∃ z, z = s.heap := ⟨_, rfl⟩
  rw [← eH]
  have hP : va_P E.1 vwCl (cw_X12 E q0 S0) H := by rw [eH]; exact hP
  have hS : va_S A s.heap H [] := by rw [eH]; exact hS
  clear eH
  obtain ⟨locs, el⟩ : ∃ z : List Loc, z = [] := ⟨_, rfl⟩
  rw [← el] at hS ⊢
  clear el
  refine lv_iload_n hx hb dX12_law_0 rfl (lv_at hl 1 rfl) ?_
  refine lv_iconst (v := 1) hx hb dX12_law_1 (by decide) ?_
  refine lv_sipush (v := 240) hx hb dX12_law_2 (by decide) ?_
  obtain ⟨u1, hc, h⟩ := bd_el h
  refine ct_iN X hP hD hS (va_runS (As := [.int x1, .int 1, .int 240]) (rest := []) ⟨hx, hb, hml, hown, hg⟩ (c_X12_in l E  H.size x1 1 240 u1 hc) (va_cwS 3 hg (gwS wm_X12_110 wst_X12_in wini_X12 wco_X12_in) rfl rfl rfl (by decide +kernel) ⟨Nat.le_of_ble_eq_true rfl, Nat.le_of_ble_eq_true rfl⟩) ⟨ct_blind, ct_preN X hS _⟩ rfl rfl hl.1 rfl (lv_room (Nat.le_of_ble_eq_true rfl)) dX12_law_5 ⟨Nat.zero_le _, Nat.zero_le _⟩) (fun H locs hP hD hS => ?_)
  refine lv_if_eq (tgt := 19) hx hb dX12_law_8 (by decide) (fun c2 => ?_) (fun c2 => ?_)
  · have h := it_t h c2
    refine lv_iconst (v := (-1)) hx hb dX12_law_19 (by decide) ?_
    exact RT (-1) S0 _ _ _ _ h rfl hP hD hS dX12_law_20
  · have h := it_f h c2
    refine lv_iload_n hx hb dX12_law_11 rfl (lv_at hl 1 rfl) ?_
    refine lv_aload_n hx hb dX12_law_12 rfl (lv_at hl 0 rfl) ?_
    refine va_get (D := E.1) (ci := 11) (v := .int (S0.1 8)) (C := RX12) (T := TX12) (N := 57) hx hb hg in_X12 hown X.1 hP 0 rfl rfl 8 (by decide) (hg _ wf_X12_143) (fun _ h9 => h9) rfl dX12_law_13 ?_
    refine lv_icmp_le (tgt := 21) hx hb dX12_law_16 (by decide) (fun c3 => ?_) (fun c3 => ?_)
    · have h := it_t h c3
      refine lv_aload_n hx hb dX12_law_21 rfl (lv_at hl 0 rfl) ?_
      refine lv_iload_n hx hb dX12_law_22 rfl (lv_at hl 1 rfl) ?_
      obtain ⟨u4, hc, h⟩ := bd_el h
      refine ct_vA (w1 := cw_X12 E q0 u4) X hP hD hS (va_runV (C := RX12) (As := [.int x1]) (rest := []) ⟨hx, hb, hml, hown, hg⟩ (c_X12_beginsText l E q0 H.size S0 x1 u4 hc) (cwV 1 hg (gwV wm_X12_233 wi_X12_beginsText wsl_X12_beginsText wini_X12 wco_X12_beginsText) rfl rfl rfl (by decide +kernel) ⟨Nat.le_of_ble_eq_true rfl, Nat.le_of_ble_eq_true rfl⟩) ⟨ct_blind, ct_rv X.1 hP 0 rfl rfl, ct_preA X hP hD hS _⟩ rfl rfl hl.1 rfl (lv_room (Nat.le_of_ble_eq_true rfl)) dX12_law_23 ⟨Nat.zero_le _, Nat.zero_le _⟩) (fun H locs hP hD hS => ?_)
      refine lv_aload_n hx hb dX12_law_26 rfl (lv_at hl 0 rfl) ?_
      obtain ⟨u5, hc, h⟩ := bd_el h
      refine ct_iA (w1 := cw_X12 E q0 u5.2) X hP hD hS (va_runV (C := RX12) (As := []) (rest := []) ⟨hx, hb, hml, hown, hg⟩ (c_X12_readsRule l E q0 H.size u4 u5 hc) (cwV 0 hg (gwV wm_X12_236 wi_X12_readsRule wsl_X12_readsRule wini_X12 wco_X12_readsRule) rfl rfl rfl (by decide +kernel) ⟨Nat.le_of_ble_eq_true rfl, Nat.le_of_ble_eq_true rfl⟩) ⟨ct_blind, ct_rv X.1 hP 0 rfl rfl, ct_preA X hP hD hS _⟩ rfl rfl hl.1 rfl (lv_room (Nat.le_of_ble_eq_true rfl)) dX12_law_27 ⟨Nat.zero_le _, Nat.zero_le _⟩) (fun H locs hP hD hS => ?_)
      refine lv_istore_n (lv' := [(2, .int u5.1), (0, .ref (q0 0)), (1, .int x1)]) hx hb dX12_law_30 rfl hl (by decide) rfl (fun ls hl => ?_)
      exact N31 fu u5.2 u5.1 _ _ _ h hP hD hS (lv_sub hl [1, 0] rfl)
    · have h := it_f h c3
      refine lv_iconst (v := (-1)) hx hb dX12_law_19 (by decide) ?_
      exact RT (-1) S0 _ _ _ _ h rfl hP hD hS dX12_law_20
