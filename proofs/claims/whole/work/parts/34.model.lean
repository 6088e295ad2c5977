theorem dX12_isMended_0 : decode cX12_isMended 0 = .ok (.iconst 0, 1) := by decide +kernel
theorem dX12_isMended_1 : decode cX12_isMended 1 = .ok (.istore_n 2, 1) := by decide +kernel
theorem dX12_isMended_2 : decode cX12_isMended 2 = .ok (.iload_n 2, 1) := by decide +kernel
theorem dX12_isMended_3 : decode cX12_isMended 3 = .ok (.bipush 8, 2) := by decide +kernel
theorem dX12_isMended_5 : decode cX12_isMended 5 = .ok (.if_icmp .ge 64, 3) := by decide +kernel
theorem dX12_isMended_8 : decode cX12_isMended 8 = .ok (.aload_n 0, 1) := by decide +kernel
theorem dX12_isMended_9 : decode cX12_isMended 9 = .ok (.getfield 311, 3) := by decide +kernel
theorem dX12_isMended_12 : decode cX12_isMended 12 = .ok (.iload_n 2, 1) := by decide +kernel
theorem dX12_isMended_13 : decode cX12_isMended 13 = .ok (.invokestatic 118, 3) := by decide +kernel
theorem dX12_isMended_16 : decode cX12_isMended 16 = .ok (.ifCond .eq 6, 3) := by decide +kernel
theorem dX12_isMended_19 : decode cX12_isMended 19 = .ok (.goto 44, 3) := by decide +kernel
theorem dX12_isMended_22 : decode cX12_isMended 22 = .ok (.aload_n 0, 1) := by decide +kernel
theorem dX12_isMended_23 : decode cX12_isMended 23 = .ok (.iload_n 1, 1) := by decide +kernel
theorem dX12_isMended_24 : decode cX12_isMended 24 = .ok (.bipush 8, 2) := by decide +kernel
theorem dX12_isMended_26 : decode cX12_isMended 26 = .ok (.iload_n 2, 1) := by decide +kernel
theorem dX12_isMended_27 : decode cX12_isMended 27 = .ok (.invokevirtual 301, 3) := by decide +kernel
theorem dX12_isMended_30 : decode cX12_isMended 30 = .ok (.iconst 0, 1) := by decide +kernel
theorem dX12_isMended_31 : decode cX12_isMended 31 = .ok (.bipush 8, 2) := by decide +kernel
theorem dX12_isMended_33 : decode cX12_isMended 33 = .ok (.iload_n 1, 1) := by decide +kernel
theorem dX12_isMended_34 : decode cX12_isMended 34 = .ok (.imul, 1) := by decide +kernel
theorem dX12_isMended_35 : decode cX12_isMended 35 = .ok (.iadd, 1) := by decide +kernel
theorem dX12_isMended_36 : decode cX12_isMended 36 = .ok (.iload_n 2, 1) := by decide +kernel
theorem dX12_isMended_37 : decode cX12_isMended 37 = .ok (.iadd, 1) := by decide +kernel
theorem dX12_isMended_38 : decode cX12_isMended 38 = .ok (.istore_n 3, 1) := by decide +kernel
theorem dX12_isMended_39 : decode cX12_isMended 39 = .ok (.aload_n 0, 1) := by decide +kernel
theorem dX12_isMended_40 : decode cX12_isMended 40 = .ok (.getfield 7, 3) := by decide +kernel
theorem dX12_isMended_43 : decode cX12_isMended 43 = .ok (.iload_n 3, 1) := by decide +kernel
theorem dX12_isMended_44 : decode cX12_isMended 44 = .ok (.bipush 99, 2) := by decide +kernel
theorem dX12_isMended_46 : decode cX12_isMended 46 = .ok (.aload_n 0, 1) := by decide +kernel
theorem dX12_isMended_47 : decode cX12_isMended 47 = .ok (.getfield 7, 3) := by decide +kernel
theorem dX12_isMended_50 : decode cX12_isMended 50 = .ok (.iload_n 3, 1) := by decide +kernel
theorem dX12_isMended_51 : decode cX12_isMended 51 = .ok (.iaload, 1) := by decide +kernel
theorem dX12_isMended_52 : decode cX12_isMended 52 = .ok (.aload_n 0, 1) := by decide +kernel
theorem dX12_isMended_53 : decode cX12_isMended 53 = .ok (.bipush 109, 2) := by decide +kernel
theorem dX12_isMended_55 : decode cX12_isMended 55 = .ok (.invokevirtual 308, 3) := by decide +kernel
theorem dX12_isMended_58 : decode cX12_isMended 58 = .ok (.iadd, 1) := by decide +kernel
theorem dX12_isMended_59 : decode cX12_isMended 59 = .ok (.invokestatic 317, 3) := by decide +kernel
theorem dX12_isMended_62 : decode cX12_isMended 62 = .ok (.iastore, 1) := by decide +kernel
theorem dX12_isMended_63 : decode cX12_isMended 63 = .ok (.iinc 2 1, 3) := by decide +kernel
theorem dX12_isMended_66 : decode cX12_isMended 66 = .ok (.goto (-64), 3) := by decide +kernel
theorem dX12_isMended_69 : decode cX12_isMended 69 = .ok (.return_, 1) := by decide +kernel
def f_X12_isMended_n2 (x1 : Int32) : Nat → Gr → Int32 → Option (Gr)
  | 0, _, _ => none
  | n + 1, S0, x2 => if 8 ≤ x2 then (some S0) else ((f_X12_has (S0.1 40) x2).bind fun u2 => if u2 = 0 then ((f_X12_sets S0 x1 8 x2).bind fun u4 => lt' (((0 + (8 * x1)) + x2)) fun v5 => rd' (u4.2 0) 82 v5 fun v6 => (f_X12_byLaw u4 109).bind fun u7 => (f_X12_min 99 (v6 + u7.1)).bind fun u8 => ck' 82 v5 (lt' (sA u7.2 0 (Int32.toNatClampNeg v5) u8) fun S0_9 => lt' (x2 + 1) fun v10 => f_X12_isMended_n2 x1 n S0_9 v10)) else (lt' (x2 + 1) fun v11 => f_X12_isMended_n2 x1 n S0 v11))
def f_X12_isMended (S0 : Gr) (x1 : Int32) : Option (Gr) := f_X12_isMended_n2 x1 fu S0 0
set_option maxHeartbeats 4000000 in
set_option maxRecDepth 100000 in
theorem c_X12_isMended (l : Launch) (E : Ec) (q0 : Nat → Nat) (sz : Nat) (S0 : Gr) (x1 : Int32) (Rv : Gr) (h : f_X12_isMended S0 x1 = some Rv) : Met l yX12_isMended (wsM (.code yX12_isMended cX12_isMended 4 none)) ({ frames := 3, cells := 0, slots := 0, locals := 72 } : Room) (va_Pc [.ref (q0 0), .int x1] (ctP E (cw_X12 E q0 S0) sz)) (ctV E (cw_X12 E q0 S0) (cw_X12 E q0 Rv) sz) 0 0 (va_A (cw_X12 E q0 S0) sz) := by
  refine ct_metV (by decide) (Nat.le_of_ble_eq_true rfl) ?_
  intro p e s m ar below meth c A QM hx hb hml hown hg X hP hD hS RET ls hl
  have hown : s.vm.findClass RX12 = some m.cls := hown
  have hl : lv_has ls 4 [(0, .ref (q0 0)), (1, .int x1)] := hl
  have RT : ∀ (S0 : Gr) (H : Heap) (locs : List Loc) (ls : Array Slot) (pc : Nat), some S0 = some Rv → va_P E.1 vwCl (cw_X12 E q0 S0) H → va_D A (cw_X12 E q0 S0) → va_S A s.heap H locs → decode cX12_isMended pc = .ok (.return_, 1) → W p l e ({ frames := 3, cells := 0, slots := 0, locals := 72 } : Room) s m ar below meth c H locs 0 0 QM (F0 m pc ls []) := by
    intro S0 H locs ls pc e hP hD hS d
    obtain rfl := sm_e e
    exact RET H locs pc ls hP hD hS d
  clear RET
  have N2 : ∀ (n : Nat) (S0 : Gr) (x2 : Int32) (H : Heap) (locs : List Loc) (ls : Array Slot), f_X12_isMended_n2 x1 n S0 x2 = some Rv → va_P E.1 vwCl (cw_X12 E q0 S0) H → va_D A (cw_X12 E q0 S0) → va_S A s.heap H locs → lv_has ls 4 [(0, .ref (q0 0)), (1, .int x1), (2, .int x2)] → W p l e ({ frames := 3, cells := 0, slots := 0, locals := 72 } : Room) s m ar below meth c H locs 0 0 QM (F0 m 2 ls []) := by
    intro n
    induction n with
    | zero => intro S0 x2 H locs ls h; exact nn_el h
    | succ n ih =>
      intro S0 x2 H locs ls h hP hD hS hl
      refine lv_iload_n hx hb dX12_isMended_2 rfl (lv_at hl 2 rfl) ?_
      refine lv_bipush (v := 8) hx hb dX12_isMended_3 (by decide) ?_
      refine lv_icmp_ge (tgt := 69) hx hb dX12_isMended_5 (by decide) (fun c1 => ?_) (fun c1 => ?_)
      · have h := it_t h c1
        exact RT S0 _ _ _ _ h hP hD hS dX12_isMended_69
      · have h := it_f h c1
        refine lv_aload_n hx hb dX12_isMended_8 rfl (lv_at hl 0 rfl) ?_
        refine va_get (D := E.1) (ci := 11) (v := .int (S0.1 40)) (C := RX12) (T := TX12) (N := 57) hx hb hg in_X12 hown X.1 hP 0 rfl rfl 40 (by decide) (hg _ wf_X12_311) (fun _ h9 => h9) rfl dX12_isMended_9 ?_
        refine lv_iload_n hx hb dX12_isMended_12 rfl (lv_at hl 2 rfl) ?_
        obtain ⟨u2, hc, h⟩ := bd_el h
        refine ct_iN X hP hD hS (va_runS (As := [.int (S0.1 40), .int x2]) (rest := []) ⟨hx, hb, hml, hown, hg⟩ (c_X12_has l E  H.size (S0.1 40) x2 u2 hc) (va_cwS 2 hg (gwS wm_X12_118 wst_X12_has wini_X12 wco_X12_has) rfl rfl rfl (by decide +kernel) ⟨Nat.le_of_ble_eq_true rfl, Nat.le_of_ble_eq_true rfl⟩) ⟨ct_blind, ct_preN X hS _⟩ rfl rfl hl.1 rfl (lv_room (Nat.le_of_ble_eq_true rfl)) dX12_isMended_13 ⟨Nat.zero_le _, Nat.zero_le _⟩) (fun H locs hP hD hS => ?_)
        refine lv_if_eq (tgt := 22) hx hb dX12_isMended_16 (by decide) (fun c3 => ?_) (fun c3 => ?_)
        · have h := it_t h c3
          refine lv_aload_n hx hb dX12_isMended_22 rfl (lv_at hl 0 rfl) ?_
          refine lv_iload_n hx hb dX12_isMended_23 rfl (lv_at hl 1 rfl) ?_
          refine lv_bipush (v := 8) hx hb dX12_isMended_24 (by decide) ?_
          refine lv_iload_n hx hb dX12_isMended_26 rfl (lv_at hl 2 rfl) ?_
          obtain ⟨u4, hc, h⟩ := bd_el h
          refine ct_vA (w1 := cw_X12 E q0 u4) X hP hD hS (va_runV (C := RX12) (As := [.int x1, .int 8, .int x2]) (rest := []) ⟨hx, hb, hml, hown, hg⟩ (c_X12_sets l E q0 H.size S0 x1 8 x2 u4 hc) (cwV 3 hg (gwV wm_X12_301 wi_X12_sets wsl_X12_sets wini_X12 wco_X12_sets) rfl rfl rfl (by decide +kernel) ⟨Nat.le_of_ble_eq_true rfl, Nat.le_of_ble_eq_true rfl⟩) ⟨ct_blind, ct_rv X.1 hP 0 rfl rfl, ct_preA X hP hD hS _⟩ rfl rfl hl.1 rfl (lv_room (Nat.le_of_ble_eq_true rfl)) dX12_isMended_27 ⟨Nat.zero_le _, Nat.zero_le _⟩) (fun H locs hP hD hS => ?_)
          refine lv_iconst (v := 0) hx hb dX12_isMended_30 (by decide) ?_
          refine lv_bipush (v := 8) hx hb dX12_isMended_31 (by decide) ?_
          refine lv_iload_n hx hb dX12_isMended_33 rfl (lv_at hl 1 rfl) ?_
          refine lv_imul hx hb dX12_isMended_34 ?_
          refine lv_iadd hx hb dX12_isMended_35 ?_
          refine lv_iload_n hx hb dX12_isMended_36 rfl (lv_at hl 2 rfl) ?_
          refine lv_iadd hx hb dX12_isMended_37 ?_
          obtain ⟨v5, ev5, h⟩ := lt_el h
          refine lv_top' ev5 ?_
          refine lv_istore_n (lv' := [(3, .int v5), (0, .ref (q0 0)), (1, .int x1), (2, .int x2)]) hx hb dX12_isMended_38 rfl hl (by decide) rfl (fun ls hl => ?_)
          refine lv_aload_n hx hb dX12_isMended_39 rfl (lv_at hl 1 rfl) ?_
          refine va_get (D := E.1) (ci := 11) (v := .ref (q0 1)) (C := RX12) (T := TX12) (N := 57) hx hb hg in_X12 hown X.1 hP 0 rfl rfl 0 (by decide) (hg _ wf_X12_7) (fun _ h9 => h9) rfl dX12_isMended_40 ?_
          refine lv_iload_n hx hb dX12_isMended_43 rfl (lv_at hl 0 rfl) ?_
          refine lv_bipush (v := 99) hx hb dX12_isMended_44 (by decide) ?_
          refine lv_aload_n hx hb dX12_isMended_46 rfl (lv_at hl 1 rfl) ?_
          refine va_get (D := E.1) (ci := 11) (v := .ref (q0 1)) (C := RX12) (T := TX12) (N := 57) hx hb hg in_X12 hown X.1 hP 0 rfl rfl 0 (by decide) (hg _ wf_X12_7) (fun _ h9 => h9) rfl dX12_isMended_47 ?_
          refine lv_iload_n hx hb dX12_isMended_50 rfl (lv_at hl 0 rfl) ?_
          obtain ⟨hi, v6, ev6, h⟩ := rd_el h
          refine va_iald hx hb X.1 hP 1 0 rfl rfl hi dX12_isMended_51 ?_
          refine lv_top' ev6 ?_
          refine lv_aload_n hx hb dX12_isMended_52 rfl (lv_at hl 1 rfl) ?_
          refine lv_bipush (v := 109) hx hb dX12_isMended_53 (by decide) ?_
          obtain ⟨u7, hc, h⟩ := bd_el h
          refine ct_iA (w1 := cw_X12 E q0 u7.2) X hP hD hS (va_runV (C := RX12) (As := [.int 109]) (rest := [.int v6, .int 99, .int v5, .ref (q0 1)]) ⟨hx, hb, hml, hown, hg⟩ (c_X12_byLaw l E q0 H.size u4 109 u7 hc) (cwV 1 hg (gwV wm_X12_308 wi_X12_byLaw wsl_X12_byLaw wini_X12 wco_X12_byLaw) rfl rfl rfl (by decide +kernel) ⟨Nat.le_of_ble_eq_true rfl, Nat.le_of_ble_eq_true rfl⟩) ⟨ct_blind, ct_rv X.1 hP 0 rfl rfl, ct_preA X hP hD hS _⟩ rfl rfl hl.1 rfl (lv_room (Nat.le_of_ble_eq_true rfl)) dX12_isMended_55 ⟨Nat.zero_le _, Nat.zero_le _⟩) (fun H locs hP hD hS => ?_)
          refine lv_iadd hx hb dX12_isMended_58 ?_
          obtain ⟨u8, hc, h⟩ := bd_el h
          refine ct_iN X hP hD hS (va_runS (As := [.int 99, .int (v6 + u7.1)]) (rest := [.int v5, .ref (q0 1)]) ⟨hx, hb, hml, hown, hg⟩ (c_X12_min l E  H.size 99 (v6 + u7.1) u8 hc) (va_cwS 2 hg (gwS wm_X12_317 wst_X12_min wini_X12 wco_X12_min) rfl rfl rfl (by decide +kernel) ⟨Nat.le_of_ble_eq_true rfl, Nat.le_of_ble_eq_true rfl⟩) ⟨ct_blind, ct_preN X hS _⟩ rfl rfl hl.1 rfl (lv_room (Nat.le_of_ble_eq_true rfl)) dX12_isMended_59 ⟨Nat.zero_le _, Nat.zero_le _⟩) (fun H locs hP hD hS => ?_)
          obtain ⟨hi, h⟩ := ck_el h
          obtain ⟨S0_9, eS, h⟩ := lt_el h
          refine va_iast hx hb X.1 hP hD hS 1 0 rfl rfl hi dX12_isMended_62 (fun H locs hP hD hS => ?_)
          have hP : va_P E.1 vwCl (cw_X12 E q0 S0_9) H := by rw [eS]; exact hP
          have hD : va_D A (cw_X12 E q0 S0_9) := by rw [eS]; exact hD
          clear eS
          obtain ⟨v10, ev10, h⟩ := lt_el h
          refine lv_iinc (v := v10) (lv' := [(2, .int v10), (3, .int v5), (0, .ref (q0 0)), (1, .int x1)]) hx hb dX12_isMended_63 hl (k := 3) rfl (by rw [ev10]; rfl) (by decide) rfl (fun ls hl => ?_)
          refine lv_goto (tgt := 2) hx hb dX12_isMended_66 (by decide) ?_
          exact ih S0_9 v10 _ _ _ h hP hD hS (lv_sub hl [2, 3, 0] rfl)
        · have h := it_f h c3
          refine lv_goto (tgt := 63) hx hb dX12_isMended_19 (by decide) ?_
          obtain ⟨v11, ev11, h⟩ := lt_el h
          refine lv_iinc (v := v11) (lv' := [(2, .int v11), (0, .ref (q0 0)), (1, .int x1)]) hx hb dX12_isMended_63 hl (k := 2) rfl (by rw [ev11]; rfl) (by decide) rfl (fun ls hl => ?_)
          refine lv_goto (tgt := 2) hx hb dX12_isMended_66 (by decide) ?_
          exact ih S0 v11 _ _ _ h hP hD hS (lv_sub hl [1, 2, 0] rfl)
  obtain ⟨H, eH⟩ : ∃ z, z = s.heap := ⟨_, rfl⟩
  rw [← eH]
  have hP : va_P E.1 vwCl (cw_X12 E q0 S0) H := by rw [eH]; exact hP
  have hS : va_S A s.heap H [] := by rw [eH]; exact hS
  clear eH
  obtain ⟨locs, el⟩ : ∃ z : List Loc, z = [] := ⟨_, rfl⟩
  rw [← el] at hS ⊢
  clear el
  refine lv_iconst (v := 0) hx hb dX12_isMended_0 (by decide) ?_
  refine lv_istore_n (lv' := [(2, .int 0), (0, .ref (q0 0)), (1, .int x1)]) hx hb dX12_isMended_1 rfl hl (by decide) rfl (fun ls hl => ?_)
  exact N2 fu S0 0 _ _ _ h hP hD hS (lv_sub hl [1, 2, 0] rfl)
theorem dX12_sails_0 : decode cX12_sails 0 = .ok (.aload_n 0, 1) := by decide +kernel
theorem dX12_sails_1 : decode cX12_sails 1 = .ok (.iload_n 1, 1) := by decide +kernel
theorem dX12_sails_2 : decode cX12_sails 2 = .ok (.invokevirtual 282, 3) := by decide +kernel
theorem dX12_sails_5 : decode cX12_sails 5 = .ok (.ifCond .eq 16, 3) := by decide +kernel
theorem dX12_sails_8 : decode cX12_sails 8 = .ok (.aload_n 0, 1) := by decide +kernel
theorem dX12_sails_9 : decode cX12_sails 9 = .ok (.getfield 7, 3) := by decide +kernel
theorem dX12_sails_12 : decode cX12_sails 12 = .ok (.bipush 72, 2) := by decide +kernel
theorem dX12_sails_14 : decode cX12_sails 14 = .ok (.iload_n 1, 1) := by decide +kernel
theorem dX12_sails_15 : decode cX12_sails 15 = .ok (.iadd, 1) := by decide +kernel
theorem dX12_sails_16 : decode cX12_sails 16 = .ok (.iaload, 1) := by decide +kernel
theorem dX12_sails_17 : decode cX12_sails 17 = .ok (.iconst (-1), 1) := by decide +kernel
theorem dX12_sails_18 : decode cX12_sails 18 = .ok (.if_icmp .ne 4, 3) := by decide +kernel
theorem dX12_sails_21 : decode cX12_sails 21 = .ok (.return_, 1) := by decide +kernel
theorem dX12_sails_22 : decode cX12_sails 22 = .ok (.aload_n 0, 1) := by decide +kernel
theorem dX12_sails_23 : decode cX12_sails 23 = .ok (.getfield 7, 3) := by decide +kernel
theorem dX12_sails_26 : decode cX12_sails 26 = .ok (.bipush 64, 2) := by decide +kernel
theorem dX12_sails_28 : decode cX12_sails 28 = .ok (.iload_n 1, 1) := by decide +kernel
theorem dX12_sails_29 : decode cX12_sails 29 = .ok (.iadd, 1) := by decide +kernel
theorem dX12_sails_30 : decode cX12_sails 30 = .ok (.iaload, 1) := by decide +kernel
theorem dX12_sails_31 : decode cX12_sails 31 = .ok (.aload_n 0, 1) := by decide +kernel
theorem dX12_sails_32 : decode cX12_sails 32 = .ok (.getfield 7, 3) := by decide +kernel
theorem dX12_sails_35 : decode cX12_sails 35 = .ok (.bipush 72, 2) := by decide +kernel
theorem dX12_sails_37 : decode cX12_sails 37 = .ok (.iload_n 1, 1) := by decide +kernel
theorem dX12_sails_38 : decode cX12_sails 38 = .ok (.iadd, 1) := by decide +kernel
theorem dX12_sails_39 : decode cX12_sails 39 = .ok (.iaload, 1) := by decide +kernel
theorem dX12_sails_40 : decode cX12_sails 40 = .ok (.invokestatic 285, 3) := by decide +kernel
theorem dX12_sails_43 : decode cX12_sails 43 = .ok (.istore_n 2, 1) := by decide +kernel
theorem dX12_sails_44 : decode cX12_sails 44 = .ok (.iload_n 2, 1) := by decide +kernel
theorem dX12_sails_45 : decode cX12_sails 45 = .ok (.iconst (-1), 1) := by decide +kernel
theorem dX12_sails_46 : decode cX12_sails 46 = .ok (.if_icmp .ne 29, 3) := by decide +kernel
theorem dX12_sails_49 : decode cX12_sails 49 = .ok (.aload_n 0, 1) := by decide +kernel
theorem dX12_sails_50 : decode cX12_sails 50 = .ok (.getfield 7, 3) := by decide +kernel
theorem dX12_sails_53 : decode cX12_sails 53 = .ok (.bipush 72, 2) := by decide +kernel
theorem dX12_sails_55 : decode cX12_sails 55 = .ok (.iload_n 1, 1) := by decide +kernel
theorem dX12_sails_56 : decode cX12_sails 56 = .ok (.iadd, 1) := by decide +kernel
theorem dX12_sails_57 : decode cX12_sails 57 = .ok (.aload_n 0, 1) := by decide +kernel
theorem dX12_sails_58 : decode cX12_sails 58 = .ok (.getfield 7, 3) := by decide +kernel
theorem dX12_sails_61 : decode cX12_sails 61 = .ok (.bipush 72, 2) := by decide +kernel
theorem dX12_sails_63 : decode cX12_sails 63 = .ok (.iload_n 1, 1) := by decide +kernel
theorem dX12_sails_64 : decode cX12_sails 64 = .ok (.iadd, 1) := by decide +kernel
theorem dX12_sails_65 : decode cX12_sails 65 = .ok (.iaload, 1) := by decide +kernel
theorem dX12_sails_66 : decode cX12_sails 66 = .ok (.iconst 4, 1) := by decide +kernel
theorem dX12_sails_67 : decode cX12_sails 67 = .ok (.iadd, 1) := by decide +kernel
theorem dX12_sails_68 : decode cX12_sails 68 = .ok (.bipush 8, 2) := by decide +kernel
theorem dX12_sails_70 : decode cX12_sails 70 = .ok (.irem, 1) := by decide +kernel
theorem dX12_sails_71 : decode cX12_sails 71 = .ok (.iastore, 1) := by decide +kernel
theorem dX12_sails_72 : decode cX12_sails 72 = .ok (.goto 13, 3) := by decide +kernel
theorem dX12_sails_75 : decode cX12_sails 75 = .ok (.aload_n 0, 1) := by decide +kernel
theorem dX12_sails_76 : decode cX12_sails 76 = .ok (.getfield 7, 3) := by decide +kernel
theorem dX12_sails_79 : decode cX12_sails 79 = .ok (.bipush 64, 2) := by decide +kernel
theorem dX12_sails_81 : decode cX12_sails 81 = .ok (.iload_n 1, 1) := by decide +kernel
theorem dX12_sails_82 : decode cX12_sails 82 = .ok (.iadd, 1) := by decide +kernel
theorem dX12_sails_83 : decode cX12_sails 83 = .ok (.iload_n 2, 1) := by decide +kernel
theorem dX12_sails_84 : decode cX12_sails 84 = .ok (.iastore, 1) := by decide +kernel
theorem dX12_sails_85 : decode cX12_sails 85 = .ok (.return_, 1) := by decide +kernel
def f_X12_sails (S0 : Gr) (x1 : Int32) : Option (Gr) := (f_X12_isFleet S0 x1).bind fun u1 => if u1 = 0 then (some S0) else (rd' (S0.2 0) 82 (72 + x1) fun v3 => if v3 = (-1) then (some S0) else (rd' (S0.2 0) 82 (64 + x1) fun v5 => rd' (S0.2 0) 82 (72 + x1) fun v6 => (f_X12_stepOn v5 v6).bind fun u7 => if u7 = (-1) then (rd' (S0.2 0) 82 (72 + x1) fun v10 => lt' ((v10 + 4) - (v10 + 4) / 8 * 8) fun v11 => ck' 82 (72 + x1) (lt' (sA S0 0 (Int32.toNatClampNeg (72 + x1)) v11) fun S0_12 => some S0_12)) else (ck' 82 (64 + x1) (lt' (sA S0 0 (Int32.toNatClampNeg (64 + x1)) u7) fun S0_9 => some S0_9))))
set_option maxHeartbeats 4000000 in
set_option maxRecDepth 100000 in
theorem c_X12_sails (l : Launch) (E : Ec) (q0 : Nat → Nat) (sz : Nat) (S0 : Gr) (x1 : Int32) (Rv : Gr) (h : f_X12_sails S0 x1 = some Rv) : Met l yX12_sails (wsM (.code yX12_sails cX12_sails 3 none)) ({ frames := 3, cells := 0, slots := 0, locals := 65 } : Room) (va_Pc [.ref (q0 0), .int x1] (ctP E (cw_X12 E q0 S0) sz)) (ctV E (cw_X12 E q0 S0) (cw_X12 E q0 Rv) sz) 0 0 (va_A (cw_X12 E q0 S0) sz) := by
  refine ct_metV (by decide) (Nat.le_of_ble_eq_true rfl) ?_
  intro p e s m ar below meth c A QM hx hb hml hown hg X hP hD hS RET ls hl
  have hown : s.vm.findClass RX12 = some m.cls := hown
  have hl : lv_has ls 3 [(0, .ref (q0 0)), (1, .int x1)] := hl
  have RT : ∀ (S0 : Gr) (H : Heap) (locs : List Loc) (ls : Array Slot) (pc : Nat), some S0 = some Rv → va_P E.1 vwCl (cw_X12 E q0 S0) H → va_D A (cw_X12 E q0 S0) → va_S A s.heap H locs → decode cX12_sails pc = .ok (.return_, 1) → W p l e ({ frames := 3, cells := 0, slots := 0, locals := 65 } : Room) s m ar below meth c H locs 0 0 QM (F0 m pc ls []) := by
    intro S0 H locs ls pc e hP hD hS d
    obtain rfl := sm_e e
    exact RET H locs pc ls hP hD hS d
  clear RET
  obtain ⟨H, eH⟩ : ∃ z, z = s.heap := ⟨_, rfl⟩
  rw [← eH]
  have hP : va_P E.1 vwCl (cw_X12 E q0 S0) H := by rw [eH]; exact hP
  have hS : va_S A s.heap H [] := by rw [eH]; exact hS
  clear eH
  obtain ⟨locs, el⟩ : ∃ z : List Loc, z = [] := ⟨_, rfl⟩
  rw [← el] at hS ⊢
  clear el
  refine lv_aload_n hx hb dX12_sails_0 rfl (lv_at hl 0 rfl) ?_
  refine lv_iload_n hx hb dX12_sails_1 rfl (lv_at hl 1 rfl) ?_
  obtain ⟨u1, hc, h⟩ := bd_el h
  refine ct_iA (w1 := cw_X12 E q0 S0) X hP hD hS (va_runV (C := RX12) (As := [.int x1]) (rest := []) ⟨hx, hb, hml, hown, hg⟩ (c_X12_isFleet l E q0 H.size S0 x1 u1 hc) (cwV 1 hg (gwV wm_X12_282 wi_X12_isFleet wsl_X12_isFleet wini_X12 wco_X12_isFleet) rfl rfl rfl (by decide +kernel) ⟨Nat.le_of_ble_eq_true rfl, Nat.le_of_ble_eq_true rfl⟩) ⟨ct_blind, ct_rv X.1 hP 0 rfl rfl, ct_preA X hP hD hS _⟩ rfl rfl hl.1 rfl (lv_room (Nat.le_of_ble_eq_true rfl)) dX12_sails_2 ⟨Nat.zero_le _, Nat.zero_le _⟩) (fun H locs hP hD hS => ?_)
  refine lv_if_eq (tgt := 21) hx hb dX12_sails_5 (by decide) (fun c2 => ?_) (fun c2 => ?_)
  · have h := it_t h c2
    exact RT S0 _ _ _ _ h hP hD hS dX12_sails_21
  · have h := it_f h c2
    refine lv_aload_n hx hb dX12_sails_8 rfl (lv_at hl 0 rfl) ?_
    refine va_get (D := E.1) (ci := 11) (v := .ref (q0 1)) (C := RX12) (T := TX12) (N := 57) hx hb hg in_X12 hown X.1 hP 0 rfl rfl 0 (by decide) (hg _ wf_X12_7) (fun _ h9 => h9) rfl dX12_sails_9 ?_
    refine lv_bipush (v := 72) hx hb dX12_sails_12 (by decide) ?_
    refine lv_iload_n hx hb dX12_sails_14 rfl (lv_at hl 1 rfl) ?_
    refine lv_iadd hx hb dX12_sails_15 ?_
    obtain ⟨hi, v3, ev3, h⟩ := rd_el h
    refine va_iald hx hb X.1 hP 1 0 rfl rfl hi dX12_sails_16 ?_
    refine lv_top' ev3 ?_
    refine lv_iconst (v := (-1)) hx hb dX12_sails_17 (by decide) ?_
    refine lv_icmp_ne (tgt := 22) hx hb dX12_sails_18 (by decide) (fun c4 => ?_) (fun c4 => ?_)
    · have h := it_f h c4
      refine lv_aload_n hx hb dX12_sails_22 rfl (lv_at hl 0 rfl) ?_
      refine va_get (D := E.1) (ci := 11) (v := .ref (q0 1)) (C := RX12) (T := TX12) (N := 57) hx hb hg in_X12 hown X.1 hP 0 rfl rfl 0 (by decide) (hg _ wf_X12_7) (fun _ h9 => h9) rfl dX12_sails_23 ?_
      refine lv_bipush (v := 64) hx hb dX12_sails_26 (by decide) ?_
      refine lv_iload_n hx hb dX12_sails_28 rfl (lv_at hl 1 rfl) ?_
      refine lv_iadd hx hb dX12_sails_29 ?_
      obtain ⟨hi, v5, ev5, h⟩ := rd_el h
      refine va_iald hx hb X.1 hP 1 0 rfl rfl hi dX12_sails_30 ?_
      refine lv_top' ev5 ?_
      refine lv_aload_n hx hb dX12_sails_31 rfl (lv_at hl 0 rfl) ?_
      refine va_get (D := E.1) (ci := 11) (v := .ref (q0 1)) (C := RX12) (T := TX12) (N := 57) hx hb hg in_X12 hown X.1 hP 0 rfl rfl 0 (by decide) (hg _ wf_X12_7) (fun _ h9 => h9) rfl dX12_sails_32 ?_
      refine lv_bipush (v := 72) hx hb dX12_sails_35 (by decide) ?_
      refine lv_iload_n hx hb dX12_sails_37 rfl (lv_at hl 1 rfl) ?_
      refine lv_iadd hx hb dX12_sails_38 ?_
      obtain ⟨hi, v6, ev6, h⟩ := rd_el h
      refine va_iald hx hb X.1 hP 1 0 rfl rfl hi dX12_sails_39 ?_
      refine lv_top' ev6 ?_
      obtain ⟨u7, hc, h⟩ := bd_el h
      refine ct_iN X hP hD hS (va_runS (As := [.int v5, .int v6]) (rest := []) ⟨hx, hb, hml, hown, hg⟩ (c_X12_stepOn l E  H.size v5 v6 u7 hc) (va_cwS 2 hg (gwS wm_X12_285 wst_X12_stepOn wini_X12 wco_X12_stepOn) rfl rfl rfl (by decide +kernel) ⟨Nat.le_of_ble_eq_true rfl, Nat.le_of_ble_eq_true rfl⟩) ⟨ct_blind, ct_preN X hS _⟩ rfl rfl hl.1 rfl (lv_room (Nat.le_of_ble_eq_true rfl)) dX12_sails_40 ⟨Nat.zero_le _, Nat.zero_le _⟩) (fun H locs hP hD hS => ?_)
      refine lv_istore_n (lv' := [(2, .int u7), (0, .ref (q0 0)), (1, .int x1)]) hx hb dX12_sails_43 rfl hl (by decide) rfl (fun ls hl => ?_)
      refine lv_iload_n hx hb dX12_sails_44 rfl (lv_at hl 0 rfl) ?_
      refine lv_iconst (v := (-1)) hx hb dX12_sails_45 (by decide) ?_
      refine lv_icmp_ne (tgt := 75) hx hb dX12_sails_46 (by decide) (fun c8 => ?_) (fun c8 => ?_)
      · have h := it_f h c8
        refine lv_aload_n hx hb dX12_sails_75 rfl (lv_at hl 1 rfl) ?_
        refine va_get (D := E.1) (ci := 11) (v := .ref (q0 1)) (C := RX12) (T := TX12) (N := 57) hx hb hg in_X12 hown X.1 hP 0 rfl rfl 0 (by decide) (hg _ wf_X12_7) (fun _ h9 => h9) rfl dX12_sails_76 ?_
        refine lv_bipush (v := 64) hx hb dX12_sails_79 (by decide) ?_
        refine lv_iload_n hx hb dX12_sails_81 rfl (lv_at hl 2 rfl) ?_
        refine lv_iadd hx hb dX12_sails_82 ?_
        refine lv_iload_n hx hb dX12_sails_83 rfl (lv_at hl 0 rfl) ?_
        obtain ⟨hi, h⟩ := ck_el h
        obtain ⟨S0_9, eS, h⟩ := lt_el h
        refine va_iast hx hb X.1 hP hD hS 1 0 rfl rfl hi dX12_sails_84 (fun H locs hP hD hS => ?_)
        have hP : va_P E.1 vwCl (cw_X12 E q0 S0_9) H := by rw [eS]; exact hP
        have hD : va_D A (cw_X12 E q0 S0_9) := by rw [eS]; exact hD
        clear eS
        exact RT S0_9 _ _ _ _ h hP hD hS dX12_sails_85
      · have h := it_t h c8
        refine lv_aload_n hx hb dX12_sails_49 rfl (lv_at hl 1 rfl) ?_
        refine va_get (D := E.1) (ci := 11) (v := .ref (q0 1)) (C := RX12) (T := TX12) (N := 57) hx hb hg in_X12 hown X.1 hP 0 rfl rfl 0 (by decide) (hg _ wf_X12_7) (fun _ h9 => h9) rfl dX12_sails_50 ?_
        refine lv_bipush (v := 72) hx hb dX12_sails_53 (by decide) ?_
        refine lv_iload_n hx hb dX12_sails_55 rfl (lv_at hl 2 rfl) ?_
        refine lv_iadd hx hb dX12_sails_56 ?_
        refine lv_aload_n hx hb dX12_sails_57 rfl (lv_at hl 1 rfl) ?_
        refine va_get (D := E.1) (ci := 11) (v := .ref (q0 1)) (C := RX12) (T := TX12) (N := 57) hx hb hg in_X12 hown X.1 hP 0 rfl rfl 0 (by decide) (hg _ wf_X12_7) (fun _ h9 => h9) rfl dX12_sails_58 ?_
        refine lv_bipush (v := 72) hx hb dX12_sails_61 (by decide) ?_
        refine lv_iload_n hx hb dX12_sails_63 rfl (lv_at hl 2 rfl) ?_
        refine lv_iadd hx hb dX12_sails_64 ?_
        obtain ⟨hi, v10, ev10, h⟩ := rd_el h
        refine va_iald hx hb X.1 hP 1 0 rfl rfl hi dX12_sails_65 ?_
        refine lv_top' ev10 ?_
        refine lv_iconst (v := 4) hx hb dX12_sails_66 (by decide) ?_
        refine lv_iadd hx hb dX12_sails_67 ?_
        refine lv_bipush (v := 8) hx hb dX12_sails_68 (by decide) ?_
        refine lv_irem hx hb dX12_sails_70 (by decide) ?_
        obtain ⟨v11, ev11, h⟩ := lt_el h
        refine lv_top' ev11 ?_
        obtain ⟨hi, h⟩ := ck_el h
        obtain ⟨S0_12, eS, h⟩ := lt_el h
        refine va_iast hx hb X.1 hP hD hS 1 0 rfl rfl hi dX12_sails_71 (fun H locs hP hD hS => ?_)
        have hP : va_P E.1 vwCl (cw_X12 E q0 S0_12) H := by rw [eS]; exact hP
        have hD : va_D A (cw_X12 E q0 S0_12) := by rw [eS]; exact hD
        clear eS
        refine lv_goto (tgt := 85) hx hb dX12_sails_72 (by decide) ?_
        exact RT S0_12 _ _ _ _ h hP hD hS dX12_sails_85
    · have h := it_t h c4
      exact RT S0 _ _ _ _ h hP hD hS dX12_sails_21
theorem dX12_holdsAny_0 : decode cX12_holdsAny 0 = .ok (.iconst 0, 1) := by decide +kernel
theorem dX12_holdsAny_1 : decode cX12_holdsAny 1 = .ok (.istore_n 2, 1) := by decide +kernel
theorem dX12_holdsAny_2 : decode cX12_holdsAny 2 = .ok (.iload_n 2, 1) := by decide +kernel
theorem dX12_holdsAny_3 : decode cX12_holdsAny 3 = .ok (.aload_n 0, 1) := by decide +kernel
theorem dX12_holdsAny_4 : decode cX12_holdsAny 4 = .ok (.getfield 242, 3) := by decide +kernel
theorem dX12_holdsAny_7 : decode cX12_holdsAny 7 = .ok (.if_icmp .ge 41, 3) := by decide +kernel
theorem dX12_holdsAny_10 : decode cX12_holdsAny 10 = .ok (.aload_n 0, 1) := by decide +kernel
theorem dX12_holdsAny_11 : decode cX12_holdsAny 11 = .ok (.getfield 50, 3) := by decide +kernel
theorem dX12_holdsAny_14 : decode cX12_holdsAny 14 = .ok (.iload_n 2, 1) := by decide +kernel
theorem dX12_holdsAny_15 : decode cX12_holdsAny 15 = .ok (.iaload, 1) := by decide +kernel
theorem dX12_holdsAny_16 : decode cX12_holdsAny 16 = .ok (.iload_n 1, 1) := by decide +kernel
theorem dX12_holdsAny_17 : decode cX12_holdsAny 17 = .ok (.if_icmp .ne 25, 3) := by decide +kernel
theorem dX12_holdsAny_20 : decode cX12_holdsAny 20 = .ok (.aload_n 0, 1) := by decide +kernel
theorem dX12_holdsAny_21 : decode cX12_holdsAny 21 = .ok (.aload_n 0, 1) := by decide +kernel
theorem dX12_holdsAny_22 : decode cX12_holdsAny 22 = .ok (.getfield 56, 3) := by decide +kernel
theorem dX12_holdsAny_25 : decode cX12_holdsAny 25 = .ok (.iload_n 2, 1) := by decide +kernel
theorem dX12_holdsAny_26 : decode cX12_holdsAny 26 = .ok (.iaload, 1) := by decide +kernel
theorem dX12_holdsAny_27 : decode cX12_holdsAny 27 = .ok (.aload_n 0, 1) := by decide +kernel
theorem dX12_holdsAny_28 : decode cX12_holdsAny 28 = .ok (.getfield 59, 3) := by decide +kernel
theorem dX12_holdsAny_31 : decode cX12_holdsAny 31 = .ok (.iload_n 2, 1) := by decide +kernel
theorem dX12_holdsAny_32 : decode cX12_holdsAny 32 = .ok (.iaload, 1) := by decide +kernel
theorem dX12_holdsAny_33 : decode cX12_holdsAny 33 = .ok (.invokevirtual 249, 3) := by decide +kernel
theorem dX12_holdsAny_36 : decode cX12_holdsAny 36 = .ok (.iconst 1, 1) := by decide +kernel
theorem dX12_holdsAny_37 : decode cX12_holdsAny 37 = .ok (.if_icmp .ne 5, 3) := by decide +kernel
theorem dX12_holdsAny_40 : decode cX12_holdsAny 40 = .ok (.iconst 1, 1) := by decide +kernel
theorem dX12_holdsAny_41 : decode cX12_holdsAny 41 = .ok (.ireturn, 1) := by decide +kernel
theorem dX12_holdsAny_42 : decode cX12_holdsAny 42 = .ok (.iinc 2 1, 3) := by decide +kernel
theorem dX12_holdsAny_45 : decode cX12_holdsAny 45 = .ok (.goto (-43), 3) := by decide +kernel
theorem dX12_holdsAny_48 : decode cX12_holdsAny 48 = .ok (.iconst 0, 1) := by decide +kernel
theorem dX12_holdsAny_49 : decode cX12_holdsAny 49 = .ok (.ireturn, 1) := by decide +kernel
def f_X12_holdsAny_n2 (x1 : Int32) : Nat → Gr → Int32 → Option (Int32 × Gr)
  | 0, _, _ => none
  | n + 1, S0, x2 => if (S0.1 17) ≤ x2 then (some (0, S0)) else (rd' (S0.2 25) 16 x2 fun v2 => if v2 = x1 then (rd' (S0.2 27) 16 x2 fun v5 => rd' (S0.2 28) 16 x2 fun v6 => (f_X12_reckonsTo S0 v5 v6).bind fun u7 => if u7.1 = 1 then (some (1, u7.2)) else (lt' (x2 + 1) fun v9 => f_X12_holdsAny_n2 x1 n u7.2 v9)) else (lt' (x2 + 1) fun v4 => f_X12_holdsAny_n2 x1 n S0 v4))
def f_X12_holdsAny (S0 : Gr) (x1 : Int32) : Option (Int32 × Gr) := f_X12_holdsAny_n2 x1 fu S0 0
set_option maxHeartbeats 4000000 in
set_option maxRecDepth 100000 in
theorem c_X12_holdsAny (l : Launch) (E : Ec) (q0 : Nat → Nat) (sz : Nat) (S0 : Gr) (x1 : Int32) (Rv : Int32 × Gr) (h : f_X12_holdsAny S0 x1 = some Rv) : Met l yX12_holdsAny (wsM (.code yX12_holdsAny cX12_holdsAny 3 (some .boolean))) ({ frames := 2, cells := 0, slots := 0, locals := 49 } : Room) (va_Pc [.ref (q0 0), .int x1] (ctP E (cw_X12 E q0 S0) sz)) (ctI E (cw_X12 E q0 S0) (cw_X12 E q0 Rv.2) sz Rv.1) 0 0 (va_A (cw_X12 E q0 S0) sz) := by
  refine ct_metI (by decide) (Nat.le_of_ble_eq_true rfl) ?_
  intro p e s m ar below meth c A QM hx hb hml hown hg X hP hD hS RET ls hl
  have hown : s.vm.findClass RX12 = some m.cls := hown
  have hl : lv_has ls 3 [(0, .ref (q0 0)), (1, .int x1)] := hl
  have RT : ∀ (v : Int32) (S0 : Gr) (H : Heap) (locs : List Loc) (ls : Array Slot) (pc : Nat), some (v, S0) = some Rv → narrow .boolean (.int v) = .int v → va_P E.1 vwCl (cw_X12 E q0 S0) H → va_D A (cw_X12 E q0 S0) → va_S A s.heap H locs → decode cX12_holdsAny pc = .ok (.ireturn, 1) → W p l e ({ frames := 2, cells := 0, slots := 0, locals := 49 } : Room) s m ar below meth c H locs 0 0 QM (F0 m pc ls [.int v]) := by
    intro v S0 H locs ls pc e hn hP hD hS d
    obtain rfl := sm_e e
    exact RET H locs pc ls hn hP hD hS d
  clear RET
  have N2 : ∀ (n : Nat) (S0 : Gr) (x2 : Int32) (H : Heap) (locs : List Loc) (ls : Array Slot), f_X12_holdsAny_n2 x1 n S0 x2 = some Rv → va_P E.1 vwCl (cw_X12 E q0 S0) H → va_D A (cw_X12 E q0 S0) → va_S A s.heap H locs → lv_has ls 3 [(0, .ref (q0 0)), (1, .int x1), (2, .int x2)] → W p l e ({ frames := 2, cells := 0, slots := 0, locals := 49 } : Room) s m ar below meth c H locs 0 0 QM (F0 m 2 ls []) := by
    intro n
    induction n with
    | zero => intro S0 x2 H locs ls h; exact nn_el h
    | succ n ih =>
      intro S0 x2 H locs ls h hP hD hS hl
      refine lv_iload_n hx hb dX12_holdsAny_2 rfl (lv_at hl 2 rfl) ?_
      refine lv_aload_n hx hb dX12_holdsAny_3 rfl (lv_at hl 0 rfl) ?_
      refine va_get (D := E.1) (ci := 11) (v := .int (S0.1 17)) (C := RX12) (T := TX12) (N := 57) hx hb hg in_X12 hown X.1 hP 0 rfl rfl 17 (by decide) (hg _ wf_X12_242) (fun _ h9 => h9) rfl dX12_holdsAny_4 ?_
      refine lv_icmp_ge (tgt := 48) hx hb dX12_holdsAny_7 (by decide) (fun c1 => ?_) (fun c1 => ?_)
      · have h := it_t h c1
        refine lv_iconst (v := 0) hx hb dX12_holdsAny_48 (by decide) ?_
        exact RT 0 S0 _ _ _ _ h (by decide +kernel) hP hD hS dX12_holdsAny_49
      · have h := it_f h c1
        refine lv_aload_n hx hb dX12_holdsAny_10 rfl (lv_at hl 0 rfl) ?_
        refine va_get (D := E.1) (ci := 11) (v := .ref (q0 14)) (C := RX12) (T := TX12) (N := 57) hx hb hg in_X12 hown X.1 hP 0 rfl rfl 25 (by decide) (hg _ wf_X12_50) (fun _ h9 => h9) rfl dX12_holdsAny_11 ?_
        refine lv_iload_n hx hb dX12_holdsAny_14 rfl (lv_at hl 2 rfl) ?_
        obtain ⟨hi, v2, ev2, h⟩ := rd_el h
        refine va_iald hx hb X.1 hP 14 0 rfl rfl hi dX12_holdsAny_15 ?_
        refine lv_top' ev2 ?_
        refine lv_iload_n hx hb dX12_holdsAny_16 rfl (lv_at hl 1 rfl) ?_
        refine lv_icmp_ne (tgt := 42) hx hb dX12_holdsAny_17 (by decide) (fun c3 => ?_) (fun c3 => ?_)
        · have h := it_f h c3
          obtain ⟨v4, ev4, h⟩ := lt_el h
          refine lv_iinc (v := v4) (lv' := [(2, .int v4), (0, .ref (q0 0)), (1, .int x1)]) hx hb dX12_holdsAny_42 hl (k := 2) rfl (by rw [ev4]; rfl) (by decide) rfl (fun ls hl => ?_)
          refine lv_goto (tgt := 2) hx hb dX12_holdsAny_45 (by decide) ?_
          exact ih S0 v4 _ _ _ h hP hD hS (lv_sub hl [1, 2, 0] rfl)
        · have h := it_t h c3
          refine lv_aload_n hx hb dX12_holdsAny_20 rfl (lv_at hl 0 rfl) ?_
          refine lv_aload_n hx hb dX12_holdsAny_21 rfl (lv_at hl 0 rfl) ?_
          refine va_get (D := E.1) (ci := 11) (v := .ref (q0 16)) (C := RX12) (T := TX12) (N := 57) hx hb hg in_X12 hown X.1 hP 0 rfl rfl 27 (by decide) (hg _ wf_X12_56) (fun _ h9 => h9) rfl dX12_holdsAny_22 ?_
          refine lv_iload_n hx hb dX12_holdsAny_25 rfl (lv_at hl 2 rfl) ?_
          obtain ⟨hi, v5, ev5, h⟩ := rd_el h
          refine va_iald hx hb X.1 hP 16 0 rfl rfl hi dX12_holdsAny_26 ?_
          refine lv_top' ev5 ?_
          refine lv_aload_n hx hb dX12_holdsAny_27 rfl (lv_at hl 0 rfl) ?_
          refine va_get (D := E.1) (ci := 11) (v := .ref (q0 17)) (C := RX12) (T := TX12) (N := 57) hx hb hg in_X12 hown X.1 hP 0 rfl rfl 28 (by decide) (hg _ wf_X12_59) (fun _ h9 => h9) rfl dX12_holdsAny_28 ?_
          refine lv_iload_n hx hb dX12_holdsAny_31 rfl (lv_at hl 2 rfl) ?_
          obtain ⟨hi, v6, ev6, h⟩ := rd_el h
          refine va_iald hx hb X.1 hP 17 0 rfl rfl hi dX12_holdsAny_32 ?_
          refine lv_top' ev6 ?_
          obtain ⟨u7, hc, h⟩ := bd_el h
          refine ct_iA (w1 := cw_X12 E q0 u7.2) X hP hD hS (va_runV (C := RX12) (As := [.int v5, .int v6]) (rest := []) ⟨hx, hb, hml, hown, hg⟩ (c_X12_reckonsTo l E q0 H.size S0 v5 v6 u7 hc) (cwV 2 hg (gwV wm_X12_249 wi_X12_reckonsTo wsl_X12_reckonsTo wini_X12 wco_X12_reckonsTo) rfl rfl rfl (by decide +kernel) ⟨Nat.le_of_ble_eq_true rfl, Nat.le_of_ble_eq_true rfl⟩) ⟨ct_blind, ct_rv X.1 hP 0 rfl rfl, ct_preA X hP hD hS _⟩ rfl rfl hl.1 rfl (lv_room (Nat.le_of_ble_eq_true rfl)) dX12_holdsAny_33 ⟨Nat.zero_le _, Nat.zero_le _⟩) (fun H locs hP hD hS => ?_)
          refine lv_iconst (v := 1) hx hb dX12_holdsAny_36 (by decide) ?_
          refine lv_icmp_ne (tgt := 42) hx hb dX12_holdsAny_37 (by decide) (fun c8 => ?_) (fun c8 => ?_)
          · have h := it_f h c8
            obtain ⟨v9, ev9, h⟩ := lt_el h
            refine lv_iinc (v := v9) (lv' := [(2, .int v9), (0, .ref (q0 0)), (1, .int x1)]) hx hb dX12_holdsAny_42 hl (k := 2) rfl (by rw [ev9]; rfl) (by decide) rfl (fun ls hl => ?_)
            refine lv_goto (tgt := 2) hx hb dX12_holdsAny_45 (by decide) ?_
            exact ih u7.2 v9 _ _ _ h hP hD hS (lv_sub hl [1, 2, 0] rfl)
          · have h := it_t h c8
            refine lv_iconst (v := 1) hx hb dX12_holdsAny_40 (by decide) ?_
            exact RT 1 u7.2 _ _ _ _ h (by decide +kernel) hP hD hS dX12_holdsAny_41
  obtain ⟨H, eH⟩ : ∃ z, z = s.heap := ⟨_, rfl⟩
  rw [← eH]
  have hP : va_P E.1 vwCl (cw_X12 E q0 S0) H := by rw [eH]; exact hP
  have hS : va_S A s.heap H [] := by rw [eH]; exact hS
  clear eH
  obtain ⟨locs, el⟩ : ∃ z : List Loc, z = [] := ⟨_, rfl⟩
  rw [← el] at hS ⊢
  clear el
  refine lv_iconst (v := 0) hx hb dX12_holdsAny_0 (by decide) ?_
  refine lv_istore_n (lv' := [(2, .int 0), (0, .ref (q0 0)), (1, .int x1)]) hx hb dX12_holdsAny_1 rfl hl (by decide) rfl (fun ls hl => ?_)
  exact N2 fu S0 0 _ _ _ h hP hD hS (lv_sub hl [1, 2, 0] rfl)
theorem dX12_touches_0 : decode cX12_touches 0 = .ok (.aload_n 0, 1) := by decide +kernel
theorem dX12_touches_1 : decode cX12_touches 1 = .ok (.getfield 19, 3) := by decide +kernel
theorem dX12_touches_4 : decode cX12_touches 4 = .ok (.iload_n 1, 1) := by decide +kernel
theorem dX12_touches_5 : decode cX12_touches 5 = .ok (.iaload, 1) := by decide +kernel
theorem dX12_touches_6 : decode cX12_touches 6 = .ok (.aload_n 0, 1) := by decide +kernel
theorem dX12_touches_7 : decode cX12_touches 7 = .ok (.getfield 7, 3) := by decide +kernel
theorem dX12_touches_10 : decode cX12_touches 10 = .ok (.bipush 64, 2) := by decide +kernel
theorem dX12_touches_12 : decode cX12_touches 12 = .ok (.iload_n 2, 1) := by decide +kernel
theorem dX12_touches_13 : decode cX12_touches 13 = .ok (.iadd, 1) := by decide +kernel
theorem dX12_touches_14 : decode cX12_touches 14 = .ok (.iaload, 1) := by decide +kernel
theorem dX12_touches_15 : decode cX12_touches 15 = .ok (.invokestatic 294, 3) := by decide +kernel
theorem dX12_touches_18 : decode cX12_touches 18 = .ok (.istore_n 3, 1) := by decide +kernel
theorem dX12_touches_19 : decode cX12_touches 19 = .ok (.aload_n 0, 1) := by decide +kernel
theorem dX12_touches_20 : decode cX12_touches 20 = .ok (.getfield 22, 3) := by decide +kernel
theorem dX12_touches_23 : decode cX12_touches 23 = .ok (.iload_n 2, 1) := by decide +kernel
theorem dX12_touches_24 : decode cX12_touches 24 = .ok (.iaload, 1) := by decide +kernel
theorem dX12_touches_25 : decode cX12_touches 25 = .ok (.iload_n 3, 1) := by decide +kernel
theorem dX12_touches_26 : decode cX12_touches 26 = .ok (.if_icmp .gt 4, 3) := by decide +kernel
theorem dX12_touches_29 : decode cX12_touches 29 = .ok (.return_, 1) := by decide +kernel
theorem dX12_touches_30 : decode cX12_touches 30 = .ok (.aload_n 0, 1) := by decide +kernel
theorem dX12_touches_31 : decode cX12_touches 31 = .ok (.getfield 19, 3) := by decide +kernel
theorem dX12_touches_34 : decode cX12_touches 34 = .ok (.iload_n 1, 1) := by decide +kernel
theorem dX12_touches_35 : decode cX12_touches 35 = .ok (.iaload, 1) := by decide +kernel
theorem dX12_touches_36 : decode cX12_touches 36 = .ok (.aload_n 0, 1) := by decide +kernel
theorem dX12_touches_37 : decode cX12_touches 37 = .ok (.getfield 7, 3) := by decide +kernel
theorem dX12_touches_40 : decode cX12_touches 40 = .ok (.bipush 64, 2) := by decide +kernel
theorem dX12_touches_42 : decode cX12_touches 42 = .ok (.iload_n 2, 1) := by decide +kernel
theorem dX12_touches_43 : decode cX12_touches 43 = .ok (.iadd, 1) := by decide +kernel
theorem dX12_touches_44 : decode cX12_touches 44 = .ok (.iaload, 1) := by decide +kernel
theorem dX12_touches_45 : decode cX12_touches 45 = .ok (.invokestatic 297, 3) := by decide +kernel
theorem dX12_touches_48 : decode cX12_touches 48 = .ok (.istore 4, 2) := by decide +kernel
theorem dX12_touches_50 : decode cX12_touches 50 = .ok (.iconst 0, 1) := by decide +kernel
theorem dX12_touches_51 : decode cX12_touches 51 = .ok (.bipush 8, 2) := by decide +kernel
theorem dX12_touches_53 : decode cX12_touches 53 = .ok (.iload_n 1, 1) := by decide +kernel
theorem dX12_touches_54 : decode cX12_touches 54 = .ok (.imul, 1) := by decide +kernel
theorem dX12_touches_55 : decode cX12_touches 55 = .ok (.iadd, 1) := by decide +kernel
theorem dX12_touches_56 : decode cX12_touches 56 = .ok (.iload 4, 2) := by decide +kernel
theorem dX12_touches_58 : decode cX12_touches 58 = .ok (.iadd, 1) := by decide +kernel
theorem dX12_touches_59 : decode cX12_touches 59 = .ok (.istore 5, 2) := by decide +kernel
theorem dX12_touches_61 : decode cX12_touches 61 = .ok (.aload_n 0, 1) := by decide +kernel
theorem dX12_touches_62 : decode cX12_touches 62 = .ok (.getfield 7, 3) := by decide +kernel
theorem dX12_touches_65 : decode cX12_touches 65 = .ok (.bipush 81, 2) := by decide +kernel
theorem dX12_touches_67 : decode cX12_touches 67 = .ok (.sipush 25173, 3) := by decide +kernel
theorem dX12_touches_70 : decode cX12_touches 70 = .ok (.aload_n 0, 1) := by decide +kernel
theorem dX12_touches_71 : decode cX12_touches 71 = .ok (.getfield 7, 3) := by decide +kernel
theorem dX12_touches_74 : decode cX12_touches 74 = .ok (.bipush 81, 2) := by decide +kernel
theorem dX12_touches_76 : decode cX12_touches 76 = .ok (.iaload, 1) := by decide +kernel
theorem dX12_touches_77 : decode cX12_touches 77 = .ok (.imul, 1) := by decide +kernel
theorem dX12_touches_78 : decode cX12_touches 78 = .ok (.sipush 13849, 3) := by decide +kernel
theorem dX12_touches_81 : decode cX12_touches 81 = .ok (.iadd, 1) := by decide +kernel
theorem dX12_touches_82 : decode cX12_touches 82 = .ok (.ldc_w 300, 3) := by decide +kernel
theorem dX12_touches_85 : decode cX12_touches 85 = .ok (.irem, 1) := by decide +kernel
theorem dX12_touches_86 : decode cX12_touches 86 = .ok (.iastore, 1) := by decide +kernel
theorem dX12_touches_87 : decode cX12_touches 87 = .ok (.aload_n 0, 1) := by decide +kernel
theorem dX12_touches_88 : decode cX12_touches 88 = .ok (.iload_n 1, 1) := by decide +kernel
theorem dX12_touches_89 : decode cX12_touches 89 = .ok (.iload_n 2, 1) := by decide +kernel
theorem dX12_touches_90 : decode cX12_touches 90 = .ok (.iload 4, 2) := by decide +kernel
theorem dX12_touches_92 : decode cX12_touches 92 = .ok (.invokevirtual 301, 3) := by decide +kernel
theorem dX12_touches_95 : decode cX12_touches 95 = .ok (.aload_n 0, 1) := by decide +kernel
theorem dX12_touches_96 : decode cX12_touches 96 = .ok (.getfield 65, 3) := by decide +kernel
theorem dX12_touches_99 : decode cX12_touches 99 = .ok (.iconst 4, 1) := by decide +kernel
theorem dX12_touches_100 : decode cX12_touches 100 = .ok (.iload_n 3, 1) := by decide +kernel
theorem dX12_touches_101 : decode cX12_touches 101 = .ok (.iastore, 1) := by decide +kernel
theorem dX12_touches_102 : decode cX12_touches 102 = .ok (.aload_n 0, 1) := by decide +kernel
theorem dX12_touches_103 : decode cX12_touches 103 = .ok (.getfield 65, 3) := by decide +kernel
theorem dX12_touches_106 : decode cX12_touches 106 = .ok (.iconst 5, 1) := by decide +kernel
theorem dX12_touches_107 : decode cX12_touches 107 = .ok (.aload_n 0, 1) := by decide +kernel
theorem dX12_touches_108 : decode cX12_touches 108 = .ok (.getfield 22, 3) := by decide +kernel
theorem dX12_touches_111 : decode cX12_touches 111 = .ok (.iload_n 2, 1) := by decide +kernel
theorem dX12_touches_112 : decode cX12_touches 112 = .ok (.iaload, 1) := by decide +kernel
theorem dX12_touches_113 : decode cX12_touches 113 = .ok (.iload_n 3, 1) := by decide +kernel
theorem dX12_touches_114 : decode cX12_touches 114 = .ok (.isub, 1) := by decide +kernel
theorem dX12_touches_115 : decode cX12_touches 115 = .ok (.iastore, 1) := by decide +kernel
theorem dX12_touches_116 : decode cX12_touches 116 = .ok (.aload_n 0, 1) := by decide +kernel
theorem dX12_touches_117 : decode cX12_touches 117 = .ok (.getfield 65, 3) := by decide +kernel
theorem dX12_touches_120 : decode cX12_touches 120 = .ok (.bipush 7, 2) := by decide +kernel
theorem dX12_touches_122 : decode cX12_touches 122 = .ok (.aload_n 0, 1) := by decide +kernel
theorem dX12_touches_123 : decode cX12_touches 123 = .ok (.getfield 7, 3) := by decide +kernel
theorem dX12_touches_126 : decode cX12_touches 126 = .ok (.bipush 72, 2) := by decide +kernel
theorem dX12_touches_128 : decode cX12_touches 128 = .ok (.iload_n 2, 1) := by decide +kernel
theorem dX12_touches_129 : decode cX12_touches 129 = .ok (.iadd, 1) := by decide +kernel
theorem dX12_touches_130 : decode cX12_touches 130 = .ok (.iaload, 1) := by decide +kernel
theorem dX12_touches_131 : decode cX12_touches 131 = .ok (.iconst (-1), 1) := by decide +kernel
theorem dX12_touches_132 : decode cX12_touches 132 = .ok (.if_icmp .ne 8, 3) := by decide +kernel
theorem dX12_touches_135 : decode cX12_touches 135 = .ok (.bipush 8, 2) := by decide +kernel
theorem dX12_touches_137 : decode cX12_touches 137 = .ok (.goto 12, 3) := by decide +kernel
theorem dX12_touches_140 : decode cX12_touches 140 = .ok (.aload_n 0, 1) := by decide +kernel
theorem dX12_touches_141 : decode cX12_touches 141 = .ok (.getfield 7, 3) := by decide +kernel
theorem dX12_touches_144 : decode cX12_touches 144 = .ok (.bipush 72, 2) := by decide +kernel
theorem dX12_touches_146 : decode cX12_touches 146 = .ok (.iload_n 2, 1) := by decide +kernel
theorem dX12_touches_147 : decode cX12_touches 147 = .ok (.iadd, 1) := by decide +kernel
theorem dX12_touches_148 : decode cX12_touches 148 = .ok (.iaload, 1) := by decide +kernel
theorem dX12_touches_149 : decode cX12_touches 149 = .ok (.iastore, 1) := by decide +kernel
theorem dX12_touches_150 : decode cX12_touches 150 = .ok (.aload_n 0, 1) := by decide +kernel
theorem dX12_touches_151 : decode cX12_touches 151 = .ok (.getfield 65, 3) := by decide +kernel
theorem dX12_touches_154 : decode cX12_touches 154 = .ok (.bipush 9, 2) := by decide +kernel
theorem dX12_touches_156 : decode cX12_touches 156 = .ok (.aload_n 0, 1) := by decide +kernel
theorem dX12_touches_157 : decode cX12_touches 157 = .ok (.getfield 7, 3) := by decide +kernel
theorem dX12_touches_160 : decode cX12_touches 160 = .ok (.bipush 81, 2) := by decide +kernel
theorem dX12_touches_162 : decode cX12_touches 162 = .ok (.iaload, 1) := by decide +kernel
theorem dX12_touches_163 : decode cX12_touches 163 = .ok (.bipush 10, 2) := by decide +kernel
theorem dX12_touches_165 : decode cX12_touches 165 = .ok (.irem, 1) := by decide +kernel
theorem dX12_touches_166 : decode cX12_touches 166 = .ok (.iastore, 1) := by decide +kernel
theorem dX12_touches_167 : decode cX12_touches 167 = .ok (.aload_n 0, 1) := by decide +kernel
theorem dX12_touches_168 : decode cX12_touches 168 = .ok (.bipush 120, 2) := by decide +kernel
theorem dX12_touches_170 : decode cX12_touches 170 = .ok (.invokevirtual 305, 3) := by decide +kernel
theorem dX12_touches_173 : decode cX12_touches 173 = .ok (.ifCond .ne 13, 3) := by decide +kernel
theorem dX12_touches_176 : decode cX12_touches 176 = .ok (.aload_n 0, 1) := by decide +kernel
theorem dX12_touches_177 : decode cX12_touches 177 = .ok (.getfield 7, 3) := by decide +kernel
theorem dX12_touches_180 : decode cX12_touches 180 = .ok (.iload 5, 2) := by decide +kernel
theorem dX12_touches_182 : decode cX12_touches 182 = .ok (.iaload, 1) := by decide +kernel
theorem dX12_touches_183 : decode cX12_touches 183 = .ok (.ifCond .ne 4, 3) := by decide +kernel
theorem dX12_touches_186 : decode cX12_touches 186 = .ok (.return_, 1) := by decide +kernel
theorem dX12_touches_187 : decode cX12_touches 187 = .ok (.aload_n 0, 1) := by decide +kernel
theorem dX12_touches_188 : decode cX12_touches 188 = .ok (.getfield 7, 3) := by decide +kernel
theorem dX12_touches_191 : decode cX12_touches 191 = .ok (.iload 5, 2) := by decide +kernel
theorem dX12_touches_193 : decode cX12_touches 193 = .ok (.iconst 0, 1) := by decide +kernel
theorem dX12_touches_194 : decode cX12_touches 194 = .ok (.aload_n 0, 1) := by decide +kernel
theorem dX12_touches_195 : decode cX12_touches 195 = .ok (.getfield 7, 3) := by decide +kernel
theorem dX12_touches_198 : decode cX12_touches 198 = .ok (.iload 5, 2) := by decide +kernel
theorem dX12_touches_200 : decode cX12_touches 200 = .ok (.iaload, 1) := by decide +kernel
theorem dX12_touches_201 : decode cX12_touches 201 = .ok (.aload_n 0, 1) := by decide +kernel
theorem dX12_touches_202 : decode cX12_touches 202 = .ok (.bipush 116, 2) := by decide +kernel
theorem dX12_touches_204 : decode cX12_touches 204 = .ok (.invokevirtual 308, 3) := by decide +kernel
theorem dX12_touches_207 : decode cX12_touches 207 = .ok (.isub, 1) := by decide +kernel
theorem dX12_touches_208 : decode cX12_touches 208 = .ok (.invokestatic 129, 3) := by decide +kernel
theorem dX12_touches_211 : decode cX12_touches 211 = .ok (.iastore, 1) := by decide +kernel
theorem dX12_touches_212 : decode cX12_touches 212 = .ok (.aload_n 0, 1) := by decide +kernel
theorem dX12_touches_213 : decode cX12_touches 213 = .ok (.aload_n 0, 1) := by decide +kernel
theorem dX12_touches_214 : decode cX12_touches 214 = .ok (.getfield 311, 3) := by decide +kernel
theorem dX12_touches_217 : decode cX12_touches 217 = .ok (.iconst 1, 1) := by decide +kernel
theorem dX12_touches_218 : decode cX12_touches 218 = .ok (.iload 4, 2) := by decide +kernel
theorem dX12_touches_220 : decode cX12_touches 220 = .ok (.ishl, 1) := by decide +kernel
theorem dX12_touches_221 : decode cX12_touches 221 = .ok (.ior, 1) := by decide +kernel
theorem dX12_touches_222 : decode cX12_touches 222 = .ok (.putfield 311, 3) := by decide +kernel
theorem dX12_touches_225 : decode cX12_touches 225 = .ok (.aload_n 0, 1) := by decide +kernel
theorem dX12_touches_226 : decode cX12_touches 226 = .ok (.aload_n 0, 1) := by decide +kernel
theorem dX12_touches_227 : decode cX12_touches 227 = .ok (.getfield 314, 3) := by decide +kernel
theorem dX12_touches_230 : decode cX12_touches 230 = .ok (.iconst 1, 1) := by decide +kernel
theorem dX12_touches_231 : decode cX12_touches 231 = .ok (.iadd, 1) := by decide +kernel
theorem dX12_touches_232 : decode cX12_touches 232 = .ok (.putfield 314, 3) := by decide +kernel
theorem dX12_touches_235 : decode cX12_touches 235 = .ok (.return_, 1) := by decide +kernel
def f_X12_touches_n149 (x1 : Int32) (x2 : Int32) (S0 : Gr) (x4 : Int32) (x5 : Int32) (w0 : Int32) (w1 : Int32) : Option (Gr) := ck' 10 w1 (lt' (sA S0 30 (Int32.toNatClampNeg w1) w0) fun S0_20 => rd' (S0_20.2 0) 82 81 fun v21 => lt' (v21 - v21 / 10 * 10) fun v22 => ck' 10 9 (lt' (sA S0_20 30 (Int32.toNatClampNeg 9) v22) fun S0_23 => (f_X12_holdsAny S0_23 120).bind fun u24 => if u24.1 = 0 then (rd' (u24.2.2 0) 82 x5 fun v26 => if v26 = 0 then (some u24.2) else (rd' (u24.2.2 0) 82 x5 fun v28 => (f_X12_byLaw u24.2 116).bind fun u29 => (f_X12_max 0 (v28 - u29.1)).bind fun u30 => ck' 82 x5 (lt' (sA u29.2 0 (Int32.toNatClampNeg x5) u30) fun S0_31 => lt' (sI S0_31 40 ((S0_31.1 40) ||| (1 <<< (x4 &&& 31)))) fun S0_32 => lt' (sI S0_32 39 ((S0_32.1 39) + 1)) fun S0_33 => some S0_33))) else (some u24.2)))
def f_X12_touches (S0 : Gr) (x1 : Int32) (x2 : Int32) : Option (Gr) := rd' (S0.2 3) 8 x1 fun v1 => rd' (S0.2 0) 82 (64 + x2) fun v2 => (f_X12_distance v1 v2).bind fun u3 => rd' (S0.2 4) 8 x2 fun v4 => if u3 < v4 then (rd' (S0.2 3) 8 x1 fun v6 => rd' (S0.2 0) 82 (64 + x2) fun v7 => (f_X12_towards v6 v7).bind fun u8 => lt' (((0 + (8 * x1)) + u8)) fun v9 => rd' (S0.2 0) 82 81 fun v10 => lt' (((25173 * v10) + 13849) - ((25173 * v10) + 13849) / 65536 * 65536) fun v11 => ck' 82 81 (lt' (sA S0 0 (Int32.toNatClampNeg 81) v11) fun S0_12 => (f_X12_sets S0_12 x1 x2 u8).bind fun u13 => ck' 10 4 (lt' (sA u13 30 (Int32.toNatClampNeg 4) u3) fun S0_14 => rd' (S0_14.2 4) 8 x2 fun v15 => ck' 10 5 (lt' (sA S0_14 30 (Int32.toNatClampNeg 5) (v15 - u3)) fun S0_16 => rd' (S0_16.2 0) 82 (72 + x2) fun v17 => if v17 = (-1) then (f_X12_touches_n149 x1 x2 S0_16 u8 v9 8 7) else (rd' (S0_16.2 0) 82 (72 + x2) fun v19 => f_X12_touches_n149 x1 x2 S0_16 u8 v9 v19 7))))) else (some S0)
set_option maxHeartbeats 4000000 in
set_option maxRecDepth 100000 in
theorem c_X12_touches (l : Launch) (E : Ec) (q0 : Nat → Nat) (sz : Nat) (S0 : Gr) (x1 : Int32) (x2 : Int32) (Rv : Gr) (h : f_X12_touches S0 x1 x2 = some Rv) : Met l yX12_touches (wsM (.code yX12_touches cX12_touches 6 none)) ({ frames := 3, cells := 0, slots := 0, locals := 72 } : Room) (va_Pc [.ref (q0 0), .int x1, .int x2] (ctP E (cw_X12 E q0 S0) sz)) (ctV E (cw_X12 E q0 S0) (cw_X12 E q0 Rv) sz) 0 0 (va_A (cw_X12 E q0 S0) sz) := by
  refine ct_metV (by decide) (Nat.le_of_ble_eq_true rfl) ?_
  intro p e s m ar below meth c A QM hx hb hml hown hg X hP hD hS RET ls hl
  have hown : s.vm.findClass RX12 = some m.cls := hown
  have hl : lv_has ls 6 [(0, .ref (q0 0)), (1, .int x1), (2, .int x2)] := hl
  have RT : ∀ (S0 : Gr) (H : Heap) (locs : List Loc) (ls : Array Slot) (pc : Nat), some S0 = some Rv → va_P E.1 vwCl (cw_X12 E q0 S0) H → va_D A (cw_X12 E q0 S0) → va_S A s.heap H locs → decode cX12_touches pc = .ok (.return_, 1) → W p l e ({ frames := 3, cells := 0, slots := 0, locals := 72 } : Room) s m ar below meth c H locs 0 0 QM (F0 m pc ls []) := by
    intro S0 H locs ls pc e hP hD hS d
    obtain rfl := sm_e e
    exact RET H locs pc ls hP hD hS d
  clear RET
  have N149 : ∀ (S0 : Gr) (x4 : Int32) (x5 : Int32) (w0 : Int32) (w1 : Int32) (H : Heap) (locs : List Loc) (ls : Array Slot), f_X12_touches_n149 x1 x2 S0 x4 x5 w0 w1 = some Rv → va_P E.1 vwCl (cw_X12 E q0 S0) H → va_D A (cw_X12 E q0 S0) → va_S A s.heap H locs → lv_has ls 6 [(0, .ref (q0 0)), (4, .int x4), (5, .int x5)] → W p l e ({ frames := 3, cells := 0, slots := 0, locals := 72 } : Room) s m ar below meth c H locs 0 0 QM (F0 m 149 ls [.int w0, .int w1, .ref (q0 19)]) := by
    intro S0 x4 x5 w0 w1 H locs ls h hP hD hS hl
    obtain ⟨hi, h⟩ := ck_el h
    obtain ⟨S0_20, eS, h⟩ := lt_el h
    refine va_iast hx hb X.1 hP hD hS 19 0 rfl rfl hi dX12_touches_149 (fun H locs hP hD hS => ?_)
    have hP : va_P E.1 vwCl (cw_X12 E q0 S0_20) H := by rw [eS]; exact hP
    have hD : va_D A (cw_X12 E q0 S0_20) := by rw [eS]; exact hD
    clear eS
    refine lv_aload_n hx hb dX12_touches_150 rfl (lv_at hl 0 rfl) ?_
    refine va_get (D := E.1) (ci := 11) (v := .ref (q0 19)) (C := RX12) (T := TX12) (N := 57) hx hb hg in_X12 hown X.1 hP 0 rfl rfl 30 (by decide) (hg _ wf_X12_65) (fun _ h9 => h9) rfl dX12_touches_151 ?_
    refine lv_bipush (v := 9) hx hb dX12_touches_154 (by decide) ?_
    refine lv_aload_n hx hb dX12_touches_156 rfl (lv_at hl 0 rfl) ?_
    refine va_get (D := E.1) (ci := 11) (v := .ref (q0 1)) (C := RX12) (T := TX12) (N := 57) hx hb hg in_X12 hown X.1 hP 0 rfl rfl 0 (by decide) (hg _ wf_X12_7) (fun _ h9 => h9) rfl dX12_touches_157 ?_
    refine lv_bipush (v := 81) hx hb dX12_touches_160 (by decide) ?_
    obtain ⟨hi, v21, ev21, h⟩ := rd_el h
    refine va_iald hx hb X.1 hP 1 0 rfl rfl hi dX12_touches_162 ?_
    refine lv_top' ev21 ?_
    refine lv_bipush (v := 10) hx hb dX12_touches_163 (by decide) ?_
    refine lv_irem hx hb dX12_touches_165 (by decide) ?_
    obtain ⟨v22, ev22, h⟩ := lt_el h
    refine lv_top' ev22 ?_
    obtain ⟨hi, h⟩ := ck_el h
    obtain ⟨S0_23, eS, h⟩ := lt_el h
    refine va_iast hx hb X.1 hP hD hS 19 0 rfl rfl hi dX12_touches_166 (fun H locs hP hD hS => ?_)
    have hP : va_P E.1 vwCl (cw_X12 E q0 S0_23) H := by rw [eS]; exact hP
    have hD : va_D A (cw_X12 E q0 S0_23) := by rw [eS]; exact hD
    clear eS
    refine lv_aload_n hx hb dX12_touches_167 rfl (lv_at hl 0 rfl) ?_
    refine lv_bipush (v := 120) hx hb dX12_touches_168 (by decide) ?_
    obtain ⟨u24, hc, h⟩ := bd_el h
    refine ct_iA (w1 := cw_X12 E q0 u24.2) X hP hD hS (va_runV (C := RX12) (As := [.int 120]) (rest := []) ⟨hx, hb, hml, hown, hg⟩ (c_X12_holdsAny l E q0 H.size S0_23 120 u24 hc) (cwV 1 hg (gwV wm_X12_305 wi_X12_holdsAny wsl_X12_holdsAny wini_X12 wco_X12_holdsAny) rfl rfl rfl (by decide +kernel) ⟨Nat.le_of_ble_eq_true rfl, Nat.le_of_ble_eq_true rfl⟩) ⟨ct_blind, ct_rv X.1 hP 0 rfl rfl, ct_preA X hP hD hS _⟩ rfl rfl hl.1 rfl (lv_room (Nat.le_of_ble_eq_true rfl)) dX12_touches_170 ⟨Nat.zero_le _, Nat.zero_le _⟩) (fun H locs hP hD hS => ?_)
    refine lv_if_ne (tgt := 186) hx hb dX12_touches_173 (by decide) (fun c25 => ?_) (fun c25 => ?_)
    · have h := it_f h c25
      exact RT u24.2 _ _ _ _ h hP hD hS dX12_touches_186
    · have h := it_t h c25
      refine lv_aload_n hx hb dX12_touches_176 rfl (lv_at hl 0 rfl) ?_
      refine va_get (D := E.1) (ci := 11) (v := .ref (q0 1)) (C := RX12) (T := TX12) (N := 57) hx hb hg in_X12 hown X.1 hP 0 rfl rfl 0 (by decide) (hg _ wf_X12_7) (fun _ h9 => h9) rfl dX12_touches_177 ?_
      refine lv_iload hx hb dX12_touches_180 (lv_at hl 2 rfl) ?_
      obtain ⟨hi, v26, ev26, h⟩ := rd_el h
      refine va_iald hx hb X.1 hP 1 0 rfl rfl hi dX12_touches_182 ?_
      refine lv_top' ev26 ?_
      refine lv_if_ne (tgt := 187) hx hb dX12_touches_183 (by decide) (fun c27 => ?_) (fun c27 => ?_)
      · have h := it_f h c27
        refine lv_aload_n hx hb dX12_touches_187 rfl (lv_at hl 0 rfl) ?_
        refine va_get (D := E.1) (ci := 11) (v := .ref (q0 1)) (C := RX12) (T := TX12) (N := 57) hx hb hg in_X12 hown X.1 hP 0 rfl rfl 0 (by decide) (hg _ wf_X12_7) (fun _ h9 => h9) rfl dX12_touches_188 ?_
        refine lv_iload hx hb dX12_touches_191 (lv_at hl 2 rfl) ?_
        refine lv_iconst (v := 0) hx hb dX12_touches_193 (by decide) ?_
        refine lv_aload_n hx hb dX12_touches_194 rfl (lv_at hl 0 rfl) ?_
        refine va_get (D := E.1) (ci := 11) (v := .ref (q0 1)) (C := RX12) (T := TX12) (N := 57) hx hb hg in_X12 hown X.1 hP 0 rfl rfl 0 (by decide) (hg _ wf_X12_7) (fun _ h9 => h9) rfl dX12_touches_195 ?_
        refine lv_iload hx hb dX12_touches_198 (lv_at hl 2 rfl) ?_
        obtain ⟨hi, v28, ev28, h⟩ := rd_el h
        refine va_iald hx hb X.1 hP 1 0 rfl rfl hi dX12_touches_200 ?_
        refine lv_top' ev28 ?_
        refine lv_aload_n hx hb dX12_touches_201 rfl (lv_at hl 0 rfl) ?_
        refine lv_bipush (v := 116) hx hb dX12_touches_202 (by decide) ?_
        obtain ⟨u29, hc, h⟩ := bd_el h
        refine ct_iA (w1 := cw_X12 E q0 u29.2) X hP hD hS (va_runV (C := RX12) (As := [.int 116]) (rest := [.int v28, .int 0, .int x5, .ref (q0 1)]) ⟨hx, hb, hml, hown, hg⟩ (c_X12_byLaw l E q0 H.size u24.2 116 u29 hc) (cwV 1 hg (gwV wm_X12_308 wi_X12_byLaw wsl_X12_byLaw wini_X12 wco_X12_byLaw) rfl rfl rfl (by decide +kernel) ⟨Nat.le_of_ble_eq_true rfl, Nat.le_of_ble_eq_true rfl⟩) ⟨ct_blind, ct_rv X.1 hP 0 rfl rfl, ct_preA X hP hD hS _⟩ rfl rfl hl.1 rfl (lv_room (Nat.le_of_ble_eq_true rfl)) dX12_touches_204 ⟨Nat.zero_le _, Nat.zero_le _⟩) (fun H locs hP hD hS => ?_)
        refine lv_isub hx hb dX12_touches_207 ?_
        obtain ⟨u30, hc, h⟩ := bd_el h
        refine ct_iN X hP hD hS (va_runS (As := [.int 0, .int (v28 - u29.1)]) (rest := [.int x5, .ref (q0 1)]) ⟨hx, hb, hml, hown, hg⟩ (c_X12_max l E  H.size 0 (v28 - u29.1) u30 hc) (va_cwS 2 hg (gwS wm_X12_129 wst_X12_max wini_X12 wco_X12_max) rfl rfl rfl (by decide +kernel) ⟨Nat.le_of_ble_eq_true rfl, Nat.le_of_ble_eq_true rfl⟩) ⟨ct_blind, ct_preN X hS _⟩ rfl rfl hl.1 rfl (lv_room (Nat.le_of_ble_eq_true rfl)) dX12_touches_208 ⟨Nat.zero_le _, Nat.zero_le _⟩) (fun H locs hP hD hS => ?_)
        obtain ⟨hi, h⟩ := ck_el h
        obtain ⟨S0_31, eS, h⟩ := lt_el h
        refine va_iast hx hb X.1 hP hD hS 1 0 rfl rfl hi dX12_touches_211 (fun H locs hP hD hS => ?_)
        have hP : va_P E.1 vwCl (cw_X12 E q0 S0_31) H := by rw [eS]; exact hP
        have hD : va_D A (cw_X12 E q0 S0_31) := by rw [eS]; exact hD
        clear eS
        refine lv_aload_n hx hb dX12_touches_212 rfl (lv_at hl 0 rfl) ?_
        refine lv_aload_n hx hb dX12_touches_213 rfl (lv_at hl 0 rfl) ?_
        refine va_get (D := E.1) (ci := 11) (v := .int (S0_31.1 40)) (C := RX12) (T := TX12) (N := 57) hx hb hg in_X12 hown X.1 hP 0 rfl rfl 40 (by decide) (hg _ wf_X12_311) (fun _ h9 => h9) rfl dX12_touches_214 ?_
        refine lv_iconst (v := 1) hx hb dX12_touches_217 (by decide) ?_
        refine lv_iload hx hb dX12_touches_218 (lv_at hl 1 rfl) ?_
        refine lv_ishl hx hb dX12_touches_220 ?_
        refine lv_ior hx hb dX12_touches_221 ?_
        obtain ⟨S0_32, eS, h⟩ := lt_el h
        refine va_put (D := E.1) (ci := 11) (v := .int ((S0_31.1 40) ||| (1 <<< (x4 &&& 31)))) (ty := .int) (C := RX12) (T := TX12) (N := 57) hx hb hg in_X12 tyX12 tyX12_ok nmX12 hown X.1 hP hD hS 0 rfl rfl 40 (by decide) (hg _ wf_X12_311) (fun _ h9 => h9) rfl (by decide +kernel) rfl rfl (Nat.le_of_ble_eq_true rfl) dX12_touches_222 (fun H locs hP hD hS => ?_)
        have hP : va_P E.1 vwCl (cw_X12 E q0 S0_32) H := by rw [eS]; exact hP
        have hD : va_D A (cw_X12 E q0 S0_32) := by rw [eS]; exact hD
        clear eS
        refine lv_aload_n hx hb dX12_touches_225 rfl (lv_at hl 0 rfl) ?_
        refine lv_aload_n hx hb dX12_touches_226 rfl (lv_at hl 0 rfl) ?_
        refine va_get (D := E.1) (ci := 11) (v := .int (S0_32.1 39)) (C := RX12) (T := TX12) (N := 57) hx hb hg in_X12 hown X.1 hP 0 rfl rfl 39 (by decide) (hg _ wf_X12_314) (fun _ h9 => h9) rfl dX12_touches_227 ?_
        refine lv_iconst (v := 1) hx hb dX12_touches_230 (by decide) ?_
        refine lv_iadd hx hb dX12_touches_231 ?_
        obtain ⟨S0_33, eS, h⟩ := lt_el h
        refine va_put (D := E.1) (ci := 11) (v := .int ((S0_32.1 39) + 1)) (ty := .int) (C := RX12) (T := TX12) (N := 57) hx hb hg in_X12 tyX12 tyX12_ok nmX12 hown X.1 hP hD hS 0 rfl rfl 39 (by decide) (hg _ wf_X12_314) (fun _ h9 => h9) rfl (by decide +kernel) rfl rfl (Nat.le_of_ble_eq_true rfl) dX12_touches_232 (fun H locs hP hD hS => ?_)
        have hP : va_P E.1 vwCl (cw_X12 E q0 S0_33) H := by rw [eS]; exact hP
        have hD : va_D A (cw_X12 E q0 S0_33) := by rw [eS]; exact hD
        clear eS
        exact RT S0_33 _ _ _ _ h hP hD hS dX12_touches_235
      · have h := it_t h c27
        exact RT u24.2 _ _ _ _ h hP hD hS dX12_touches_186
  obtain ⟨H, eH⟩ : ∃ z, z = s.heap := ⟨_, rfl⟩
  rw [← eH]
  have hP : va_P E.1 vwCl (cw_X12 E q0 S0) H := by rw [eH]; exact hP
  have hS : va_S A s.heap H [] := by rw [eH]; exact hS
  clear eH
  obtain ⟨locs, el⟩ : ∃ z : List Loc, z = [] := ⟨_, rfl⟩
  rw [← el] at hS ⊢
  clear el
  refine lv_aload_n hx hb dX12_touches_0 rfl (lv_at hl 0 rfl) ?_
  refine va_get (D := E.1) (ci := 11) (v := .ref (q0 4)) (C := RX12) (T := TX12) (N := 57) hx hb hg in_X12 hown X.1 hP 0 rfl rfl 3 (by decide) (hg _ wf_X12_19) (fun _ h9 => h9) rfl dX12_touches_1 ?_
  refine lv_iload_n hx hb dX12_touches_4 rfl (lv_at hl 1 rfl) ?_
  obtain ⟨hi, v1, ev1, h⟩ := rd_el h
  refine va_iald hx hb X.1 hP 4 0 rfl rfl hi dX12_touches_5 ?_
  refine lv_top' ev1 ?_
  refine lv_aload_n hx hb dX12_touches_6 rfl (lv_at hl 0 rfl) ?_
  refine va_get (D := E.1) (ci := 11) (v := .ref (q0 1)) (C := RX12) (T := TX12) (N := 57) hx hb hg in_X12 hown X.1 hP 0 rfl rfl 0 (by decide) (hg _ wf_X12_7) (fun _ h9 => h9) rfl dX12_touches_7 ?_
  refine lv_bipush (v := 64) hx hb dX12_touches_10 (by decide) ?_
  refine lv_iload_n hx hb dX12_touches_12 rfl (lv_at hl 2 rfl) ?_
  refine lv_iadd hx hb dX12_touches_13 ?_
  obtain ⟨hi, v2, ev2, h⟩ := rd_el h
  refine va_iald hx hb X.1 hP 1 0 rfl rfl hi dX12_touches_14 ?_
  refine lv_top' ev2 ?_
  obtain ⟨u3, hc, h⟩ := bd_el h
  refine ct_iN X hP hD hS (va_runS (As := [.int v1, .int v2]) (rest := []) ⟨hx, hb, hml, hown, hg⟩ (c_X12_distance l E  H.size v1 v2 u3 hc) (va_cwS 2 hg (gwS wm_X12_294 wst_X12_distance wini_X12 wco_X12_distance) rfl rfl rfl (by decide +kernel) ⟨Nat.le_of_ble_eq_true rfl, Nat.le_of_ble_eq_true rfl⟩) ⟨ct_blind, ct_preN X hS _⟩ rfl rfl hl.1 rfl (lv_room (Nat.le_of_ble_eq_true rfl)) dX12_touches_15 ⟨Nat.zero_le _, Nat.zero_le _⟩) (fun H locs hP hD hS => ?_)
  refine lv_istore_n (lv' := [(3, .int u3), (0, .ref (q0 0)), (1, .int x1), (2, .int x2)]) hx hb dX12_touches_18 rfl hl (by decide) rfl (fun ls hl => ?_)
  refine lv_aload_n hx hb dX12_touches_19 rfl (lv_at hl 1 rfl) ?_
  refine va_get (D := E.1) (ci := 11) (v := .ref (q0 5)) (C := RX12) (T := TX12) (N := 57) hx hb hg in_X12 hown X.1 hP 0 rfl rfl 4 (by decide) (hg _ wf_X12_22) (fun _ h9 => h9) rfl dX12_touches_20 ?_
  refine lv_iload_n hx hb dX12_touches_23 rfl (lv_at hl 3 rfl) ?_
  obtain ⟨hi, v4, ev4, h⟩ := rd_el h
  refine va_iald hx hb X.1 hP 5 0 rfl rfl hi dX12_touches_24 ?_
  refine lv_top' ev4 ?_
  refine lv_iload_n hx hb dX12_touches_25 rfl (lv_at hl 0 rfl) ?_
  refine lv_icmp_gt (tgt := 30) hx hb dX12_touches_26 (by decide) (fun c5 => ?_) (fun c5 => ?_)
  · have h := it_t h c5
    refine lv_aload_n hx hb dX12_touches_30 rfl (lv_at hl 1 rfl) ?_
    refine va_get (D := E.1) (ci := 11) (v := .ref (q0 4)) (C := RX12) (T := TX12) (N := 57) hx hb hg in_X12 hown X.1 hP 0 rfl rfl 3 (by decide) (hg _ wf_X12_19) (fun _ h9 => h9) rfl dX12_touches_31 ?_
    refine lv_iload_n hx hb dX12_touches_34 rfl (lv_at hl 2 rfl) ?_
    obtain ⟨hi, v6, ev6, h⟩ := rd_el h
    refine va_iald hx hb X.1 hP 4 0 rfl rfl hi dX12_touches_35 ?_
    refine lv_top' ev6 ?_
    refine lv_aload_n hx hb dX12_touches_36 rfl (lv_at hl 1 rfl) ?_
    refine va_get (D := E.1) (ci := 11) (v := .ref (q0 1)) (C := RX12) (T := TX12) (N := 57) hx hb hg in_X12 hown X.1 hP 0 rfl rfl 0 (by decide) (hg _ wf_X12_7) (fun _ h9 => h9) rfl dX12_touches_37 ?_
    refine lv_bipush (v := 64) hx hb dX12_touches_40 (by decide) ?_
    refine lv_iload_n hx hb dX12_touches_42 rfl (lv_at hl 3 rfl) ?_
    refine lv_iadd hx hb dX12_touches_43 ?_
    obtain ⟨hi, v7, ev7, h⟩ := rd_el h
    refine va_iald hx hb X.1 hP 1 0 rfl rfl hi dX12_touches_44 ?_
    refine lv_top' ev7 ?_
    obtain ⟨u8, hc, h⟩ := bd_el h
    refine ct_iN X hP hD hS (va_runS (As := [.int v6, .int v7]) (rest := []) ⟨hx, hb, hml, hown, hg⟩ (c_X12_towards l E  H.size v6 v7 u8 hc) (va_cwS 2 hg (gwS wm_X12_297 wst_X12_towards wini_X12 wco_X12_towards) rfl rfl rfl (by decide +kernel) ⟨Nat.le_of_ble_eq_true rfl, Nat.le_of_ble_eq_true rfl⟩) ⟨ct_blind, ct_preN X hS _⟩ rfl rfl hl.1 rfl (lv_room (Nat.le_of_ble_eq_true rfl)) dX12_touches_45 ⟨Nat.zero_le _, Nat.zero_le _⟩) (fun H locs hP hD hS => ?_)
    refine lv_istore (lv' := [(4, .int u8), (3, .int u3), (0, .ref (q0 0)), (1, .int x1), (2, .int x2)]) hx hb dX12_touches_48 hl (by decide) rfl (fun ls hl => ?_)
    refine lv_iconst (v := 0) hx hb dX12_touches_50 (by decide) ?_
    refine lv_bipush (v := 8) hx hb dX12_touches_51 (by decide) ?_
    refine lv_iload_n hx hb dX12_touches_53 rfl (lv_at hl 3 rfl) ?_
    refine lv_imul hx hb dX12_touches_54 ?_
    refine lv_iadd hx hb dX12_touches_55 ?_
    refine lv_iload hx hb dX12_touches_56 (lv_at hl 0 rfl) ?_
    refine lv_iadd hx hb dX12_touches_58 ?_
    obtain ⟨v9, ev9, h⟩ := lt_el h
    refine lv_top' ev9 ?_
    refine lv_istore (lv' := [(5, .int v9), (4, .int u8), (3, .int u3), (0, .ref (q0 0)), (1, .int x1), (2, .int x2)]) hx hb dX12_touches_59 hl (by decide) rfl (fun ls hl => ?_)
    refine lv_aload_n hx hb dX12_touches_61 rfl (lv_at hl 3 rfl) ?_
    refine va_get (D := E.1) (ci := 11) (v := .ref (q0 1)) (C := RX12) (T := TX12) (N := 57) hx hb hg in_X12 hown X.1 hP 0 rfl rfl 0 (by decide) (hg _ wf_X12_7) (fun _ h9 => h9) rfl dX12_touches_62 ?_
    refine lv_bipush (v := 81) hx hb dX12_touches_65 (by decide) ?_
    refine lv_sipush (v := 25173) hx hb dX12_touches_67 (by decide) ?_
    refine lv_aload_n hx hb dX12_touches_70 rfl (lv_at hl 3 rfl) ?_
    refine va_get (D := E.1) (ci := 11) (v := .ref (q0 1)) (C := RX12) (T := TX12) (N := 57) hx hb hg in_X12 hown X.1 hP 0 rfl rfl 0 (by decide) (hg _ wf_X12_7) (fun _ h9 => h9) rfl dX12_touches_71 ?_
    refine lv_bipush (v := 81) hx hb dX12_touches_74 (by decide) ?_
    obtain ⟨hi, v10, ev10, h⟩ := rd_el h
    refine va_iald hx hb X.1 hP 1 0 rfl rfl hi dX12_touches_76 ?_
    refine lv_top' ev10 ?_
    refine lv_imul hx hb dX12_touches_77 ?_
    refine lv_sipush (v := 13849) hx hb dX12_touches_78 (by decide) ?_
    refine lv_iadd hx hb dX12_touches_81 ?_
    refine lv_ldcw hx hb hown (hg _ wcn_X12_300) dX12_touches_82 ?_
    refine lv_irem hx hb dX12_touches_85 (by decide) ?_
    obtain ⟨v11, ev11, h⟩ := lt_el h
    refine lv_top' ev11 ?_
    obtain ⟨hi, h⟩ := ck_el h
    obtain ⟨S0_12, eS, h⟩ := lt_el h
    refine va_iast hx hb X.1 hP hD hS 1 0 rfl rfl hi dX12_touches_86 (fun H locs hP hD hS => ?_)
    have hP : va_P E.1 vwCl (cw_X12 E q0 S0_12) H := by rw [eS]; exact hP
    have hD : va_D A (cw_X12 E q0 S0_12) := by rw [eS]; exact hD
    clear eS
    refine lv_aload_n hx hb dX12_touches_87 rfl (lv_at hl 3 rfl) ?_
    refine lv_iload_n hx hb dX12_touches_88 rfl (lv_at hl 4 rfl) ?_
    refine lv_iload_n hx hb dX12_touches_89 rfl (lv_at hl 5 rfl) ?_
    refine lv_iload hx hb dX12_touches_90 (lv_at hl 1 rfl) ?_
    obtain ⟨u13, hc, h⟩ := bd_el h
    refine ct_vA (w1 := cw_X12 E q0 u13) X hP hD hS (va_runV (C := RX12) (As := [.int x1, .int x2, .int u8]) (rest := []) ⟨hx, hb, hml, hown, hg⟩ (c_X12_sets l E q0 H.size S0_12 x1 x2 u8 u13 hc) (cwV 3 hg (gwV wm_X12_301 wi_X12_sets wsl_X12_sets wini_X12 wco_X12_sets) rfl rfl rfl (by decide +kernel) ⟨Nat.le_of_ble_eq_true rfl, Nat.le_of_ble_eq_true rfl⟩) ⟨ct_blind, ct_rv X.1 hP 0 rfl rfl, ct_preA X hP hD hS _⟩ rfl rfl hl.1 rfl (lv_room (Nat.le_of_ble_eq_true rfl)) dX12_touches_92 ⟨Nat.zero_le _, Nat.zero_le _⟩) (fun H locs hP hD hS => ?_)
    refine lv_aload_n hx hb dX12_touches_95 rfl (lv_at hl 3 rfl) ?_
    refine va_get (D := E.1) (ci := 11) (v := .ref (q0 19)) (C := RX12) (T := TX12) (N := 57) hx hb hg in_X12 hown X.1 hP 0 rfl rfl 30 (by decide) (hg _ wf_X12_65) (fun _ h9 => h9) rfl dX12_touches_96 ?_
    refine lv_iconst (v := 4) hx hb dX12_touches_99 (by decide) ?_
    refine lv_iload_n hx hb dX12_touches_100 rfl (lv_at hl 2 rfl) ?_
    obtain ⟨hi, h⟩ := ck_el h
    obtain ⟨S0_14, eS, h⟩ := lt_el h
    refine va_iast hx hb X.1 hP hD hS 19 0 rfl rfl hi dX12_touches_101 (fun H locs hP hD hS => ?_)
    have hP : va_P E.1 vwCl (cw_X12 E q0 S0_14) H := by rw [eS]; exact hP
    have hD : va_D A (cw_X12 E q0 S0_14) := by rw [eS]; exact hD
    clear eS
    refine lv_aload_n hx hb dX12_touches_102 rfl (lv_at hl 3 rfl) ?_
    refine va_get (D := E.1) (ci := 11) (v := .ref (q0 19)) (C := RX12) (T := TX12) (N := 57) hx hb hg in_X12 hown X.1 hP 0 rfl rfl 30 (by decide) (hg _ wf_X12_65) (fun _ h9 => h9) rfl dX12_touches_103 ?_
    refine lv_iconst (v := 5) hx hb dX12_touches_106 (by decide) ?_
    refine lv_aload_n hx hb dX12_touches_107 rfl (lv_at hl 3 rfl) ?_
    refine va_get (D := E.1) (ci := 11) (v := .ref (q0 5)) (C := RX12) (T := TX12) (N := 57) hx hb hg in_X12 hown X.1 hP 0 rfl rfl 4 (by decide) (hg _ wf_X12_22) (fun _ h9 => h9) rfl dX12_touches_108 ?_
    refine lv_iload_n hx hb dX12_touches_111 rfl (lv_at hl 5 rfl) ?_
    obtain ⟨hi, v15, ev15, h⟩ := rd_el h
    refine va_iald hx hb X.1 hP 5 0 rfl rfl hi dX12_touches_112 ?_
    refine lv_top' ev15 ?_
    refine lv_iload_n hx hb dX12_touches_113 rfl (lv_at hl 2 rfl) ?_
    refine lv_isub hx hb dX12_touches_114 ?_
    obtain ⟨hi, h⟩ := ck_el h
    obtain ⟨S0_16, eS, h⟩ := lt_el h
    refine va_iast hx hb X.1 hP hD hS 19 0 rfl rfl hi dX12_touches_115 (fun H locs hP hD hS => ?_)
    have hP : va_P E.1 vwCl (cw_X12 E q0 S0_16) H := by rw [eS]; exact hP
    have hD : va_D A (cw_X12 E q0 S0_16) := by rw [eS]; exact hD
    clear eS
    refine lv_aload_n hx hb dX12_touches_116 rfl (lv_at hl 3 rfl) ?_
    refine va_get (D := E.1) (ci := 11) (v := .ref (q0 19)) (C := RX12) (T := TX12) (N := 57) hx hb hg in_X12 hown X.1 hP 0 rfl rfl 30 (by decide) (hg _ wf_X12_65) (fun _ h9 => h9) rfl dX12_touches_117 ?_
    refine lv_bipush (v := 7) hx hb dX12_touches_120 (by decide) ?_
    refine lv_aload_n hx hb dX12_touches_122 rfl (lv_at hl 3 rfl) ?_
    refine va_get (D := E.1) (ci := 11) (v := .ref (q0 1)) (C := RX12) (T := TX12) (N := 57) hx hb hg in_X12 hown X.1 hP 0 rfl rfl 0 (by decide) (hg _ wf_X12_7) (fun _ h9 => h9) rfl dX12_touches_123 ?_
    refine lv_bipush (v := 72) hx hb dX12_touches_126 (by decide) ?_
    refine lv_iload_n hx hb dX12_touches_128 rfl (lv_at hl 5 rfl) ?_
    refine lv_iadd hx hb dX12_touches_129 ?_
    obtain ⟨hi, v17, ev17, h⟩ := rd_el h
    refine va_iald hx hb X.1 hP 1 0 rfl rfl hi dX12_touches_130 ?_
    refine lv_top' ev17 ?_
    refine lv_iconst (v := (-1)) hx hb dX12_touches_131 (by decide) ?_
    refine lv_icmp_ne (tgt := 140) hx hb dX12_touches_132 (by decide) (fun c18 => ?_) (fun c18 => ?_)
    · have h := it_f h c18
      refine lv_aload_n hx hb dX12_touches_140 rfl (lv_at hl 3 rfl) ?_
      refine va_get (D := E.1) (ci := 11) (v := .ref (q0 1)) (C := RX12) (T := TX12) (N := 57) hx hb hg in_X12 hown X.1 hP 0 rfl rfl 0 (by decide) (hg _ wf_X12_7) (fun _ h9 => h9) rfl dX12_touches_141 ?_
      refine lv_bipush (v := 72) hx hb dX12_touches_144 (by decide) ?_
      refine lv_iload_n hx hb dX12_touches_146 rfl (lv_at hl 5 rfl) ?_
      refine lv_iadd hx hb dX12_touches_147 ?_
      obtain ⟨hi, v19, ev19, h⟩ := rd_el h
      refine va_iald hx hb X.1 hP 1 0 rfl rfl hi dX12_touches_148 ?_
      refine lv_top' ev19 ?_
      exact N149  S0_16 u8 v9 v19 7 _ _ _ h hP hD hS (lv_sub hl [3, 1, 0] rfl)
    · have h := it_t h c18
      refine lv_bipush (v := 8) hx hb dX12_touches_135 (by decide) ?_
      refine lv_goto (tgt := 149) hx hb dX12_touches_137 (by decide) ?_
      exact N149  S0_16 u8 v9 8 7 _ _ _ h hP hD hS (lv_sub hl [3, 1, 0] rfl)
  · have h := it_f h c5
    exact RT S0 _ _ _ _ h hP hD hS dX12_touches_29
theorem dX12_hourGoes_0 : decode cX12_hourGoes 0 = .ok (.iconst 0, 1) := by decide +kernel
theorem dX12_hourGoes_1 : decode cX12_hourGoes 1 = .ok (.istore_n 1, 1) := by decide +kernel
theorem dX12_hourGoes_2 : decode cX12_hourGoes 2 = .ok (.iload_n 1, 1) := by decide +kernel
theorem dX12_hourGoes_3 : decode cX12_hourGoes 3 = .ok (.bipush 8, 2) := by decide +kernel
theorem dX12_hourGoes_5 : decode cX12_hourGoes 5 = .ok (.if_icmp .ge 14, 3) := by decide +kernel
theorem dX12_hourGoes_8 : decode cX12_hourGoes 8 = .ok (.aload_n 0, 1) := by decide +kernel
theorem dX12_hourGoes_9 : decode cX12_hourGoes 9 = .ok (.iload_n 1, 1) := by decide +kernel
theorem dX12_hourGoes_10 : decode cX12_hourGoes 10 = .ok (.invokevirtual 320, 3) := by decide +kernel
theorem dX12_hourGoes_13 : decode cX12_hourGoes 13 = .ok (.iinc 1 1, 3) := by decide +kernel
theorem dX12_hourGoes_16 : decode cX12_hourGoes 16 = .ok (.goto (-14), 3) := by decide +kernel
theorem dX12_hourGoes_19 : decode cX12_hourGoes 19 = .ok (.iconst 0, 1) := by decide +kernel
theorem dX12_hourGoes_20 : decode cX12_hourGoes 20 = .ok (.istore_n 1, 1) := by decide +kernel
theorem dX12_hourGoes_21 : decode cX12_hourGoes 21 = .ok (.iload_n 1, 1) := by decide +kernel
theorem dX12_hourGoes_22 : decode cX12_hourGoes 22 = .ok (.bipush 8, 2) := by decide +kernel
theorem dX12_hourGoes_24 : decode cX12_hourGoes 24 = .ok (.if_icmp .ge 58, 3) := by decide +kernel
theorem dX12_hourGoes_27 : decode cX12_hourGoes 27 = .ok (.aload_n 0, 1) := by decide +kernel
theorem dX12_hourGoes_28 : decode cX12_hourGoes 28 = .ok (.iload_n 1, 1) := by decide +kernel
theorem dX12_hourGoes_29 : decode cX12_hourGoes 29 = .ok (.invokevirtual 139, 3) := by decide +kernel
theorem dX12_hourGoes_32 : decode cX12_hourGoes 32 = .ok (.ifCond .ne 6, 3) := by decide +kernel
theorem dX12_hourGoes_35 : decode cX12_hourGoes 35 = .ok (.goto 41, 3) := by decide +kernel
theorem dX12_hourGoes_38 : decode cX12_hourGoes 38 = .ok (.aload_n 0, 1) := by decide +kernel
theorem dX12_hourGoes_39 : decode cX12_hourGoes 39 = .ok (.iconst 0, 1) := by decide +kernel
theorem dX12_hourGoes_40 : decode cX12_hourGoes 40 = .ok (.putfield 311, 3) := by decide +kernel
theorem dX12_hourGoes_43 : decode cX12_hourGoes 43 = .ok (.iconst 0, 1) := by decide +kernel
theorem dX12_hourGoes_44 : decode cX12_hourGoes 44 = .ok (.istore_n 2, 1) := by decide +kernel
theorem dX12_hourGoes_45 : decode cX12_hourGoes 45 = .ok (.iload_n 2, 1) := by decide +kernel
theorem dX12_hourGoes_46 : decode cX12_hourGoes 46 = .ok (.bipush 8, 2) := by decide +kernel
theorem dX12_hourGoes_48 : decode cX12_hourGoes 48 = .ok (.if_icmp .ge 23, 3) := by decide +kernel
theorem dX12_hourGoes_51 : decode cX12_hourGoes 51 = .ok (.aload_n 0, 1) := by decide +kernel
theorem dX12_hourGoes_52 : decode cX12_hourGoes 52 = .ok (.iload_n 2, 1) := by decide +kernel
theorem dX12_hourGoes_53 : decode cX12_hourGoes 53 = .ok (.invokevirtual 282, 3) := by decide +kernel
theorem dX12_hourGoes_56 : decode cX12_hourGoes 56 = .ok (.ifCond .eq 9, 3) := by decide +kernel
theorem dX12_hourGoes_59 : decode cX12_hourGoes 59 = .ok (.aload_n 0, 1) := by decide +kernel
theorem dX12_hourGoes_60 : decode cX12_hourGoes 60 = .ok (.iload_n 1, 1) := by decide +kernel
theorem dX12_hourGoes_61 : decode cX12_hourGoes 61 = .ok (.iload_n 2, 1) := by decide +kernel
theorem dX12_hourGoes_62 : decode cX12_hourGoes 62 = .ok (.invokevirtual 323, 3) := by decide +kernel
theorem dX12_hourGoes_65 : decode cX12_hourGoes 65 = .ok (.iinc 2 1, 3) := by decide +kernel
theorem dX12_hourGoes_68 : decode cX12_hourGoes 68 = .ok (.goto (-23), 3) := by decide +kernel
theorem dX12_hourGoes_71 : decode cX12_hourGoes 71 = .ok (.aload_n 0, 1) := by decide +kernel
theorem dX12_hourGoes_72 : decode cX12_hourGoes 72 = .ok (.iload_n 1, 1) := by decide +kernel
theorem dX12_hourGoes_73 : decode cX12_hourGoes 73 = .ok (.invokevirtual 326, 3) := by decide +kernel
theorem dX12_hourGoes_76 : decode cX12_hourGoes 76 = .ok (.iinc 1 1, 3) := by decide +kernel
theorem dX12_hourGoes_79 : decode cX12_hourGoes 79 = .ok (.goto (-58), 3) := by decide +kernel
theorem dX12_hourGoes_82 : decode cX12_hourGoes 82 = .ok (.aload_n 0, 1) := by decide +kernel
theorem dX12_hourGoes_83 : decode cX12_hourGoes 83 = .ok (.getfield 7, 3) := by decide +kernel
theorem dX12_hourGoes_86 : decode cX12_hourGoes 86 = .ok (.bipush 80, 2) := by decide +kernel
theorem dX12_hourGoes_88 : decode cX12_hourGoes 88 = .ok (.aload_n 0, 1) := by decide +kernel
theorem dX12_hourGoes_89 : decode cX12_hourGoes 89 = .ok (.getfield 7, 3) := by decide +kernel
theorem dX12_hourGoes_92 : decode cX12_hourGoes 92 = .ok (.bipush 80, 2) := by decide +kernel
theorem dX12_hourGoes_94 : decode cX12_hourGoes 94 = .ok (.iaload, 1) := by decide +kernel
theorem dX12_hourGoes_95 : decode cX12_hourGoes 95 = .ok (.iconst 1, 1) := by decide +kernel
theorem dX12_hourGoes_96 : decode cX12_hourGoes 96 = .ok (.iadd, 1) := by decide +kernel
theorem dX12_hourGoes_97 : decode cX12_hourGoes 97 = .ok (.iastore, 1) := by decide +kernel
theorem dX12_hourGoes_98 : decode cX12_hourGoes 98 = .ok (.return_, 1) := by decide +kernel
def f_X12_hourGoes_n45  (k21 : Gr → Int32 → Option (Gr)) : Nat → Gr → Int32 → Int32 → Option (Gr)
  | 0, _, _, _ => none
  | n + 1, S0, x1, x2 => if 8 ≤ x2 then ((f_X12_isMended S0 x1).bind fun u12 => lt' (x1 + 1) fun v13 => k21 u12 v13) else ((f_X12_isFleet S0 x2).bind fun u14 => if u14 = 0 then (lt' (x2 + 1) fun v16 => f_X12_hourGoes_n45 k21 n S0 x1 v16) else ((f_X12_touches S0 x1 x2).bind fun u17 => lt' (x2 + 1) fun v18 => f_X12_hourGoes_n45 k21 n u17 x1 v18))
def f_X12_hourGoes_n21  : Nat → Gr → Int32 → Option (Gr)
  | 0, _, _ => none
  | n + 1, S0, x1 => if 8 ≤ x1 then (rd' (S0.2 0) 82 80 fun v5 => ck' 82 80 (lt' (sA S0 0 (Int32.toNatClampNeg 80) (v5 + 1)) fun S0_6 => some S0_6)) else ((f_X12_isWeb S0 x1).bind fun u7 => if u7 = 0 then (lt' (x1 + 1) fun v10 => f_X12_hourGoes_n21 n S0 v10) else (lt' (sI S0 40 0) fun S0_9 => f_X12_hourGoes_n45 (f_X12_hourGoes_n21 n) fu S0_9 x1 0))
def f_X12_hourGoes_n2  : Nat → Gr → Int32 → Option (Gr)
  | 0, _, _ => none
  | n + 1, S0, x1 => if 8 ≤ x1 then (f_X12_hourGoes_n21 fu S0 0) else ((f_X12_sails S0 x1).bind fun u2 => lt' (x1 + 1) fun v3 => f_X12_hourGoes_n2 n u2 v3)
def f_X12_hourGoes (S0 : Gr) : Option (Gr) := f_X12_hourGoes_n2 fu S0 0
set_option maxHeartbeats 4000000 in
set_option maxRecDepth 100000 in
theorem c_X12_hourGoes (l : Launch) (E : Ec) (q0 : Nat → Nat) (sz : Nat) (S0 : Gr) (Rv : Gr) (h : f_X12_hourGoes S0 = some Rv) : Met l yX12_hourGoes (wsM (.code yX12_hourGoes cX12_hourGoes 3 none)) ({ frames := 4, cells := 0, slots := 0, locals := 97 } : Room) (va_Pc [.ref (q0 0)] (ctP E (cw_X12 E q0 S0) sz)) (ctV E (cw_X12 E q0 S0) (cw_X12 E q0 Rv) sz) 0 0 (va_A (cw_X12 E q0 S0) sz) := by
  refine ct_metV (by decide) (Nat.le_of_ble_eq_true rfl) ?_
  intro p e s m ar below meth c A QM hx hb hml hown hg X hP hD hS RET ls hl
  have hown : s.vm.findClass RX12 = some m.cls := hown
  have hl : lv_has ls 3 [(0, .ref (q0 0))] := hl
  have RT : ∀ (S0 : Gr) (H : Heap) (locs : List Loc) (ls : Array Slot) (pc : Nat), some S0 = some Rv → va_P E.1 vwCl (cw_X12 E q0 S0) H → va_D A (cw_X12 E q0 S0) → va_S A s.heap H locs → decode cX12_hourGoes pc = .ok (.return_, 1) → W p l e ({ frames := 4, cells := 0, slots := 0, locals := 97 } : Room) s m ar below meth c H locs 0 0 QM (F0 m pc ls []) := by
    intro S0 H locs ls pc e hP hD hS d
    obtain rfl := sm_e e
    exact RET H locs pc ls hP hD hS d
  clear RET
  have N45 : ∀ (k21 : Gr → Int32 → Option (Gr)) (hk21 : ∀ (S0 : Gr) (x1 : Int32) (H : Heap) (locs : List Loc) (ls : Array Slot), k21 S0 x1 = some Rv → va_P E.1 vwCl (cw_X12 E q0 S0) H → va_D A (cw_X12 E q0 S0) → va_S A s.heap H locs → lv_has ls 3 [(0, .ref (q0 0)), (1, .int x1)] → W p l e ({ frames := 4, cells := 0, slots := 0, locals := 97 } : Room) s m ar below meth c H locs 0 0 QM (F0 m 21 ls [])) (n : Nat) (S0 : Gr) (x1 : Int32) (x2 : Int32) (H : Heap) (locs : List Loc) (ls : Array Slot), f_X12_hourGoes_n45 k21 n S0 x1 x2 = some Rv → va_P E.1 vwCl (cw_X12 E q0 S0) H → va_D A (cw_X12 E q0 S0) → va_S A s.heap H locs → lv_has ls 3 [(0, .ref (q0 0)), (1, .int x1), (2, .int x2)] → W p l e ({ frames := 4, cells := 0, slots := 0, locals := 97 } : Room) s m ar below meth c H locs 0 0 QM (F0 m 45 ls []) := by
    intro k21 hk21 n
    induction n with
    | zero => intro S0 x1 x2 H locs ls h; exact nn_el h
    | succ n ih =>
      intro S0 x1 x2 H locs ls h hP hD hS hl
      refine lv_iload_n hx hb dX12_hourGoes_45 rfl (lv_at hl 2 rfl) ?_
      refine lv_bipush (v := 8) hx hb dX12_hourGoes_46 (by decide) ?_
      refine lv_icmp_ge (tgt := 71) hx hb dX12_hourGoes_48 (by decide) (fun c11 => ?_) (fun c11 => ?_)
      · have h := it_t h c11
        refine lv_aload_n hx hb dX12_hourGoes_71 rfl (lv_at hl 0 rfl) ?_
        refine lv_iload_n hx hb dX12_hourGoes_72 rfl (lv_at hl 1 rfl) ?_
        obtain ⟨u12, hc, h⟩ := bd_el h
        refine ct_vA (w1 := cw_X12 E q0 u12) X hP hD hS (va_runV (C := RX12) (As := [.int x1]) (rest := []) ⟨hx, hb, hml, hown, hg⟩ (c_X12_isMended l E q0 H.size S0 x1 u12 hc) (cwV 1 hg (gwV wm_X12_326 wi_X12_isMended wsl_X12_isMended wini_X12 wco_X12_isMended) rfl rfl rfl (by decide +kernel) ⟨Nat.le_of_ble_eq_true rfl, Nat.le_of_ble_eq_true rfl⟩) ⟨ct_blind, ct_rv X.1 hP 0 rfl rfl, ct_preA X hP hD hS _⟩ rfl rfl hl.1 rfl (lv_room (Nat.le_of_ble_eq_true rfl)) dX12_hourGoes_73 ⟨Nat.zero_le _, Nat.zero_le _⟩) (fun H locs hP hD hS => ?_)
        obtain ⟨v13, ev13, h⟩ := lt_el h
        refine lv_iinc (v := v13) (lv' := [(1, .int v13), (0, .ref (q0 0)), (2, .int x2)]) hx hb dX12_hourGoes_76 hl (k := 1) rfl (by rw [ev13]; rfl) (by decide) rfl (fun ls hl => ?_)
        refine lv_goto (tgt := 21) hx hb dX12_hourGoes_79 (by decide) ?_
        exact hk21 u12 v13 _ _ _ h hP hD hS (lv_sub hl [1, 0] rfl)
      · have h := it_f h c11
        refine lv_aload_n hx hb dX12_hourGoes_51 rfl (lv_at hl 0 rfl) ?_
        refine lv_iload_n hx hb dX12_hourGoes_52 rfl (lv_at hl 2 rfl) ?_
        obtain ⟨u14, hc, h⟩ := bd_el h
        refine ct_iA (w1 := cw_X12 E q0 S0) X hP hD hS (va_runV (C := RX12) (As := [.int x2]) (rest := []) ⟨hx, hb, hml, hown, hg⟩ (c_X12_isFleet l E q0 H.size S0 x2 u14 hc) (cwV 1 hg (gwV wm_X12_282 wi_X12_isFleet wsl_X12_isFleet wini_X12 wco_X12_isFleet) rfl rfl rfl (by decide +kernel) ⟨Nat.le_of_ble_eq_true rfl, Nat.le_of_ble_eq_true rfl⟩) ⟨ct_blind, ct_rv X.1 hP 0 rfl rfl, ct_preA X hP hD hS _⟩ rfl rfl hl.1 rfl (lv_room (Nat.le_of_ble_eq_true rfl)) dX12_hourGoes_53 ⟨Nat.zero_le _, Nat.zero_le _⟩) (fun H locs hP hD hS => ?_)
        refine lv_if_eq (tgt := 65) hx hb dX12_hourGoes_56 (by decide) (fun c15 => ?_) (fun c15 => ?_)
        · have h := it_t h c15
          obtain ⟨v16, ev16, h⟩ := lt_el h
          refine lv_iinc (v := v16) (lv' := [(2, .int v16), (0, .ref (q0 0)), (1, .int x1)]) hx hb dX12_hourGoes_65 hl (k := 2) rfl (by rw [ev16]; rfl) (by decide) rfl (fun ls hl => ?_)
          refine lv_goto (tgt := 45) hx hb dX12_hourGoes_68 (by decide) ?_
          exact ih S0 x1 v16 _ _ _ h hP hD hS (lv_sub hl [1, 2, 0] rfl)
        · have h := it_f h c15
          refine lv_aload_n hx hb dX12_hourGoes_59 rfl (lv_at hl 0 rfl) ?_
          refine lv_iload_n hx hb dX12_hourGoes_60 rfl (lv_at hl 1 rfl) ?_
          refine lv_iload_n hx hb dX12_hourGoes_61 rfl (lv_at hl 2 rfl) ?_
          obtain ⟨u17, hc, h⟩ := bd_el h
          refine ct_vA (w1 := cw_X12 E q0 u17) X hP hD hS (va_runV (C := RX12) (As := [.int x1, .int x2]) (rest := []) ⟨hx, hb, hml, hown, hg⟩ (c_X12_touches l E q0 H.size S0 x1 x2 u17 hc) (cwV 2 hg (gwV wm_X12_323 wi_X12_touches wsl_X12_touches wini_X12 wco_X12_touches) rfl rfl rfl (by decide +kernel) ⟨Nat.le_of_ble_eq_true rfl, Nat.le_of_ble_eq_true rfl⟩) ⟨ct_blind, ct_rv X.1 hP 0 rfl rfl, ct_preA X hP hD hS _⟩ rfl rfl hl.1 rfl (lv_room (Nat.le_of_ble_eq_true rfl)) dX12_hourGoes_62 ⟨Nat.zero_le _, Nat.zero_le _⟩) (fun H locs hP hD hS => ?_)
          obtain ⟨v18, ev18, h⟩ := lt_el h
          refine lv_iinc (v := v18) (lv' := [(2, .int v18), (0, .ref (q0 0)), (1, .int x1)]) hx hb dX12_hourGoes_65 hl (k := 2) rfl (by rw [ev18]; rfl) (by decide) rfl (fun ls hl => ?_)
          refine lv_goto (tgt := 45) hx hb dX12_hourGoes_68 (by decide) ?_
          exact ih u17 x1 v18 _ _ _ h hP hD hS (lv_sub hl [1, 2, 0] rfl)
  have N21 : ∀ (n : Nat) (S0 : Gr) (x1 : Int32) (H : Heap) (locs : List Loc) (ls : Array Slot), f_X12_hourGoes_n21 n S0 x1 = some Rv → va_P E.1 vwCl (cw_X12 E q0 S0) H → va_D A (cw_X12 E q0 S0) → va_S A s.heap H locs → lv_has ls 3 [(0, .ref (q0 0)), (1, .int x1)] → W p l e ({ frames := 4, cells := 0, slots := 0, locals := 97 } : Room) s m ar below meth c H locs 0 0 QM (F0 m 21 ls []) := by
    intro n
    induction n with
    | zero => intro S0 x1 H locs ls h; exact nn_el h
    | succ n ih =>
      intro S0 x1 H locs ls h hP hD hS hl
      refine lv_iload_n hx hb dX12_hourGoes_21 rfl (lv_at hl 1 rfl) ?_
      refine lv_bipush (v := 8) hx hb dX12_hourGoes_22 (by decide) ?_
      refine lv_icmp_ge (tgt := 82) hx hb dX12_hourGoes_24 (by decide) (fun c4 => ?_) (fun c4 => ?_)
      · have h := it_t h c4
        refine lv_aload_n hx hb dX12_hourGoes_82 rfl (lv_at hl 0 rfl) ?_
        refine va_get (D := E.1) (ci := 11) (v := .ref (q0 1)) (C := RX12) (T := TX12) (N := 57) hx hb hg in_X12 hown X.1 hP 0 rfl rfl 0 (by decide) (hg _ wf_X12_7) (fun _ h9 => h9) rfl dX12_hourGoes_83 ?_
        refine lv_bipush (v := 80) hx hb dX12_hourGoes_86 (by decide) ?_
        refine lv_aload_n hx hb dX12_hourGoes_88 rfl (lv_at hl 0 rfl) ?_
        refine va_get (D := E.1) (ci := 11) (v := .ref (q0 1)) (C := RX12) (T := TX12) (N := 57) hx hb hg in_X12 hown X.1 hP 0 rfl rfl 0 (by decide) (hg _ wf_X12_7) (fun _ h9 => h9) rfl dX12_hourGoes_89 ?_
        refine lv_bipush (v := 80) hx hb dX12_hourGoes_92 (by decide) ?_
        obtain ⟨hi, v5, ev5, h⟩ := rd_el h
        refine va_iald hx hb X.1 hP 1 0 rfl rfl hi dX12_hourGoes_94 ?_
        refine lv_top' ev5 ?_
        refine lv_iconst (v := 1) hx hb dX12_hourGoes_95 (by decide) ?_
        refine lv_iadd hx hb dX12_hourGoes_96 ?_
        obtain ⟨hi, h⟩ := ck_el h
        obtain ⟨S0_6, eS, h⟩ := lt_el h
        refine va_iast hx hb X.1 hP hD hS 1 0 rfl rfl hi dX12_hourGoes_97 (fun H locs hP hD hS => ?_)
        have hP : va_P E.1 vwCl (cw_X12 E q0 S0_6) H := by rw [eS]; exact hP
        have hD : va_D A (cw_X12 E q0 S0_6) := by rw [eS]; exact hD
        clear eS
        exact RT S0_6 _ _ _ _ h hP hD hS dX12_hourGoes_98
      · have h := it_f h c4
        refine lv_aload_n hx hb dX12_hourGoes_27 rfl (lv_at hl 0 rfl) ?_
        refine lv_iload_n hx hb dX12_hourGoes_28 rfl (lv_at hl 1 rfl) ?_
        obtain ⟨u7, hc, h⟩ := bd_el h
        refine ct_iA (w1 := cw_X12 E q0 S0) X hP hD hS (va_runV (C := RX12) (As := [.int x1]) (rest := []) ⟨hx, hb, hml, hown, hg⟩ (c_X12_isWeb l E q0 H.size S0 x1 u7 hc) (cwV 1 hg (gwV wm_X12_139 wi_X12_isWeb wsl_X12_isWeb wini_X12 wco_X12_isWeb) rfl rfl rfl (by decide +kernel) ⟨Nat.le_of_ble_eq_true rfl, Nat.le_of_ble_eq_true rfl⟩) ⟨ct_blind, ct_rv X.1 hP 0 rfl rfl, ct_preA X hP hD hS _⟩ rfl rfl hl.1 rfl (lv_room (Nat.le_of_ble_eq_true rfl)) dX12_hourGoes_29 ⟨Nat.zero_le _, Nat.zero_le _⟩) (fun H locs hP hD hS => ?_)
        refine lv_if_ne (tgt := 38) hx hb dX12_hourGoes_32 (by decide) (fun c8 => ?_) (fun c8 => ?_)
        · have h := it_f h c8
          refine lv_aload_n hx hb dX12_hourGoes_38 rfl (lv_at hl 0 rfl) ?_
          refine lv_iconst (v := 0) hx hb dX12_hourGoes_39 (by decide) ?_
          obtain ⟨S0_9, eS, h⟩ := lt_el h
          refine va_put (D := E.1) (ci := 11) (v := .int 0) (ty := .int) (C := RX12) (T := TX12) (N := 57) hx hb hg in_X12 tyX12 tyX12_ok nmX12 hown X.1 hP hD hS 0 rfl rfl 40 (by decide) (hg _ wf_X12_311) (fun _ h9 => h9) rfl (by decide +kernel) rfl rfl (Nat.le_of_ble_eq_true rfl) dX12_hourGoes_40 (fun H locs hP hD hS => ?_)
          have hP : va_P E.1 vwCl (cw_X12 E q0 S0_9) H := by rw [eS]; exact hP
          have hD : va_D A (cw_X12 E q0 S0_9) := by rw [eS]; exact hD
          clear eS
          refine lv_iconst (v := 0) hx hb dX12_hourGoes_43 (by decide) ?_
          refine lv_istore_n (lv' := [(2, .int 0), (0, .ref (q0 0)), (1, .int x1)]) hx hb dX12_hourGoes_44 rfl hl (by decide) rfl (fun ls hl => ?_)
          exact N45 (f_X12_hourGoes_n21 n) ih fu S0_9 x1 0 _ _ _ h hP hD hS (lv_sub hl [1, 2, 0] rfl)
        · have h := it_t h c8
          refine lv_goto (tgt := 76) hx hb dX12_hourGoes_35 (by decide) ?_
          obtain ⟨v10, ev10, h⟩ := lt_el h
          refine lv_iinc (v := v10) (lv' := [(1, .int v10), (0, .ref (q0 0))]) hx hb dX12_hourGoes_76 hl (k := 1) rfl (by rw [ev10]; rfl) (by decide) rfl (fun ls hl => ?_)
          refine lv_goto (tgt := 21) hx hb dX12_hourGoes_79 (by decide) ?_
          exact ih S0 v10 _ _ _ h hP hD hS (lv_sub hl [1, 0] rfl)
  have N2 : ∀ (n : Nat) (S0 : Gr) (x1 : Int32) (H : Heap) (locs : List Loc) (ls : Array Slot), f_X12_hourGoes_n2 n S0 x1 = some Rv → va_P E.1 vwCl (cw_X12 E q0 S0) H → va_D A (cw_X12 E q0 S0) → va_S A s.heap H locs → lv_has ls 3 [(0, .ref (q0 0)), (1, .int x1)] → W p l e ({ frames := 4, cells := 0, slots := 0, locals := 97 } : Room) s m ar below meth c H locs 0 0 QM (F0 m 2 ls []) := by
    intro n
    induction n with
    | zero => intro S0 x1 H locs ls h; exact nn_el h
    | succ n ih =>
      intro S0 x1 H locs ls h hP hD hS hl
      refine lv_iload_n hx hb dX12_hourGoes_2 rfl (lv_at hl 1 rfl) ?_
      refine lv_bipush (v := 8) hx hb dX12_hourGoes_3 (by decide) ?_
      refine lv_icmp_ge (tgt := 19) hx hb dX12_hourGoes_5 (by decide) (fun c1 => ?_) (fun c1 => ?_)
      · have h := it_t h c1
        refine lv_iconst (v := 0) hx hb dX12_hourGoes_19 (by decide) ?_
        refine lv_istore_n (lv' := [(1, .int 0), (0, .ref (q0 0))]) hx hb dX12_hourGoes_20 rfl hl (by decide) rfl (fun ls hl => ?_)
        exact N21 fu S0 0 _ _ _ h hP hD hS (lv_sub hl [1, 0] rfl)
      · have h := it_f h c1
        refine lv_aload_n hx hb dX12_hourGoes_8 rfl (lv_at hl 0 rfl) ?_
        refine lv_iload_n hx hb dX12_hourGoes_9 rfl (lv_at hl 1 rfl) ?_
        obtain ⟨u2, hc, h⟩ := bd_el h
        refine ct_vA (w1 := cw_X12 E q0 u2) X hP hD hS (va_runV (C := RX12) (As := [.int x1]) (rest := []) ⟨hx, hb, hml, hown, hg⟩ (c_X12_sails l E q0 H.size S0 x1 u2 hc) (cwV 1 hg (gwV wm_X12_320 wi_X12_sails wsl_X12_sails wini_X12 wco_X12_sails) rfl rfl rfl (by decide +kernel) ⟨Nat.le_of_ble_eq_true rfl, Nat.le_of_ble_eq_true rfl⟩) ⟨ct_blind, ct_rv X.1 hP 0 rfl rfl, ct_preA X hP hD hS _⟩ rfl rfl hl.1 rfl (lv_room (Nat.le_of_ble_eq_true rfl)) dX12_hourGoes_10 ⟨Nat.zero_le _, Nat.zero_le _⟩) (fun H locs hP hD hS => ?_)
        obtain ⟨v3, ev3, h⟩ := lt_el h
        refine lv_iinc (v := v3) (lv' := [(1, .int v3), (0, .ref (q0 0))]) hx hb dX12_hourGoes_13 hl (k := 1) rfl (by rw [ev3]; rfl) (by decide) rfl (fun ls hl => ?_)
        refine lv_goto (tgt := 2) hx hb dX12_hourGoes_16 (by decide) ?_
        exact ih u2 v3 _ _ _ h hP hD hS (lv_sub hl [1, 0] rfl)
  obtain ⟨H, eH⟩ : ∃ z, z = s.heap := ⟨_, rfl⟩
  rw [← eH]
  have hP : va_P E.1 vwCl (cw_X12 E q0 S0) H := by rw [eH]; exact hP
  have hS : va_S A s.heap H [] := by rw [eH]; exact hS
  clear eH
  obtain ⟨locs, el⟩ : ∃ z : List Loc, z = [] := ⟨_, rfl⟩
  rw [← el] at hS ⊢
  clear el
  refine lv_iconst (v := 0) hx hb dX12_hourGoes_0 (by decide) ?_
  refine lv_istore_n (lv' := [(1, .int 0), (0, .ref (q0 0))]) hx hb dX12_hourGoes_1 rfl hl (by decide) rfl (fun ls hl => ?_)
  exact N2 fu S0 0 _ _ _ h hP hD hS (lv_sub hl [1, 0] rfl)
theorem dX12_hoursGo_0 : decode cX12_hoursGo 0 = .ok (.aload_n 0, 1) := by decide +kernel
theorem dX12_hoursGo_1 : decode cX12_hoursGo 1 = .ok (.iconst 0, 1) := by decide +kernel
theorem dX12_hoursGo_2 : decode cX12_hoursGo 2 = .ok (.putfield 314, 3) := by decide +kernel
theorem dX12_hoursGo_5 : decode cX12_hoursGo 5 = .ok (.iconst 0, 1) := by decide +kernel
theorem dX12_hoursGo_6 : decode cX12_hoursGo 6 = .ok (.istore_n 2, 1) := by decide +kernel
theorem dX12_hoursGo_7 : decode cX12_hoursGo 7 = .ok (.iload_n 2, 1) := by decide +kernel
theorem dX12_hoursGo_8 : decode cX12_hoursGo 8 = .ok (.iload_n 1, 1) := by decide +kernel
theorem dX12_hoursGo_9 : decode cX12_hoursGo 9 = .ok (.if_icmp .ge 26, 3) := by decide +kernel
theorem dX12_hoursGo_12 : decode cX12_hoursGo 12 = .ok (.aload_n 0, 1) := by decide +kernel
theorem dX12_hoursGo_13 : decode cX12_hoursGo 13 = .ok (.getfield 7, 3) := by decide +kernel
theorem dX12_hoursGo_16 : decode cX12_hoursGo 16 = .ok (.bipush 80, 2) := by decide +kernel
theorem dX12_hoursGo_18 : decode cX12_hoursGo 18 = .ok (.iaload, 1) := by decide +kernel
theorem dX12_hoursGo_19 : decode cX12_hoursGo 19 = .ok (.sipush 9999, 3) := by decide +kernel
theorem dX12_hoursGo_22 : decode cX12_hoursGo 22 = .ok (.if_icmp .ge 13, 3) := by decide +kernel
theorem dX12_hoursGo_25 : decode cX12_hoursGo 25 = .ok (.aload_n 0, 1) := by decide +kernel
theorem dX12_hoursGo_26 : decode cX12_hoursGo 26 = .ok (.invokevirtual 329, 3) := by decide +kernel
theorem dX12_hoursGo_29 : decode cX12_hoursGo 29 = .ok (.iinc 2 1, 3) := by decide +kernel
theorem dX12_hoursGo_32 : decode cX12_hoursGo 32 = .ok (.goto (-25), 3) := by decide +kernel
theorem dX12_hoursGo_35 : decode cX12_hoursGo 35 = .ok (.return_, 1) := by decide +kernel
def f_X12_hoursGo_n7 (x1 : Int32) : Nat → Gr → Int32 → Option (Gr)
  | 0, _, _ => none
  | n + 1, S0, x2 => if x1 ≤ x2 then (some S0) else (rd' (S0.2 0) 82 80 fun v3 => if 9999 ≤ v3 then (some S0) else ((f_X12_hourGoes S0).bind fun u5 => lt' (x2 + 1) fun v6 => f_X12_hoursGo_n7 x1 n u5 v6))
def f_X12_hoursGo (S0 : Gr) (x1 : Int32) : Option (Gr) := lt' (sI S0 39 0) fun S0_1 => f_X12_hoursGo_n7 x1 fu S0_1 0
set_option maxHeartbeats 4000000 in
set_option maxRecDepth 100000 in
theorem c_X12_hoursGo (l : Launch) (E : Ec) (q0 : Nat → Nat) (sz : Nat) (S0 : Gr) (x1 : Int32) (Rv : Gr) (h : f_X12_hoursGo S0 x1 = some Rv) : Met l yX12_hoursGo (wsM (.code yX12_hoursGo cX12_hoursGo 3 none)) ({ frames := 5, cells := 0, slots := 0, locals := 119 } : Room) (va_Pc [.ref (q0 0), .int x1] (ctP E (cw_X12 E q0 S0) sz)) (ctV E (cw_X12 E q0 S0) (cw_X12 E q0 Rv) sz) 0 0 (va_A (cw_X12 E q0 S0) sz) := by
  refine ct_metV (by decide) (Nat.le_of_ble_eq_true rfl) ?_
  intro p e s m ar below meth c A QM hx hb hml hown hg X hP hD hS RET ls hl
  have hown : s.vm.findClass RX12 = some m.cls := hown
  have hl : lv_has ls 3 [(0, .ref (q0 0)), (1, .int x1)] := hl
  have RT : ∀ (S0 : Gr) (H : Heap) (locs : List Loc) (ls : Array Slot) (pc : Nat), some S0 = some Rv → va_P E.1 vwCl (cw_X12 E q0 S0) H → va_D A (cw_X12 E q0 S0) → va_S A s.heap H locs → decode cX12_hoursGo pc = .ok (.return_, 1) → W p l e ({ frames := 5, cells := 0, slots := 0, locals := 119 } : Room) s m ar below meth c H locs 0 0 QM (F0 m pc ls []) := by
    intro S0 H locs ls pc e hP hD hS d
    obtain rfl := sm_e e
    exact RET H locs pc ls hP hD hS d
  clear RET
  have N7 : ∀ (n : Nat) (S0 : Gr) (x2 : Int32) (H : Heap) (locs : List Loc) (ls : Array Slot), f_X12_hoursGo_n7 x1 n S0 x2 = some Rv → va_P E.1 vwCl (cw_X12 E q0 S0) H → va_D A (cw_X12 E q0 S0) → va_S A s.heap H locs → lv_has ls 3 [(0, .ref (q0 0)), (1, .int x1), (2, .int x2)] → W p l e ({ frames := 5, cells := 0, slots := 0, locals := 119 } : Room) s m ar below meth c H locs 0 0 QM (F0 m 7 ls []) := by
    intro n
    induction n with
    | zero => intro S0 x2 H locs ls h; exact nn_el h
    | succ n ih =>
      intro S0 x2 H locs ls h hP hD hS hl
      refine lv_iload_n hx hb dX12_hoursGo_7 rfl (lv_at hl 2 rfl) ?_
      refine lv_iload_n hx hb dX12_hoursGo_8 rfl (lv_at hl 1 rfl) ?_
      refine lv_icmp_ge (tgt := 35) hx hb dX12_hoursGo_9 (by decide) (fun c2 => ?_) (fun c2 => ?_)
      · have h := it_t h c2
        exact RT S0 _ _ _ _ h hP hD hS dX12_hoursGo_35
      · have h := it_f h c2
        refine lv_aload_n hx hb dX12_hoursGo_12 rfl (lv_at hl 0 rfl) ?_
        refine va_get (D := E.1) (ci := 11) (v := .ref (q0 1)) (C := RX12) (T := TX12) (N := 57) hx hb hg in_X12 hown X.1 hP 0 rfl rfl 0 (by decide) (hg _ wf_X12_7) (fun _ h9 => h9) rfl dX12_hoursGo_13 ?_
        refine lv_bipush (v := 80) hx hb dX12_hoursGo_16 (by decide) ?_
        obtain ⟨hi, v3, ev3, h⟩ := rd_el h
        refine va_iald hx hb X.1 hP 1 0 rfl rfl hi dX12_hoursGo_18 ?_
        refine lv_top' ev3 ?_
        refine lv_sipush (v := 9999) hx hb dX12_hoursGo_19 (by decide) ?_
        refine lv_icmp_ge (tgt := 35) hx hb dX12_hoursGo_22 (by decide) (fun c4 => ?_) (fun c4 => ?_)
        · have h := it_t h c4
          exact RT S0 _ _ _ _ h hP hD hS dX12_hoursGo_35
        · have h := it_f h c4
          refine lv_aload_n hx hb dX12_hoursGo_25 rfl (lv_at hl 0 rfl) ?_
          obtain ⟨u5, hc, h⟩ := bd_el h
          refine ct_vA (w1 := cw_X12 E q0 u5) X hP hD hS (va_runV (C := RX12) (As := []) (rest := []) ⟨hx, hb, hml, hown, hg⟩ (c_X12_hourGoes l E q0 H.size S0 u5 hc) (cwV 0 hg (gwV wm_X12_329 wi_X12_hourGoes wsl_X12_hourGoes wini_X12 wco_X12_hourGoes) rfl rfl rfl (by decide +kernel) ⟨Nat.le_of_ble_eq_true rfl, Nat.le_of_ble_eq_true rfl⟩) ⟨ct_blind, ct_rv X.1 hP 0 rfl rfl, ct_preA X hP hD hS _⟩ rfl rfl hl.1 rfl (lv_room (Nat.le_of_ble_eq_true rfl)) dX12_hoursGo_26 ⟨Nat.zero_le _, Nat.zero_le _⟩) (fun H locs hP hD hS => ?_)
          obtain ⟨v6, ev6, h⟩ := lt_el h
          refine lv_iinc (v := v6) (lv' := [(2, .int v6), (0, .ref (q0 0)), (1, .int x1)]) hx hb dX12_hoursGo_29 hl (k := 2) rfl (by rw [ev6]; rfl) (by decide) rfl (fun ls hl => ?_)
          refine lv_goto (tgt := 7) hx hb dX12_hoursGo_32 (by decide) ?_
          exact ih u5 v6 _ _ _ h hP hD hS (lv_sub hl [1, 2, 0] rfl)
  obtain ⟨H, eH⟩ : ∃ z, z = s.heap := ⟨_, rfl⟩
  rw [← eH]
  have hP : va_P E.1 vwCl (cw_X12 E q0 S0) H := by rw [eH]; exact hP
  have hS : va_S A s.heap H [] := by rw [eH]; exact hS
  clear eH
  obtain ⟨locs, el⟩ : ∃ z : List Loc, z = [] := ⟨_, rfl⟩
  rw [← el] at hS ⊢
  clear el
  refine lv_aload_n hx hb dX12_hoursGo_0 rfl (lv_at hl 0 rfl) ?_
  refine lv_iconst (v := 0) hx hb dX12_hoursGo_1 (by decide) ?_
  obtain ⟨S0_1, eS, h⟩ := lt_el h
  refine va_put (D := E.1) (ci := 11) (v := .int 0) (ty := .int) (C := RX12) (T := TX12) (N := 57) hx hb hg in_X12 tyX12 tyX12_ok nmX12 hown X.1 hP hD hS 0 rfl rfl 39 (by decide) (hg _ wf_X12_314) (fun _ h9 => h9) rfl (by decide +kernel) rfl rfl (Nat.le_of_ble_eq_true rfl) dX12_hoursGo_2 (fun H locs hP hD hS => ?_)
  have hP : va_P E.1 vwCl (cw_X12 E q0 S0_1) H := by rw [eS]; exact hP
  have hD : va_D A (cw_X12 E q0 S0_1) := by rw [eS]; exact hD
  clear eS
  refine lv_iconst (v := 0) hx hb dX12_hoursGo_5 (by decide) ?_
  refine lv_istore_n (lv' := [(2, .int 0), (0, .ref (q0 0)), (1, .int x1)]) hx hb dX12_hoursGo_6 rfl hl (by decide) rfl (fun ls hl => ?_)
  exact N7 fu S0_1 0 _ _ _ h hP hD hS (lv_sub hl [1, 2, 0] rfl)
theorem dX12_hours_0 : decode cX12_hours 0 = .ok (.iload_n 1, 1) := by decide +kernel
theorem dX12_hours_1 : decode cX12_hours 1 = .ok (.iconst 1, 1) := by decide +kernel
theorem dX12_hours_2 : decode cX12_hours 2 = .ok (.bipush 100, 2) := by decide +kernel
theorem dX12_hours_4 : decode cX12_hours 4 = .ok (.invokestatic 110, 3) := by decide +kernel
theorem dX12_hours_7 : decode cX12_hours 7 = .ok (.ifCond .ne 5, 3) := by decide +kernel
theorem dX12_hours_10 : decode cX12_hours 10 = .ok (.iconst (-1), 1) := by decide +kernel
theorem dX12_hours_11 : decode cX12_hours 11 = .ok (.ireturn, 1) := by decide +kernel
theorem dX12_hours_12 : decode cX12_hours 12 = .ok (.aload_n 0, 1) := by decide +kernel
theorem dX12_hours_13 : decode cX12_hours 13 = .ok (.iload_n 1, 1) := by decide +kernel
theorem dX12_hours_14 : decode cX12_hours 14 = .ok (.invokevirtual 332, 3) := by decide +kernel
theorem dX12_hours_17 : decode cX12_hours 17 = .ok (.aload_n 0, 1) := by decide +kernel
theorem dX12_hours_18 : decode cX12_hours 18 = .ok (.getfield 314, 3) := by decide +kernel
theorem dX12_hours_21 : decode cX12_hours 21 = .ok (.ireturn, 1) := by decide +kernel
def f_X12_hours (S0 : Gr) (x1 : Int32) : Option (Int32 × Gr) := (f_X12_in x1 1 100).bind fun u1 => if u1 = 0 then (some ((-1), S0)) else ((f_X12_hoursGo S0 x1).bind fun u3 => some ((u3.1 39), u3))
set_option maxHeartbeats 4000000 in
set_option maxRecDepth 100000 in
theorem c_X12_hours (l : Launch) (E : Ec) (q0 : Nat → Nat) (sz : Nat) (S0 : Gr) (x1 : Int32) (Rv : Int32 × Gr) (h : f_X12_hours S0 x1 = some Rv) : Met l yX12_hours (wsM (.code yX12_hours cX12_hours 2 (some .int))) ({ frames := 6, cells := 0, slots := 0, locals := 141 } : Room) (va_Pc [.ref (q0 0), .int x1] (ctP E (cw_X12 E q0 S0) sz)) (ctI E (cw_X12 E q0 S0) (cw_X12 E q0 Rv.2) sz Rv.1) 0 0 (va_A (cw_X12 E q0 S0) sz) := by
  refine ct_metI (by decide) (Nat.le_of_ble_eq_true rfl) ?_
  intro p e s m ar below meth c A QM hx hb hml hown hg X hP hD hS RET ls hl
  have hown : s.vm.findClass RX12 = some m.cls := hown
  have hl : lv_has ls 2 [(0, .ref (q0 0)), (1, .int x1)] := hl
  have RT : ∀ (v : Int32) (S0 : Gr) (H : Heap) (locs : List Loc) (ls : Array Slot) (pc : Nat), some (v, S0) = some Rv → narrow .int (.int v) = .int v → va_P E.1 vwCl (cw_X12 E q0 S0) H → va_D A (cw_X12 E q0 S0) → va_S A s.heap H locs → decode cX12_hours pc = .ok (.ireturn, 1) → W p l e ({ frames := 6, cells := 0, slots := 0, locals := 141 } : Room) s m ar below meth c H locs 0 0 QM (F0 m pc ls [.int v]) := by
    intro v S0 H locs ls pc e hn hP hD hS d
    obtain rfl := sm_e e
    exact RET H locs pc ls hn hP hD hS d
  clear RET
  obtain ⟨H, eH⟩ : ∃ z, z = s.heap := ⟨_, rfl⟩
  rw [← eH]
  have hP : va_P E.1 vwCl (cw_X12 E q0 S0) H := by rw [eH]; exact hP
  have hS : va_S A s.heap H [] := by rw [eH]; exact hS
  clear eH
  obtain ⟨locs, el⟩ : ∃ z : List Loc, z = [] := ⟨_, rfl⟩
  rw [← el] at hS ⊢
  clear el
  refine lv_iload_n hx hb dX12_hours_0 rfl (lv_at hl 1 rfl) ?_
  refine lv_iconst (v := 1) hx hb dX12_hours_1 (by decide) ?_
  refine lv_bipush (v := 100) hx hb dX12_hours_2 (by decide) ?_
  obtain ⟨u1, hc, h⟩ := bd_el h
  refine ct_iN X hP hD hS (va_runS (As := [.int x1, .int 1, .int 100]) (rest := []) ⟨hx, hb, hml, hown, hg⟩ (c_X12_in l E  H.size x1 1 100 u1 hc) (va_cwS 3 hg (gwS wm_X12_110 wst_X12_in wini_X12 wco_X12_in) rfl rfl rfl (by decide +kernel) ⟨Nat.le_of_ble_eq_true rfl, Nat.le_of_ble_eq_true rfl⟩) ⟨ct_blind, ct_preN X hS _⟩ rfl rfl hl.1 rfl (lv_room (Nat.le_of_ble_eq_true rfl)) dX12_hours_4 ⟨Nat.zero_le _, Nat.zero_le _⟩) (fun H locs hP hD hS => ?_)
  refine lv_if_ne (tgt := 12) hx hb dX12_hours_7 (by decide) (fun c2 => ?_) (fun c2 => ?_)
  · have h := it_f h c2
    refine lv_aload_n hx hb dX12_hours_12 rfl (lv_at hl 0 rfl) ?_
    refine lv_iload_n hx hb dX12_hours_13 rfl (lv_at hl 1 rfl) ?_
    obtain ⟨u3, hc, h⟩ := bd_el h
    refine ct_vA (w1 := cw_X12 E q0 u3) X hP hD hS (va_runV (C := RX12) (As := [.int x1]) (rest := []) ⟨hx, hb, hml, hown, hg⟩ (c_X12_hoursGo l E q0 H.size S0 x1 u3 hc) (cwV 1 hg (gwV wm_X12_332 wi_X12_hoursGo wsl_X12_hoursGo wini_X12 wco_X12_hoursGo) rfl rfl rfl (by decide +kernel) ⟨Nat.le_of_ble_eq_true rfl, Nat.le_of_ble_eq_true rfl⟩) ⟨ct_blind, ct_rv X.1 hP 0 rfl rfl, ct_preA X hP hD hS _⟩ rfl rfl hl.1 rfl (lv_room (Nat.le_of_ble_eq_true rfl)) dX12_hours_14 ⟨Nat.zero_le _, Nat.zero_le _⟩) (fun H locs hP hD hS => ?_)
    refine lv_aload_n hx hb dX12_hours_17 rfl (lv_at hl 0 rfl) ?_
    refine va_get (D := E.1) (ci := 11) (v := .int (u3.1 39)) (C := RX12) (T := TX12) (N := 57) hx hb hg in_X12 hown X.1 hP 0 rfl rfl 39 (by decide) (hg _ wf_X12_314) (fun _ h9 => h9) rfl dX12_hours_18 ?_
    exact RT (u3.1 39) u3 _ _ _ _ h rfl hP hD hS dX12_hours_21
  · have h := it_t h c2
    refine lv_iconst (v := (-1)) hx hb dX12_hours_10 (by decide) ?_
    exact RT (-1) S0 _ _ _ _ h rfl hP hD hS dX12_hours_11
theorem dX12_inCommon_0 : decode cX12_inCommon 0 = .ok (.iload_n 1, 1) := by decide +kernel
theorem dX12_inCommon_1 : decode cX12_inCommon 1 = .ok (.iconst 1, 1) := by decide +kernel
theorem dX12_inCommon_2 : decode cX12_inCommon 2 = .ok (.bipush 30, 2) := by decide +kernel
theorem dX12_inCommon_4 : decode cX12_inCommon 4 = .ok (.invokestatic 110, 3) := by decide +kernel
theorem dX12_inCommon_7 : decode cX12_inCommon 7 = .ok (.ifCond .eq 23, 3) := by decide +kernel
theorem dX12_inCommon_10 : decode cX12_inCommon 10 = .ok (.iload_n 2, 1) := by decide +kernel
theorem dX12_inCommon_11 : decode cX12_inCommon 11 = .ok (.iconst 1, 1) := by decide +kernel
theorem dX12_inCommon_12 : decode cX12_inCommon 12 = .ok (.bipush 30, 2) := by decide +kernel
theorem dX12_inCommon_14 : decode cX12_inCommon 14 = .ok (.invokestatic 110, 3) := by decide +kernel
theorem dX12_inCommon_17 : decode cX12_inCommon 17 = .ok (.ifCond .eq 13, 3) := by decide +kernel
theorem dX12_inCommon_20 : decode cX12_inCommon 20 = .ok (.iload_n 1, 1) := by decide +kernel
theorem dX12_inCommon_21 : decode cX12_inCommon 21 = .ok (.iload_n 2, 1) := by decide +kernel
theorem dX12_inCommon_22 : decode cX12_inCommon 22 = .ok (.iadd, 1) := by decide +kernel
theorem dX12_inCommon_23 : decode cX12_inCommon 23 = .ok (.aload_n 0, 1) := by decide +kernel
theorem dX12_inCommon_24 : decode cX12_inCommon 24 = .ok (.getfield 143, 3) := by decide +kernel
theorem dX12_inCommon_27 : decode cX12_inCommon 27 = .ok (.if_icmp .le 5, 3) := by decide +kernel
theorem dX12_inCommon_30 : decode cX12_inCommon 30 = .ok (.iconst (-1), 1) := by decide +kernel
theorem dX12_inCommon_31 : decode cX12_inCommon 31 = .ok (.ireturn, 1) := by decide +kernel
theorem dX12_inCommon_32 : decode cX12_inCommon 32 = .ok (.aload_n 0, 1) := by decide +kernel
theorem dX12_inCommon_33 : decode cX12_inCommon 33 = .ok (.iconst 0, 1) := by decide +kernel
theorem dX12_inCommon_34 : decode cX12_inCommon 34 = .ok (.putfield 143, 3) := by decide +kernel
theorem dX12_inCommon_37 : decode cX12_inCommon 37 = .ok (.iconst 0, 1) := by decide +kernel
theorem dX12_inCommon_38 : decode cX12_inCommon 38 = .ok (.istore_n 3, 1) := by decide +kernel
theorem dX12_inCommon_39 : decode cX12_inCommon 39 = .ok (.iload_n 3, 1) := by decide +kernel
theorem dX12_inCommon_40 : decode cX12_inCommon 40 = .ok (.iload_n 1, 1) := by decide +kernel
theorem dX12_inCommon_41 : decode cX12_inCommon 41 = .ok (.if_icmp .gt 131, 3) := by decide +kernel
theorem dX12_inCommon_44 : decode cX12_inCommon 44 = .ok (.iconst 0, 1) := by decide +kernel
theorem dX12_inCommon_45 : decode cX12_inCommon 45 = .ok (.istore 4, 2) := by decide +kernel
theorem dX12_inCommon_47 : decode cX12_inCommon 47 = .ok (.iload 4, 2) := by decide +kernel
theorem dX12_inCommon_49 : decode cX12_inCommon 49 = .ok (.iload_n 2, 1) := by decide +kernel
theorem dX12_inCommon_50 : decode cX12_inCommon 50 = .ok (.if_icmp .gt 116, 3) := by decide +kernel
theorem dX12_inCommon_53 : decode cX12_inCommon 53 = .ok (.bipush 31, 2) := by decide +kernel
theorem dX12_inCommon_55 : decode cX12_inCommon 55 = .ok (.iload_n 3, 1) := by decide +kernel
theorem dX12_inCommon_56 : decode cX12_inCommon 56 = .ok (.imul, 1) := by decide +kernel
theorem dX12_inCommon_57 : decode cX12_inCommon 57 = .ok (.iload 4, 2) := by decide +kernel
theorem dX12_inCommon_59 : decode cX12_inCommon 59 = .ok (.iadd, 1) := by decide +kernel
theorem dX12_inCommon_60 : decode cX12_inCommon 60 = .ok (.istore 5, 2) := by decide +kernel
theorem dX12_inCommon_62 : decode cX12_inCommon 62 = .ok (.aload_n 0, 1) := by decide +kernel
theorem dX12_inCommon_63 : decode cX12_inCommon 63 = .ok (.getfield 89, 3) := by decide +kernel
theorem dX12_inCommon_66 : decode cX12_inCommon 66 = .ok (.iload 5, 2) := by decide +kernel
theorem dX12_inCommon_68 : decode cX12_inCommon 68 = .ok (.iconst 0, 1) := by decide +kernel
theorem dX12_inCommon_69 : decode cX12_inCommon 69 = .ok (.iastore, 1) := by decide +kernel
theorem dX12_inCommon_70 : decode cX12_inCommon 70 = .ok (.iload_n 3, 1) := by decide +kernel
theorem dX12_inCommon_71 : decode cX12_inCommon 71 = .ok (.ifCond .eq 89, 3) := by decide +kernel
theorem dX12_inCommon_74 : decode cX12_inCommon 74 = .ok (.iload 4, 2) := by decide +kernel
theorem dX12_inCommon_76 : decode cX12_inCommon 76 = .ok (.ifCond .ne 6, 3) := by decide +kernel
theorem dX12_inCommon_79 : decode cX12_inCommon 79 = .ok (.goto 81, 3) := by decide +kernel
theorem dX12_inCommon_82 : decode cX12_inCommon 82 = .ok (.aload_n 0, 1) := by decide +kernel
theorem dX12_inCommon_83 : decode cX12_inCommon 83 = .ok (.getfield 89, 3) := by decide +kernel
theorem dX12_inCommon_86 : decode cX12_inCommon 86 = .ok (.iload 5, 2) := by decide +kernel
theorem dX12_inCommon_88 : decode cX12_inCommon 88 = .ok (.aload_n 0, 1) := by decide +kernel
theorem dX12_inCommon_89 : decode cX12_inCommon 89 = .ok (.getfield 89, 3) := by decide +kernel
theorem dX12_inCommon_92 : decode cX12_inCommon 92 = .ok (.iload 5, 2) := by decide +kernel
theorem dX12_inCommon_94 : decode cX12_inCommon 94 = .ok (.bipush 31, 2) := by decide +kernel
theorem dX12_inCommon_96 : decode cX12_inCommon 96 = .ok (.isub, 1) := by decide +kernel
theorem dX12_inCommon_97 : decode cX12_inCommon 97 = .ok (.iaload, 1) := by decide +kernel
theorem dX12_inCommon_98 : decode cX12_inCommon 98 = .ok (.aload_n 0, 1) := by decide +kernel
theorem dX12_inCommon_99 : decode cX12_inCommon 99 = .ok (.getfield 89, 3) := by decide +kernel
theorem dX12_inCommon_102 : decode cX12_inCommon 102 = .ok (.iload 5, 2) := by decide +kernel
theorem dX12_inCommon_104 : decode cX12_inCommon 104 = .ok (.iconst 1, 1) := by decide +kernel
theorem dX12_inCommon_105 : decode cX12_inCommon 105 = .ok (.isub, 1) := by decide +kernel
theorem dX12_inCommon_106 : decode cX12_inCommon 106 = .ok (.iaload, 1) := by decide +kernel
theorem dX12_inCommon_107 : decode cX12_inCommon 107 = .ok (.invokestatic 129, 3) := by decide +kernel
theorem dX12_inCommon_110 : decode cX12_inCommon 110 = .ok (.iastore, 1) := by decide +kernel
theorem dX12_inCommon_111 : decode cX12_inCommon 111 = .ok (.aload_n 0, 1) := by decide +kernel
theorem dX12_inCommon_112 : decode cX12_inCommon 112 = .ok (.iload_n 3, 1) := by decide +kernel
theorem dX12_inCommon_113 : decode cX12_inCommon 113 = .ok (.iconst 1, 1) := by decide +kernel
theorem dX12_inCommon_114 : decode cX12_inCommon 114 = .ok (.isub, 1) := by decide +kernel
theorem dX12_inCommon_115 : decode cX12_inCommon 115 = .ok (.invokevirtual 351, 3) := by decide +kernel
theorem dX12_inCommon_118 : decode cX12_inCommon 118 = .ok (.aload_n 0, 1) := by decide +kernel
theorem dX12_inCommon_119 : decode cX12_inCommon 119 = .ok (.iload_n 1, 1) := by decide +kernel
theorem dX12_inCommon_120 : decode cX12_inCommon 120 = .ok (.iload 4, 2) := by decide +kernel
theorem dX12_inCommon_122 : decode cX12_inCommon 122 = .ok (.iadd, 1) := by decide +kernel
theorem dX12_inCommon_123 : decode cX12_inCommon 123 = .ok (.iconst 1, 1) := by decide +kernel
theorem dX12_inCommon_124 : decode cX12_inCommon 124 = .ok (.isub, 1) := by decide +kernel
theorem dX12_inCommon_125 : decode cX12_inCommon 125 = .ok (.invokevirtual 351, 3) := by decide +kernel
theorem dX12_inCommon_128 : decode cX12_inCommon 128 = .ok (.if_icmp .ne 32, 3) := by decide +kernel
theorem dX12_inCommon_131 : decode cX12_inCommon 131 = .ok (.aload_n 0, 1) := by decide +kernel
theorem dX12_inCommon_132 : decode cX12_inCommon 132 = .ok (.getfield 89, 3) := by decide +kernel
theorem dX12_inCommon_135 : decode cX12_inCommon 135 = .ok (.iload 5, 2) := by decide +kernel
theorem dX12_inCommon_137 : decode cX12_inCommon 137 = .ok (.aload_n 0, 1) := by decide +kernel
theorem dX12_inCommon_138 : decode cX12_inCommon 138 = .ok (.getfield 89, 3) := by decide +kernel
theorem dX12_inCommon_141 : decode cX12_inCommon 141 = .ok (.iload 5, 2) := by decide +kernel
theorem dX12_inCommon_143 : decode cX12_inCommon 143 = .ok (.iaload, 1) := by decide +kernel
theorem dX12_inCommon_144 : decode cX12_inCommon 144 = .ok (.aload_n 0, 1) := by decide +kernel
theorem dX12_inCommon_145 : decode cX12_inCommon 145 = .ok (.getfield 89, 3) := by decide +kernel
theorem dX12_inCommon_148 : decode cX12_inCommon 148 = .ok (.iload 5, 2) := by decide +kernel
theorem dX12_inCommon_150 : decode cX12_inCommon 150 = .ok (.bipush 32, 2) := by decide +kernel
theorem dX12_inCommon_152 : decode cX12_inCommon 152 = .ok (.isub, 1) := by decide +kernel
theorem dX12_inCommon_153 : decode cX12_inCommon 153 = .ok (.iaload, 1) := by decide +kernel
theorem dX12_inCommon_154 : decode cX12_inCommon 154 = .ok (.iconst 1, 1) := by decide +kernel
theorem dX12_inCommon_155 : decode cX12_inCommon 155 = .ok (.iadd, 1) := by decide +kernel
theorem dX12_inCommon_156 : decode cX12_inCommon 156 = .ok (.invokestatic 129, 3) := by decide +kernel
theorem dX12_inCommon_159 : decode cX12_inCommon 159 = .ok (.iastore, 1) := by decide +kernel
theorem dX12_inCommon_160 : decode cX12_inCommon 160 = .ok (.iinc 4 1, 3) := by decide +kernel
theorem dX12_inCommon_163 : decode cX12_inCommon 163 = .ok (.goto (-116), 3) := by decide +kernel
theorem dX12_inCommon_166 : decode cX12_inCommon 166 = .ok (.iinc 3 1, 3) := by decide +kernel
theorem dX12_inCommon_169 : decode cX12_inCommon 169 = .ok (.goto (-130), 3) := by decide +kernel
theorem dX12_inCommon_172 : decode cX12_inCommon 172 = .ok (.aload_n 0, 1) := by decide +kernel
theorem dX12_inCommon_173 : decode cX12_inCommon 173 = .ok (.getfield 89, 3) := by decide +kernel
theorem dX12_inCommon_176 : decode cX12_inCommon 176 = .ok (.bipush 31, 2) := by decide +kernel
theorem dX12_inCommon_178 : decode cX12_inCommon 178 = .ok (.iload_n 1, 1) := by decide +kernel
theorem dX12_inCommon_179 : decode cX12_inCommon 179 = .ok (.imul, 1) := by decide +kernel
theorem dX12_inCommon_180 : decode cX12_inCommon 180 = .ok (.iload_n 2, 1) := by decide +kernel
theorem dX12_inCommon_181 : decode cX12_inCommon 181 = .ok (.iadd, 1) := by decide +kernel
theorem dX12_inCommon_182 : decode cX12_inCommon 182 = .ok (.iaload, 1) := by decide +kernel
theorem dX12_inCommon_183 : decode cX12_inCommon 183 = .ok (.ireturn, 1) := by decide +kernel
def f_X12_inCommon_n47 (x1 : Int32) (x2 : Int32) (k39 : Gr → Int32 → Option (Int32 × Gr)) : Nat → Gr → Int32 → Int32 → Option (Int32 × Gr)
  | 0, _, _, _ => none
  | n + 1, S0, x3, x4 => if x2 < x4 then (lt' (x3 + 1) fun v10 => k39 S0 v10) else (lt' (((31 * x3) + x4)) fun v11 => ck' 961 v11 (lt' (sA S0 46 (Int32.toNatClampNeg v11) 0) fun S0_12 => if x3 = 0 then (lt' (x4 + 1) fun v14 => f_X12_inCommon_n47 x1 x2 k39 n S0_12 x3 v14) else (if x4 = 0 then (lt' (x4 + 1) fun v29 => f_X12_inCommon_n47 x1 x2 k39 n S0_12 x3 v29) else (rd' (S0_12.2 46) 961 (v11 - 31) fun v16 => rd' (S0_12.2 46) 961 (v11 - 1) fun v17 => (f_X12_max v16 v17).bind fun u18 => ck' 961 v11 (lt' (sA S0_12 46 (Int32.toNatClampNeg v11) u18) fun S0_19 => (f_X12_octet S0_19 (x3 - 1)).bind fun u20 => (f_X12_octet S0_19 ((x1 + x4) - 1)).bind fun u21 => if u20 = u21 then (rd' (S0_19.2 46) 961 v11 fun v24 => rd' (S0_19.2 46) 961 (v11 - 32) fun v25 => (f_X12_max v24 (v25 + 1)).bind fun u26 => ck' 961 v11 (lt' (sA S0_19 46 (Int32.toNatClampNeg v11) u26) fun S0_27 => lt' (x4 + 1) fun v28 => f_X12_inCommon_n47 x1 x2 k39 n S0_27 x3 v28)) else (lt' (x4 + 1) fun v23 => f_X12_inCommon_n47 x1 x2 k39 n S0_19 x3 v23))))))
def f_X12_inCommon_n39 (x1 : Int32) (x2 : Int32) : Nat → Gr → Int32 → Option (Int32 × Gr)
  | 0, _, _ => none
  | n + 1, S0, x3 => if x1 < x3 then (rd' (S0.2 46) 961 ((31 * x1) + x2) fun v8 => some (v8, S0)) else (f_X12_inCommon_n47 x1 x2 (f_X12_inCommon_n39 x1 x2 n) fu S0 x3 0)
def f_X12_inCommon (S0 : Gr) (x1 : Int32) (x2 : Int32) : Option (Int32 × Gr) := (f_X12_in x1 1 30).bind fun u1 => if u1 = 0 then (some ((-1), S0)) else ((f_X12_in x2 1 30).bind fun u3 => if u3 = 0 then (some ((-1), S0)) else (if (x1 + x2) ≤ (S0.1 8) then (lt' (sI S0 8 0) fun S0_6 => f_X12_inCommon_n39 x1 x2 fu S0_6 0) else (some ((-1), S0))))
set_option maxHeartbeats 4000000 in
set_option maxRecDepth 100000 in
theorem c_X12_inCommon (l : Launch) (E : Ec) (q0 : Nat → Nat) (sz : Nat) (S0 : Gr) (x1 : Int32) (x2 : Int32) (Rv : Int32 × Gr) (h : f_X12_inCommon S0 x1 x2 = some Rv) : Met l yX12_inCommon (wsM (.code yX12_inCommon cX12_inCommon 6 (some .int))) ({ frames := 1, cells := 0, slots := 0, locals := 22 } : Room) (va_Pc [.ref (q0 0), .int x1, .int x2] (ctP E (cw_X12 E q0 S0) sz)) (ctI E (cw_X12 E q0 S0) (cw_X12 E q0 Rv.2) sz Rv.1) 0 0 (va_A (cw_X12 E q0 S0) sz) := by
  refine ct_metI (by decide) (Nat.le_of_ble_eq_true rfl) ?_
  intro p e s m ar below meth c A QM hx hb hml hown hg X hP hD hS RET ls hl
  have hown : s.vm.findClass RX12 = some m.cls := hown
  have hl : lv_has ls 6 [(0, .ref (q0 0)), (1, .int x1), (2, .int x2)] := hl
  have RT : ∀ (v : Int32) (S0 : Gr) (H : Heap) (locs : List Loc) (ls : Array Slot) (pc : Nat), some (v, S0) = some Rv → narrow .int (.int v) = .int v → va_P E.1 vwCl (cw_X12 E q0 S0) H → va_D A (cw_X12 E q0 S0) → va_S A s.heap H locs → decode cX12_inCommon pc = .ok (.ireturn, 1) → W p l e ({ frames := 1, cells := 0, slots := 0, locals := 22 } : Room) s m ar below meth c H locs 0 0 QM (F0 m pc ls [.int v]) := by
    intro v S0 H locs ls pc e hn hP hD hS d
    obtain rfl := sm_e e
    exact RET H locs pc ls hn hP hD hS d
  clear RET
  have N47 : ∀ (k39 : Gr → Int32 → Option (Int32 × Gr)) (hk39 : ∀ (S0 : Gr) (x3 : Int32) (H : Heap) (locs : List Loc) (ls : Array Slot), k39 S0 x3 = some Rv → va_P E.1 vwCl (cw_X12 E q0 S0) H → va_D A (cw_X12 E q0 S0) → va_S A s.heap H locs → lv_has ls 6 [(0, .ref (q0 0)), (1, .int x1), (2, .int x2), (3, .int x3)] → W p l e ({ frames := 1, cells := 0, slots := 0, locals := 22 } : Room) s m ar below meth c H locs 0 0 QM (F0 m 39 ls [])) (n : Nat) (S0 : Gr) (x3 : Int32) (x4 : Int32) (H : Heap) (locs : List Loc) (ls : Array Slot), f_X12_inCommon_n47 x1 x2 k39 n S0 x3 x4 = some Rv → va_P E.1 vwCl (cw_X12 E q0 S0) H → va_D A (cw_X12 E q0 S0) → va_S A s.heap H locs → lv_has ls 6 [(0, .ref (q0 0)), (1, .int x1), (2, .int x2), (3, .int x3), (4, .int x4)] → W p l e ({ frames := 1, cells := 0, slots := 0, locals := 22 } : Room) s m ar below meth c H locs 0 0 QM (F0 m 47 ls []) := by
    intro k39 hk39 n
    induction n with
    | zero => intro S0 x3 x4 H locs ls h; exact nn_el h
    | succ n ih =>
      intro S0 x3 x4 H locs ls h hP hD hS hl
      refine lv_iload hx hb dX12_inCommon_47 (lv_at hl 4 rfl) ?_
      refine lv_iload_n hx hb dX12_inCommon_49 rfl (lv_at hl 2 rfl) ?_
      refine lv_icmp_gt (tgt := 166) hx hb dX12_inCommon_50 (by decide) (fun c9 => ?_) (fun c9 => ?_)
      · have h := it_t h c9
        obtain ⟨v10, ev10, h⟩ := lt_el h
        refine lv_iinc (v := v10) (lv' := [(3, .int v10), (0, .ref (q0 0)), (1, .int x1), (2, .int x2), (4, .int x4)]) hx hb dX12_inCommon_166 hl (k := 3) rfl (by rw [ev10]; rfl) (by decide) rfl (fun ls hl => ?_)
        refine lv_goto (tgt := 39) hx hb dX12_inCommon_169 (by decide) ?_
        exact hk39 S0 v10 _ _ _ h hP hD hS (lv_sub hl [1, 2, 3, 0] rfl)
      · have h := it_f h c9
        refine lv_bipush (v := 31) hx hb dX12_inCommon_53 (by decide) ?_
        refine lv_iload_n hx hb dX12_inCommon_55 rfl (lv_at hl 3 rfl) ?_
        refine lv_imul hx hb dX12_inCommon_56 ?_
        refine lv_iload hx hb dX12_inCommon_57 (lv_at hl 4 rfl) ?_
        refine lv_iadd hx hb dX12_inCommon_59 ?_
        obtain ⟨v11, ev11, h⟩ := lt_el h
        refine lv_top' ev11 ?_
        refine lv_istore (lv' := [(5, .int v11), (0, .ref (q0 0)), (1, .int x1), (2, .int x2), (3, .int x3), (4, .int x4)]) hx hb dX12_inCommon_60 hl (by decide) rfl (fun ls hl => ?_)
        refine lv_aload_n hx hb dX12_inCommon_62 rfl (lv_at hl 1 rfl) ?_
        refine va_get (D := E.1) (ci := 11) (v := .ref (q0 27)) (C := RX12) (T := TX12) (N := 57) hx hb hg in_X12 hown X.1 hP 0 rfl rfl 46 (by decide) (hg _ wf_X12_89) (fun _ h9 => h9) rfl dX12_inCommon_63 ?_
        refine lv_iload hx hb dX12_inCommon_66 (lv_at hl 0 rfl) ?_
        refine lv_iconst (v := 0) hx hb dX12_inCommon_68 (by decide) ?_
        obtain ⟨hi, h⟩ := ck_el h
        obtain ⟨S0_12, eS, h⟩ := lt_el h
        refine va_iast hx hb X.1 hP hD hS 27 0 rfl rfl hi dX12_inCommon_69 (fun H locs hP hD hS => ?_)
        have hP : va_P E.1 vwCl (cw_X12 E q0 S0_12) H := by rw [eS]; exact hP
        have hD : va_D A (cw_X12 E q0 S0_12) := by rw [eS]; exact hD
        clear eS
        refine lv_iload_n hx hb dX12_inCommon_70 rfl (lv_at hl 4 rfl) ?_
        refine lv_if_eq (tgt := 160) hx hb dX12_inCommon_71 (by decide) (fun c13 => ?_) (fun c13 => ?_)
        · have h := it_t h c13
          obtain ⟨v14, ev14, h⟩ := lt_el h
          refine lv_iinc (v := v14) (lv' := [(4, .int v14), (5, .int v11), (0, .ref (q0 0)), (1, .int x1), (2, .int x2), (3, .int x3)]) hx hb dX12_inCommon_160 hl (k := 5) rfl (by rw [ev14]; rfl) (by decide) rfl (fun ls hl => ?_)
          refine lv_goto (tgt := 47) hx hb dX12_inCommon_163 (by decide) ?_
          exact ih S0_12 x3 v14 _ _ _ h hP hD hS (lv_sub hl [2, 3, 4, 5, 0] rfl)
        · have h := it_f h c13
          refine lv_iload hx hb dX12_inCommon_74 (lv_at hl 5 rfl) ?_
          refine lv_if_ne (tgt := 82) hx hb dX12_inCommon_76 (by decide) (fun c15 => ?_) (fun c15 => ?_)
          · have h := it_f h c15
            refine lv_aload_n hx hb dX12_inCommon_82 rfl (lv_at hl 1 rfl) ?_
            refine va_get (D := E.1) (ci := 11) (v := .ref (q0 27)) (C := RX12) (T := TX12) (N := 57) hx hb hg in_X12 hown X.1 hP 0 rfl rfl 46 (by decide) (hg _ wf_X12_89) (fun _ h9 => h9) rfl dX12_inCommon_83 ?_
            refine lv_iload hx hb dX12_inCommon_86 (lv_at hl 0 rfl) ?_
            refine lv_aload_n hx hb dX12_inCommon_88 rfl (lv_at hl 1 rfl) ?_
            refine va_get (D := E.1) (ci := 11) (v := .ref (q0 27)) (C := RX12) (T := TX12) (N := 57) hx hb hg in_X12 hown X.1 hP 0 rfl rfl 46 (by decide) (hg _ wf_X12_89) (fun _ h9 => h9) rfl dX12_inCommon_89 ?_
            refine lv_iload hx hb dX12_inCommon_92 (lv_at hl 0 rfl) ?_
            refine lv_bipush (v := 31) hx hb dX12_inCommon_94 (by decide) ?_
            refine lv_isub hx hb dX12_inCommon_96 ?_
            obtain ⟨hi, v16, ev16, h⟩ := rd_el h
            refine va_iald hx hb X.1 hP 27 0 rfl rfl hi dX12_inCommon_97 ?_
            refine lv_top' ev16 ?_
            refine lv_aload_n hx hb dX12_inCommon_98 rfl (lv_at hl 1 rfl) ?_
            refine va_get (D := E.1) (ci := 11) (v := .ref (q0 27)) (C := RX12) (T := TX12) (N := 57) hx hb hg in_X12 hown X.1 hP 0 rfl rfl 46 (by decide) (hg _ wf_X12_89) (fun _ h9 => h9) rfl dX12_inCommon_99 ?_
            refine lv_iload hx hb dX12_inCommon_102 (lv_at hl 0 rfl) ?_
            refine lv_iconst (v := 1) hx hb dX12_inCommon_104 (by decide) ?_
            refine lv_isub hx hb dX12_inCommon_105 ?_
            obtain ⟨hi, v17, ev17, h⟩ := rd_el h
            refine va_iald hx hb X.1 hP 27 0 rfl rfl hi dX12_inCommon_106 ?_
            refine lv_top' ev17 ?_
            obtain ⟨u18, hc, h⟩ := bd_el h
            refine ct_iN X hP hD hS (va_runS (As := [.int v16, .int v17]) (rest := [.int v11, .ref (q0 27)]) ⟨hx, hb, hml, hown, hg⟩ (c_X12_max l E  H.size v16 v17 u18 hc) (va_cwS 2 hg (gwS wm_X12_129 wst_X12_max wini_X12 wco_X12_max) rfl rfl rfl (by decide +kernel) ⟨Nat.le_of_ble_eq_true rfl, Nat.le_of_ble_eq_true rfl⟩) ⟨ct_blind, ct_preN X hS _⟩ rfl rfl hl.1 rfl (lv_room (Nat.le_of_ble_eq_true rfl)) dX12_inCommon_107 ⟨Nat.zero_le _, Nat.zero_le _⟩) (fun H locs hP hD hS => ?_)
            obtain ⟨hi, h⟩ := ck_el h
            obtain ⟨S0_19, eS, h⟩ := lt_el h
            refine va_iast hx hb X.1 hP hD hS 27 0 rfl rfl hi dX12_inCommon_110 (fun H locs hP hD hS => ?_)
            have hP : va_P E.1 vwCl (cw_X12 E q0 S0_19) H := by rw [eS]; exact hP
            have hD : va_D A (cw_X12 E q0 S0_19) := by rw [eS]; exact hD
            clear eS
            refine lv_aload_n hx hb dX12_inCommon_111 rfl (lv_at hl 1 rfl) ?_
            refine lv_iload_n hx hb dX12_inCommon_112 rfl (lv_at hl 4 rfl) ?_
            refine lv_iconst (v := 1) hx hb dX12_inCommon_113 (by decide) ?_
            refine lv_isub hx hb dX12_inCommon_114 ?_
            obtain ⟨u20, hc, h⟩ := bd_el h
            refine ct_iA (w1 := cw_X12 E q0 S0_19) X hP hD hS (va_runV (C := RX12) (As := [.int (x3 - 1)]) (rest := []) ⟨hx, hb, hml, hown, hg⟩ (c_X12_octet l E q0 H.size S0_19 (x3 - 1) u20 hc) (cwV 1 hg (gwV wm_X12_351 wi_X12_octet wsl_X12_octet wini_X12 wco_X12_octet) rfl rfl rfl (by decide +kernel) ⟨Nat.le_of_ble_eq_true rfl, Nat.le_of_ble_eq_true rfl⟩) ⟨ct_blind, ct_rv X.1 hP 0 rfl rfl, ct_preA X hP hD hS _⟩ rfl rfl hl.1 rfl (lv_room (Nat.le_of_ble_eq_true rfl)) dX12_inCommon_115 ⟨Nat.zero_le _, Nat.zero_le _⟩) (fun H locs hP hD hS => ?_)
            refine lv_aload_n hx hb dX12_inCommon_118 rfl (lv_at hl 1 rfl) ?_
            refine lv_iload_n hx hb dX12_inCommon_119 rfl (lv_at hl 2 rfl) ?_
            refine lv_iload hx hb dX12_inCommon_120 (lv_at hl 5 rfl) ?_
            refine lv_iadd hx hb dX12_inCommon_122 ?_
            refine lv_iconst (v := 1) hx hb dX12_inCommon_123 (by decide) ?_
            refine lv_isub hx hb dX12_inCommon_124 ?_
            obtain ⟨u21, hc, h⟩ := bd_el h
            refine ct_iA (w1 := cw_X12 E q0 S0_19) X hP hD hS (va_runV (C := RX12) (As := [.int ((x1 + x4) - 1)]) (rest := [.int u20]) ⟨hx, hb, hml, hown, hg⟩ (c_X12_octet l E q0 H.size S0_19 ((x1 + x4) - 1) u21 hc) (cwV 1 hg (gwV wm_X12_351 wi_X12_octet wsl_X12_octet wini_X12 wco_X12_octet) rfl rfl rfl (by decide +kernel) ⟨Nat.le_of_ble_eq_true rfl, Nat.le_of_ble_eq_true rfl⟩) ⟨ct_blind, ct_rv X.1 hP 0 rfl rfl, ct_preA X hP hD hS _⟩ rfl rfl hl.1 rfl (lv_room (Nat.le_of_ble_eq_true rfl)) dX12_inCommon_125 ⟨Nat.zero_le _, Nat.zero_le _⟩) (fun H locs hP hD hS => ?_)
            refine lv_icmp_ne (tgt := 160) hx hb dX12_inCommon_128 (by decide) (fun c22 => ?_) (fun c22 => ?_)
            · have h := it_f h c22
              obtain ⟨v23, ev23, h⟩ := lt_el h
              refine lv_iinc (v := v23) (lv' := [(4, .int v23), (5, .int v11), (0, .ref (q0 0)), (1, .int x1), (2, .int x2), (3, .int x3)]) hx hb dX12_inCommon_160 hl (k := 5) rfl (by rw [ev23]; rfl) (by decide) rfl (fun ls hl => ?_)
              refine lv_goto (tgt := 47) hx hb dX12_inCommon_163 (by decide) ?_
              exact ih S0_19 x3 v23 _ _ _ h hP hD hS (lv_sub hl [2, 3, 4, 5, 0] rfl)
            · have h := it_t h c22
              refine lv_aload_n hx hb dX12_inCommon_131 rfl (lv_at hl 1 rfl) ?_
              refine va_get (D := E.1) (ci := 11) (v := .ref (q0 27)) (C := RX12) (T := TX12) (N := 57) hx hb hg in_X12 hown X.1 hP 0 rfl rfl 46 (by decide) (hg _ wf_X12_89) (fun _ h9 => h9) rfl dX12_inCommon_132 ?_
              refine lv_iload hx hb dX12_inCommon_135 (lv_at hl 0 rfl) ?_
              refine lv_aload_n hx hb dX12_inCommon_137 rfl (lv_at hl 1 rfl) ?_
              refine va_get (D := E.1) (ci := 11) (v := .ref (q0 27)) (C := RX12) (T := TX12) (N := 57) hx hb hg in_X12 hown X.1 hP 0 rfl rfl 46 (by decide) (hg _ wf_X12_89) (fun _ h9 => h9) rfl dX12_inCommon_138 ?_
              refine lv_iload hx hb dX12_inCommon_141 (lv_at hl 0 rfl) ?_
              obtain ⟨hi, v24, ev24, h⟩ := rd_el h
              refine va_iald hx hb X.1 hP 27 0 rfl rfl hi dX12_inCommon_143 ?_
              refine lv_top' ev24 ?_
              refine lv_aload_n hx hb dX12_inCommon_144 rfl (lv_at hl 1 rfl) ?_
              refine va_get (D := E.1) (ci := 11) (v := .ref (q0 27)) (C := RX12) (T := TX12) (N := 57) hx hb hg in_X12 hown X.1 hP 0 rfl rfl 46 (by decide) (hg _ wf_X12_89) (fun _ h9 => h9) rfl dX12_inCommon_145 ?_
              refine lv_iload hx hb dX12_inCommon_148 (lv_at hl 0 rfl) ?_
              refine lv_bipush (v := 32) hx hb dX12_inCommon_150 (by decide) ?_
              refine lv_isub hx hb dX12_inCommon_152 ?_
              obtain ⟨hi, v25, ev25, h⟩ := rd_el h
              refine va_iald hx hb X.1 hP 27 0 rfl rfl hi dX12_inCommon_153 ?_
              refine lv_top' ev25 ?_
              refine lv_iconst (v := 1) hx hb dX12_inCommon_154 (by decide) ?_
              refine lv_iadd hx hb dX12_inCommon_155 ?_
              obtain ⟨u26, hc, h⟩ := bd_el h
              refine ct_iN X hP hD hS (va_runS (As := [.int v24, .int (v25 + 1)]) (rest := [.int v11, .ref (q0 27)]) ⟨hx, hb, hml, hown, hg⟩ (c_X12_max l E  H.size v24 (v25 + 1) u26 hc) (va_cwS 2 hg (gwS wm_X12_129 wst_X12_max wini_X12 wco_X12_max) rfl rfl rfl (by decide +kernel) ⟨Nat.le_of_ble_eq_true rfl, Nat.le_of_ble_eq_true rfl⟩) ⟨ct_blind, ct_preN X hS _⟩ rfl rfl hl.1 rfl (lv_room (Nat.le_of_ble_eq_true rfl)) dX12_inCommon_156 ⟨Nat.zero_le _, Nat.zero_le _⟩) (fun H locs hP hD hS => ?_)
              obtain ⟨hi, h⟩ := ck_el h
              obtain ⟨S0_27, eS, h⟩ := lt_el h
              refine va_iast hx hb X.1 hP hD hS 27 0 rfl rfl hi dX12_inCommon_159 (fun H locs hP hD hS => ?_)
              have hP : va_P E.1 vwCl (cw_X12 E q0 S0_27) H := by rw [eS]; exact hP
              have hD : va_D A (cw_X12 E q0 S0_27) := by rw [eS]; exact hD
              clear eS
              obtain ⟨v28, ev28, h⟩ := lt_el h
              refine lv_iinc (v := v28) (lv' := [(4, .int v28), (5, .int v11), (0, .ref (q0 0)), (1, .int x1), (2, .int x2), (3, .int x3)]) hx hb dX12_inCommon_160 hl (k := 5) rfl (by rw [ev28]; rfl) (by decide) rfl (fun ls hl => ?_)
              refine lv_goto (tgt := 47) hx hb dX12_inCommon_163 (by decide) ?_
              exact ih S0_27 x3 v28 _ _ _ h hP hD hS (lv_sub hl [2, 3, 4, 5, 0] rfl)
          · have h := it_t h c15
            refine lv_goto (tgt := 160) hx hb dX12_inCommon_79 (by decide) ?_
            obtain ⟨v29, ev29, h⟩ := lt_el h
            refine lv_iinc (v := v29) (lv' := [(4, .int v29), (5, .int v11), (0, .ref (q0 0)), (1, .int x1), (2, .int x2), (3, .int x3)]) hx hb dX12_inCommon_160 hl (k := 5) rfl (by rw [ev29]; rfl) (by decide) rfl (fun ls hl => ?_)
            refine lv_goto (tgt := 47) hx hb dX12_inCommon_163 (by decide) ?_
            exact ih S0_12 x3 v29 _ _ _ h hP hD hS (lv_sub hl [2, 3, 4, 5, 0] rfl)
  have N39 : ∀ (n : Nat) (S0 : Gr) (x3 : Int32) (H : Heap) (locs : List Loc) (ls : Array Slot), f_X12_inCommon_n39 x1 x2 n S0 x3 = some Rv → va_P E.1 vwCl (cw_X12 E q0 S0) H → va_D A (cw_X12 E q0 S0) → va_S A s.heap H locs → lv_has ls 6 [(0, .ref (q0 0)), (1, .int x1), (2, .int x2), (3, .int x3)] → W p l e ({ frames := 1, cells := 0, slots := 0, locals := 22 } : Room) s m ar below meth c H locs 0 0 QM (F0 m 39 ls []) := by
    intro n
    induction n with
    | zero => intro S0 x3 H locs ls h; exact nn_el h
    | succ n ih =>
      intro S0 x3 H locs ls h hP hD hS hl
      refine lv_iload_n hx hb dX12_inCommon_39 rfl (lv_at hl 3 rfl) ?_
      refine lv_iload_n hx hb dX12_inCommon_40 rfl (lv_at hl 1 rfl) ?_
      refine lv_icmp_gt (tgt := 172) hx hb dX12_inCommon_41 (by decide) (fun c7 => ?_) (fun c7 => ?_)
      · have h := it_t h c7
        refine lv_aload_n hx hb dX12_inCommon_172 rfl (lv_at hl 0 rfl) ?_
        refine va_get (D := E.1) (ci := 11) (v := .ref (q0 27)) (C := RX12) (T := TX12) (N := 57) hx hb hg in_X12 hown X.1 hP 0 rfl rfl 46 (by decide) (hg _ wf_X12_89) (fun _ h9 => h9) rfl dX12_inCommon_173 ?_
        refine lv_bipush (v := 31) hx hb dX12_inCommon_176 (by decide) ?_
        refine lv_iload_n hx hb dX12_inCommon_178 rfl (lv_at hl 1 rfl) ?_
        refine lv_imul hx hb dX12_inCommon_179 ?_
        refine lv_iload_n hx hb dX12_inCommon_180 rfl (lv_at hl 2 rfl) ?_
        refine lv_iadd hx hb dX12_inCommon_181 ?_
        obtain ⟨hi, v8, ev8, h⟩ := rd_el h
        refine va_iald hx hb X.1 hP 27 0 rfl rfl hi dX12_inCommon_182 ?_
        refine lv_top' ev8 ?_
        exact RT v8 S0 _ _ _ _ h rfl hP hD hS dX12_inCommon_183
      · have h := it_f h c7
        refine lv_iconst (v := 0) hx hb dX12_inCommon_44 (by decide) ?_
        refine lv_istore (lv' := [(4, .int 0), (0, .ref (q0 0)), (1, .int x1), (2, .int x2), (3, .int x3)]) hx hb dX12_inCommon_45 hl (by decide) rfl (fun ls hl => ?_)
        exact N47 (f_X12_inCommon_n39 x1 x2 n) ih fu S0 x3 0 _ _ _ h hP hD hS (lv_sub hl [1, 2, 3, 4, 0] rfl)
  obtain ⟨H, eH⟩ : ∃ z, z = s.heap := ⟨_, rfl⟩
  rw [← eH]
  have hP : va_P E.1 vwCl (cw_X12 E q0 S0) H := by rw [eH]; exact hP
  have hS : va_S A s.heap H [] := by rw [eH]; exact hS
  clear eH
  obtain ⟨locs, el⟩ : ∃ z : List Loc, z = [] := ⟨_, rfl⟩
  rw [← el] at hS ⊢
  clear el
  refine lv_iload_n hx hb dX12_inCommon_0 rfl (lv_at hl 1 rfl) ?_
  refine lv_iconst (v := 1) hx hb dX12_inCommon_1 (by decide) ?_
  refine lv_bipush (v := 30) hx hb dX12_inCommon_2 (by decide) ?_
  obtain ⟨u1, hc, h⟩ := bd_el h
  refine ct_iN X hP hD hS (va_runS (As := [.int x1, .int 1, .int 30]) (rest := []) ⟨hx, hb, hml, hown, hg⟩ (c_X12_in l E  H.size x1 1 30 u1 hc) (va_cwS 3 hg (gwS wm_X12_110 wst_X12_in wini_X12 wco_X12_in) rfl rfl rfl (by decide +kernel) ⟨Nat.le_of_ble_eq_true rfl, Nat.le_of_ble_eq_true rfl⟩) ⟨ct_blind, ct_preN X hS _⟩ rfl rfl hl.1 rfl (lv_room (Nat.le_of_ble_eq_true rfl)) dX12_inCommon_4 ⟨Nat.zero_le _, Nat.zero_le _⟩) (fun H locs hP hD hS => ?_)
  refine lv_if_eq (tgt := 30) hx hb dX12_inCommon_7 (by decide) (fun c2 => ?_) (fun c2 => ?_)
  · have h := it_t h c2
    refine lv_iconst (v := (-1)) hx hb dX12_inCommon_30 (by decide) ?_
    exact RT (-1) S0 _ _ _ _ h rfl hP hD hS dX12_inCommon_31
  · have h := it_f h c2
    refine lv_iload_n hx hb dX12_inCommon_10 rfl (lv_at hl 2 rfl) ?_
    refine lv_iconst (v := 1) hx hb dX12_inCommon_11 (by decide) ?_
    refine lv_bipush (v := 30) hx hb dX12_inCommon_12 (by decide) ?_
    obtain ⟨u3, hc, h⟩ := bd_el h
    refine ct_iN X hP hD hS (va_runS (As := [.int x2, .int 1, .int 30]) (rest := []) ⟨hx, hb, hml, hown, hg⟩ (c_X12_in l E  H.size x2 1 30 u3 hc) (va_cwS 3 hg (gwS wm_X12_110 wst_X12_in wini_X12 wco_X12_in) rfl rfl rfl (by decide +kernel) ⟨Nat.le_of_ble_eq_true rfl, Nat.le_of_ble_eq_true rfl⟩) ⟨ct_blind, ct_preN X hS _⟩ rfl rfl hl.1 rfl (lv_room (Nat.le_of_ble_eq_true rfl)) dX12_inCommon_14 ⟨Nat.zero_le _, Nat.zero_le _⟩) (fun H locs hP hD hS => ?_)
    refine lv_if_eq (tgt := 30) hx hb dX12_inCommon_17 (by decide) (fun c4 => ?_) (fun c4 => ?_)
    · have h := it_t h c4
      refine lv_iconst (v := (-1)) hx hb dX12_inCommon_30 (by decide) ?_
      exact RT (-1) S0 _ _ _ _ h rfl hP hD hS dX12_inCommon_31
    · have h := it_f h c4
      refine lv_iload_n hx hb dX12_inCommon_20 rfl (lv_at hl 1 rfl) ?_
      refine lv_iload_n hx hb dX12_inCommon_21 rfl (lv_at hl 2 rfl) ?_
      refine lv_iadd hx hb dX12_inCommon_22 ?_
      refine lv_aload_n hx hb dX12_inCommon_23 rfl (lv_at hl 0 rfl) ?_
      refine va_get (D := E.1) (ci := 11) (v := .int (S0.1 8)) (C := RX12) (T := TX12) (N := 57) hx hb hg in_X12 hown X.1 hP 0 rfl rfl 8 (by decide) (hg _ wf_X12_143) (fun _ h9 => h9) rfl dX12_inCommon_24 ?_
      refine lv_icmp_le (tgt := 32) hx hb dX12_inCommon_27 (by decide) (fun c5 => ?_) (fun c5 => ?_)
      · have h := it_t h c5
        refine lv_aload_n hx hb dX12_inCommon_32 rfl (lv_at hl 0 rfl) ?_
        refine lv_iconst (v := 0) hx hb dX12_inCommon_33 (by decide) ?_
        obtain ⟨S0_6, eS, h⟩ := lt_el h
        refine va_put (D := E.1) (ci := 11) (v := .int 0) (ty := .int) (C := RX12) (T := TX12) (N := 57) hx hb hg in_X12 tyX12 tyX12_ok nmX12 hown X.1 hP hD hS 0 rfl rfl 8 (by decide) (hg _ wf_X12_143) (fun _ h9 => h9) rfl (by decide +kernel) rfl rfl (Nat.le_of_ble_eq_true rfl) dX12_inCommon_34 (fun H locs hP hD hS => ?_)
        have hP : va_P E.1 vwCl (cw_X12 E q0 S0_6) H := by rw [eS]; exact hP
        have hD : va_D A (cw_X12 E q0 S0_6) := by rw [eS]; exact hD
        clear eS
        refine lv_iconst (v := 0) hx hb dX12_inCommon_37 (by decide) ?_
        refine lv_istore_n (lv' := [(3, .int 0), (0, .ref (q0 0)), (1, .int x1), (2, .int x2)]) hx hb dX12_inCommon_38 rfl hl (by decide) rfl (fun ls hl => ?_)
        exact N39 fu S0_6 0 _ _ _ h hP hD hS (lv_sub hl [1, 2, 3, 0] rfl)
      · have h := it_f h c5
        refine lv_iconst (v := (-1)) hx hb dX12_inCommon_30 (by decide) ?_
        exact RT (-1) S0 _ _ _ _ h rfl hP hD hS dX12_inCommon_31
theorem dX12_notes_0 : decode cX12_notes 0 = .ok (.aload_n 0, 1) := by decide +kernel
theorem dX12_notes_1 : decode cX12_notes 1 = .ok (.getfield 29, 3) := by decide +kernel
theorem dX12_notes_4 : decode cX12_notes 4 = .ok (.aload_n 0, 1) := by decide +kernel
theorem dX12_notes_5 : decode cX12_notes 5 = .ok (.getfield 173, 3) := by decide +kernel
theorem dX12_notes_8 : decode cX12_notes 8 = .ok (.ldc 176, 2) := by decide +kernel
theorem dX12_notes_10 : decode cX12_notes 10 = .ok (.iload_n 1, 1) := by decide +kernel
theorem dX12_notes_11 : decode cX12_notes 11 = .ok (.imul, 1) := by decide +kernel
theorem dX12_notes_12 : decode cX12_notes 12 = .ok (.iload_n 2, 1) := by decide +kernel
theorem dX12_notes_13 : decode cX12_notes 13 = .ok (.iadd, 1) := by decide +kernel
theorem dX12_notes_14 : decode cX12_notes 14 = .ok (.iastore, 1) := by decide +kernel
theorem dX12_notes_15 : decode cX12_notes 15 = .ok (.aload_n 0, 1) := by decide +kernel
theorem dX12_notes_16 : decode cX12_notes 16 = .ok (.aload_n 0, 1) := by decide +kernel
theorem dX12_notes_17 : decode cX12_notes 17 = .ok (.getfield 173, 3) := by decide +kernel
theorem dX12_notes_20 : decode cX12_notes 20 = .ok (.iconst 1, 1) := by decide +kernel
theorem dX12_notes_21 : decode cX12_notes 21 = .ok (.iadd, 1) := by decide +kernel
theorem dX12_notes_22 : decode cX12_notes 22 = .ok (.putfield 173, 3) := by decide +kernel
theorem dX12_notes_25 : decode cX12_notes 25 = .ok (.return_, 1) := by decide +kernel
def f_X12_notes (S0 : Gr) (x1 : Int32) (x2 : Int32) : Option (Gr) := ck' 260 (S0.1 14) (lt' (sA S0 18 (Int32.toNatClampNeg (S0.1 14)) ((1048576 * x1) + x2)) fun S0_1 => lt' (sI S0_1 14 ((S0_1.1 14) + 1)) fun S0_2 => some S0_2)
set_option maxHeartbeats 4000000 in
set_option maxRecDepth 100000 in
theorem c_X12_notes (l : Launch) (E : Ec) (q0 : Nat → Nat) (sz : Nat) (S0 : Gr) (x1 : Int32) (x2 : Int32) (Rv : Gr) (h : f_X12_notes S0 x1 x2 = some Rv) : Met l yX12_notes (wsM (.code yX12_notes cX12_notes 3 none)) ({ frames := 0, cells := 0, slots := 0, locals := 0 } : Room) (va_Pc [.ref (q0 0), .int x1, .int x2] (ctP E (cw_X12 E q0 S0) sz)) (ctV E (cw_X12 E q0 S0) (cw_X12 E q0 Rv) sz) 0 0 (va_A (cw_X12 E q0 S0) sz) := by
  refine ct_metV (by decide) (Nat.le_of_ble_eq_true rfl) ?_
  intro p e s m ar below meth c A QM hx hb hml hown hg X hP hD hS RET ls hl
  have hown : s.vm.findClass RX12 = some m.cls := hown
  have hl : lv_has ls 3 [(0, .ref (q0 0)), (1, .int x1), (2, .int x2)] := hl
  have RT : ∀ (S0 : Gr) (H : Heap) (locs : List Loc) (ls : Array Slot) (pc : Nat), some S0 = some Rv → va_P E.1 vwCl (cw_X12 E q0 S0) H → va_D A (cw_X12 E q0 S0) → va_S A s.heap H locs → decode cX12_notes pc = .ok (.return_, 1) → W p l e ({ frames := 0, cells := 0, slots := 0, locals := 0 } : Room) s m ar below meth c H locs 0 0 QM (F0 m pc ls []) := by
    intro S0 H locs ls pc e hP hD hS d
    obtain rfl := sm_e e
    exact RET H locs pc ls hP hD hS d
  clear RET
  obtain ⟨H, eH⟩ : ∃ z, z = s.heap := ⟨_, rfl⟩
  rw [← eH]
  have hP : va_P E.1 vwCl (cw_X12 E q0 S0) H := by rw [eH]; exact hP
  have hS : va_S A s.heap H [] := by rw [eH]; exact hS
  clear eH
  obtain ⟨locs, el⟩ : ∃ z : List Loc, z = [] := ⟨_, rfl⟩
  rw [← el] at hS ⊢
  clear el
  refine lv_aload_n hx hb dX12_notes_0 rfl (lv_at hl 0 rfl) ?_
  refine va_get (D := E.1) (ci := 11) (v := .ref (q0 7)) (C := RX12) (T := TX12) (N := 57) hx hb hg in_X12 hown X.1 hP 0 rfl rfl 18 (by decide) (hg _ wf_X12_29) (fun _ h9 => h9) rfl dX12_notes_1 ?_
  refine lv_aload_n hx hb dX12_notes_4 rfl (lv_at hl 0 rfl) ?_
  refine va_get (D := E.1) (ci := 11) (v := .int (S0.1 14)) (C := RX12) (T := TX12) (N := 57) hx hb hg in_X12 hown X.1 hP 0 rfl rfl 14 (by decide) (hg _ wf_X12_173) (fun _ h9 => h9) rfl dX12_notes_5 ?_
  refine lv_ldc hx hb hown (hg _ wcn_X12_176) dX12_notes_8 ?_
  refine lv_iload_n hx hb dX12_notes_10 rfl (lv_at hl 1 rfl) ?_
  refine lv_imul hx hb dX12_notes_11 ?_
  refine lv_iload_n hx hb dX12_notes_12 rfl (lv_at hl 2 rfl) ?_
  refine lv_iadd hx hb dX12_notes_13 ?_
  obtain ⟨hi, h⟩ := ck_el h
  obtain ⟨S0_1, eS, h⟩ := lt_el h
  refine va_iast hx hb X.1 hP hD hS 7 0 rfl rfl hi dX12_notes_14 (fun H locs hP hD hS => ?_)
  have hP : va_P E.1 vwCl (cw_X12 E q0 S0_1) H := by rw [eS]; exact hP
  have hD : va_D A (cw_X12 E q0 S0_1) := by rw [eS]; exact hD
  clear eS
  refine lv_aload_n hx hb dX12_notes_15 rfl (lv_at hl 0 rfl) ?_
  refine lv_aload_n hx hb dX12_notes_16 rfl (lv_at hl 0 rfl) ?_
  refine va_get (D := E.1) (ci := 11) (v := .int (S0_1.1 14)) (C := RX12) (T := TX12) (N := 57) hx hb hg in_X12 hown X.1 hP 0 rfl rfl 14 (by decide) (hg _ wf_X12_173) (fun _ h9 => h9) rfl dX12_notes_17 ?_
  refine lv_iconst (v := 1) hx hb dX12_notes_20 (by decide) ?_
  refine lv_iadd hx hb dX12_notes_21 ?_
  obtain ⟨S0_2, eS, h⟩ := lt_el h
  refine va_put (D := E.1) (ci := 11) (v := .int ((S0_1.1 14) + 1)) (ty := .int) (C := RX12) (T := TX12) (N := 57) hx hb hg in_X12 tyX12 tyX12_ok nmX12 hown X.1 hP hD hS 0 rfl rfl 14 (by decide) (hg _ wf_X12_173) (fun _ h9 => h9) rfl (by decide +kernel) rfl rfl (Nat.le_of_ble_eq_true rfl) dX12_notes_22 (fun H locs hP hD hS => ?_)
  have hP : va_P E.1 vwCl (cw_X12 E q0 S0_2) H := by rw [eS]; exact hP
  have hD : va_D A (cw_X12 E q0 S0_2) := by rw [eS]; exact hD
  clear eS
  exact RT S0_2 _ _ _ _ h hP hD hS dX12_notes_25
theorem dX12_waitTop_0 : decode cX12_waitTop 0 = .ok (.aload_n 0, 1) := by decide +kernel
theorem dX12_waitTop_1 : decode cX12_waitTop 1 = .ok (.getfield 180, 3) := by decide +kernel
theorem dX12_waitTop_4 : decode cX12_waitTop 4 = .ok (.ifCond .ne 7, 3) := by decide +kernel
theorem dX12_waitTop_7 : decode cX12_waitTop 7 = .ok (.iconst (-1), 1) := by decide +kernel
theorem dX12_waitTop_8 : decode cX12_waitTop 8 = .ok (.goto 17, 3) := by decide +kernel
theorem dX12_waitTop_11 : decode cX12_waitTop 11 = .ok (.aload_n 0, 1) := by decide +kernel
theorem dX12_waitTop_12 : decode cX12_waitTop 12 = .ok (.getfield 32, 3) := by decide +kernel
theorem dX12_waitTop_15 : decode cX12_waitTop 15 = .ok (.aload_n 0, 1) := by decide +kernel
theorem dX12_waitTop_16 : decode cX12_waitTop 16 = .ok (.getfield 180, 3) := by decide +kernel
theorem dX12_waitTop_19 : decode cX12_waitTop 19 = .ok (.iconst 1, 1) := by decide +kernel
theorem dX12_waitTop_20 : decode cX12_waitTop 20 = .ok (.isub, 1) := by decide +kernel
theorem dX12_waitTop_21 : decode cX12_waitTop 21 = .ok (.iaload, 1) := by decide +kernel
theorem dX12_waitTop_22 : decode cX12_waitTop 22 = .ok (.ldc 176, 2) := by decide +kernel
theorem dX12_waitTop_24 : decode cX12_waitTop 24 = .ok (.idiv, 1) := by decide +kernel
theorem dX12_waitTop_25 : decode cX12_waitTop 25 = .ok (.ireturn, 1) := by decide +kernel
def f_X12_waitTop (S0 : Gr) : Option (Int32) := if (S0.1 15) = 0 then (some (-1)) else (rd' (S0.2 19) 260 ((S0.1 15) - 1) fun v2 => lt' (v2 / 1048576) fun v3 => some v3)
set_option maxHeartbeats 4000000 in
set_option maxRecDepth 100000 in
theorem c_X12_waitTop (l : Launch) (E : Ec) (q0 : Nat → Nat) (sz : Nat) (S0 : Gr) (Rv : Int32) (h : f_X12_waitTop S0 = some Rv) : Met l yX12_waitTop (wsM (.code yX12_waitTop cX12_waitTop 1 (some .int))) ({ frames := 0, cells := 0, slots := 0, locals := 0 } : Room) (va_Pc [.ref (q0 0)] (ctP E (cw_X12 E q0 S0) sz)) (ctI E (cw_X12 E q0 S0) (cw_X12 E q0 S0) sz Rv) 0 0 (va_A (cw_X12 E q0 S0) sz) := by
  refine ct_metI (by decide) (Nat.le_of_ble_eq_true rfl) ?_
  intro p e s m ar below meth c A QM hx hb hml hown hg X hP hD hS RET ls hl
  have hown : s.vm.findClass RX12 = some m.cls := hown
  have hl : lv_has ls 1 [(0, .ref (q0 0))] := hl
  have RT : ∀ (v : Int32) (H : Heap) (locs : List Loc) (ls : Array Slot) (pc : Nat), some v = some Rv → narrow .int (.int v) = .int v → va_P E.1 vwCl (cw_X12 E q0 S0) H → va_D A (cw_X12 E q0 S0) → va_S A s.heap H locs → decode cX12_waitTop pc = .ok (.ireturn, 1) → W p l e ({ frames := 0, cells := 0, slots := 0, locals := 0 } : Room) s m ar below meth c H locs 0 0 QM (F0 m pc ls [.int v]) := by
    intro v H locs ls pc e hn hP hD hS d
    obtain rfl := sm_e e
    exact RET H locs pc ls hn hP hD hS d
  clear RET
  obtain ⟨H, eH⟩ : ∃ z, z = s.heap := ⟨_, rfl⟩
  rw [← eH]
  have hP : va_P E.1 vwCl (cw_X12 E q0 S0) H := by rw [eH]; exact hP
  have hS : va_S A s.heap H [] := by rw [eH]; exact hS
  clear eH
  obtain ⟨locs, el⟩ : ∃ z : List Loc, z = [] := ⟨_, rfl⟩
  rw [← el] at hS ⊢
  clear el
  refine lv_aload_n hx hb dX12_waitTop_0 rfl (lv_at hl 0 rfl) ?_
  refine va_get (D := E.1) (ci := 11) (v := .int (S0.1 15)) (C := RX12) (T := TX12) (N := 57) hx hb hg in_X12 hown X.1 hP 0 rfl rfl 15 (by decide) (hg _ wf_X12_180) (fun _ h9 => h9) rfl dX12_waitTop_1 ?_
  refine lv_if_ne (tgt := 11) hx hb dX12_waitTop_4 (by decide) (fun c1 => ?_) (fun c1 => ?_)
  · have h := it_f h c1
    refine lv_aload_n hx hb dX12_waitTop_11 rfl (lv_at hl 0 rfl) ?_
    refine va_get (D := E.1) (ci := 11) (v := .ref (q0 8)) (C := RX12) (T := TX12) (N := 57) hx hb hg in_X12 hown X.1 hP 0 rfl rfl 19 (by decide) (hg _ wf_X12_32) (fun _ h9 => h9) rfl dX12_waitTop_12 ?_
    refine lv_aload_n hx hb dX12_waitTop_15 rfl (lv_at hl 0 rfl) ?_
    refine va_get (D := E.1) (ci := 11) (v := .int (S0.1 15)) (C := RX12) (T := TX12) (N := 57) hx hb hg in_X12 hown X.1 hP 0 rfl rfl 15 (by decide) (hg _ wf_X12_180) (fun _ h9 => h9) rfl dX12_waitTop_16 ?_
    refine lv_iconst (v := 1) hx hb dX12_waitTop_19 (by decide) ?_
    refine lv_isub hx hb dX12_waitTop_20 ?_
    obtain ⟨hi, v2, ev2, h⟩ := rd_el h
    refine va_iald hx hb X.1 hP 8 0 rfl rfl hi dX12_waitTop_21 ?_
    refine lv_top' ev2 ?_
    refine lv_ldc hx hb hown (hg _ wcn_X12_176) dX12_waitTop_22 ?_
    refine lv_idiv hx hb dX12_waitTop_24 (by decide) ?_
    obtain ⟨v3, ev3, h⟩ := lt_el h
    refine lv_top' ev3 ?_
    exact RT v3 _ _ _ _ h rfl hP hD hS dX12_waitTop_25
  · have h := it_t h c1
    refine lv_iconst (v := (-1)) hx hb dX12_waitTop_7 (by decide) ?_
    refine lv_goto (tgt := 25) hx hb dX12_waitTop_8 (by decide) ?_
    exact RT (-1) _ _ _ _ h rfl hP hD hS dX12_waitTop_25
theorem dX12_endsPiece_0 : decode cX12_endsPiece 0 = .ok (.aload_n 0, 1) := by decide +kernel
theorem dX12_endsPiece_1 : decode cX12_endsPiece 1 = .ok (.invokevirtual 183, 3) := by decide +kernel
theorem dX12_endsPiece_4 : decode cX12_endsPiece 4 = .ok (.bipush 10, 2) := by decide +kernel
theorem dX12_endsPiece_6 : decode cX12_endsPiece 6 = .ok (.if_icmp .ne 33, 3) := by decide +kernel
theorem dX12_endsPiece_9 : decode cX12_endsPiece 9 = .ok (.aload_n 0, 1) := by decide +kernel
theorem dX12_endsPiece_10 : decode cX12_endsPiece 10 = .ok (.bipush 10, 2) := by decide +kernel
theorem dX12_endsPiece_12 : decode cX12_endsPiece 12 = .ok (.iconst 0, 1) := by decide +kernel
theorem dX12_endsPiece_13 : decode cX12_endsPiece 13 = .ok (.invokevirtual 186, 3) := by decide +kernel
theorem dX12_endsPiece_16 : decode cX12_endsPiece 16 = .ok (.aload_n 0, 1) := by decide +kernel
theorem dX12_endsPiece_17 : decode cX12_endsPiece 17 = .ok (.aload_n 0, 1) := by decide +kernel
theorem dX12_endsPiece_18 : decode cX12_endsPiece 18 = .ok (.getfield 180, 3) := by decide +kernel
theorem dX12_endsPiece_21 : decode cX12_endsPiece 21 = .ok (.iconst 1, 1) := by decide +kernel
theorem dX12_endsPiece_22 : decode cX12_endsPiece 22 = .ok (.isub, 1) := by decide +kernel
theorem dX12_endsPiece_23 : decode cX12_endsPiece 23 = .ok (.putfield 180, 3) := by decide +kernel
theorem dX12_endsPiece_26 : decode cX12_endsPiece 26 = .ok (.aload_n 0, 1) := by decide +kernel
theorem dX12_endsPiece_27 : decode cX12_endsPiece 27 = .ok (.aload_n 0, 1) := by decide +kernel
theorem dX12_endsPiece_28 : decode cX12_endsPiece 28 = .ok (.getfield 177, 3) := by decide +kernel
theorem dX12_endsPiece_31 : decode cX12_endsPiece 31 = .ok (.iconst 1, 1) := by decide +kernel
theorem dX12_endsPiece_32 : decode cX12_endsPiece 32 = .ok (.isub, 1) := by decide +kernel
theorem dX12_endsPiece_33 : decode cX12_endsPiece 33 = .ok (.putfield 177, 3) := by decide +kernel
theorem dX12_endsPiece_36 : decode cX12_endsPiece 36 = .ok (.goto (-36), 3) := by decide +kernel
theorem dX12_endsPiece_39 : decode cX12_endsPiece 39 = .ok (.return_, 1) := by decide +kernel
def f_X12_endsPiece_n0  : Nat → Gr → Option (Gr)
  | 0, _ => none
  | n + 1, S0 => (f_X12_waitTop S0).bind fun u1 => if u1 = 10 then ((f_X12_notes S0 10 0).bind fun u3 => lt' (sI u3 15 ((u3.1 15) - 1)) fun S0_4 => lt' (sI S0_4 13 ((S0_4.1 13) - 1)) fun S0_5 => f_X12_endsPiece_n0 n S0_5) else (some S0)
def f_X12_endsPiece (S0 : Gr) : Option (Gr) := f_X12_endsPiece_n0 fu S0
set_option maxHeartbeats 4000000 in
set_option maxRecDepth 100000 in
theorem c_X12_endsPiece (l : Launch) (E : Ec) (q0 : Nat → Nat) (sz : Nat) (S0 : Gr) (Rv : Gr) (h : f_X12_endsPiece S0 = some Rv) : Met l yX12_endsPiece (wsM (.code yX12_endsPiece cX12_endsPiece 1 none)) ({ frames := 1, cells := 0, slots := 0, locals := 22 } : Room) (va_Pc [.ref (q0 0)] (ctP E (cw_X12 E q0 S0) sz)) (ctV E (cw_X12 E q0 S0) (cw_X12 E q0 Rv) sz) 0 0 (va_A (cw_X12 E q0 S0) sz) := by
  refine ct_metV (by decide) (Nat.le_of_ble_eq_true rfl) ?_
  intro p e s m ar below meth c A QM hx hb hml hown hg X hP hD hS RET ls hl
  have hown : s.vm.findClass RX12 = some m.cls := hown
  have hl : lv_has ls 1 [(0, .ref (q0 0))] := hl
  have RT : ∀ (S0 : Gr) (H : Heap) (locs : List Loc) (ls : Array Slot) (pc : Nat), some S0 = some Rv → va_P E.1 vwCl (cw_X12 E q0 S0) H → va_D A (cw_X12 E q0 S0) → va_S A s.heap H locs → decode cX12_endsPiece pc = .ok (.return_, 1) → W p l e ({ frames := 1, cells := 0, slots := 0, locals := 22 } : Room) s m ar below meth c H locs 0 0 QM (F0 m pc ls []) := by
    intro S0 H locs ls pc e hP hD hS d
    obtain rfl := sm_e e
    exact RET H locs pc ls hP hD hS d
  clear RET
  have N0 : ∀ (n : Nat) (S0 : Gr) (H : Heap) (locs : List Loc) (ls : Array Slot), f_X12_endsPiece_n0 n S0 = some Rv → va_P E.1 vwCl (cw_X12 E q0 S0) H → va_D A (cw_X12 E q0 S0) → va_S A s.heap H locs → lv_has ls 1 [(0, .ref (q0 0))] → W p l e ({ frames := 1, cells := 0, slots := 0, locals := 22 } : Room) s m ar below meth c H locs 0 0 QM (F0 m 0 ls []) := by
    intro n
    induction n with
    | zero => intro S0 H locs ls h; exact nn_el h
    | succ n ih =>
      intro S0 H locs ls h hP hD hS hl
      refine lv_aload_n hx hb dX12_endsPiece_0 rfl (lv_at hl 0 rfl) ?_
      obtain ⟨u1, hc, h⟩ := bd_el h
      refine ct_iA (w1 := cw_X12 E q0 S0) X hP hD hS (va_runV (C := RX12) (As := []) (rest := []) ⟨hx, hb, hml, hown, hg⟩ (c_X12_waitTop l E q0 H.size S0 u1 hc) (cwV 0 hg (gwV wm_X12_183 wi_X12_waitTop wsl_X12_waitTop wini_X12 wco_X12_waitTop) rfl rfl rfl (by decide +kernel) ⟨Nat.le_of_ble_eq_true rfl, Nat.le_of_ble_eq_true rfl⟩) ⟨ct_blind, ct_rv X.1 hP 0 rfl rfl, ct_preA X hP hD hS _⟩ rfl rfl hl.1 rfl (lv_room (Nat.le_of_ble_eq_true rfl)) dX12_endsPiece_1 ⟨Nat.zero_le _, Nat.zero_le _⟩) (fun H locs hP hD hS => ?_)
      refine lv_bipush (v := 10) hx hb dX12_endsPiece_4 (by decide) ?_
      refine lv_icmp_ne (tgt := 39) hx hb dX12_endsPiece_6 (by decide) (fun c2 => ?_) (fun c2 => ?_)
      · have h := it_f h c2
        exact RT S0 _ _ _ _ h hP hD hS dX12_endsPiece_39
      · have h := it_t h c2
        refine lv_aload_n hx hb dX12_endsPiece_9 rfl (lv_at hl 0 rfl) ?_
        refine lv_bipush (v := 10) hx hb dX12_endsPiece_10 (by decide) ?_
        refine lv_iconst (v := 0) hx hb dX12_endsPiece_12 (by decide) ?_
        obtain ⟨u3, hc, h⟩ := bd_el h
        refine ct_vA (w1 := cw_X12 E q0 u3) X hP hD hS (va_runV (C := RX12) (As := [.int 10, .int 0]) (rest := []) ⟨hx, hb, hml, hown, hg⟩ (c_X12_notes l E q0 H.size S0 10 0 u3 hc) (cwV 2 hg (gwV wm_X12_186 wi_X12_notes wsl_X12_notes wini_X12 wco_X12_notes) rfl rfl rfl (by decide +kernel) ⟨Nat.le_of_ble_eq_true rfl, Nat.le_of_ble_eq_true rfl⟩) ⟨ct_blind, ct_rv X.1 hP 0 rfl rfl, ct_preA X hP hD hS _⟩ rfl rfl hl.1 rfl (lv_room (Nat.le_of_ble_eq_true rfl)) dX12_endsPiece_13 ⟨Nat.zero_le _, Nat.zero_le _⟩) (fun H locs hP hD hS => ?_)
        refine lv_aload_n hx hb dX12_endsPiece_16 rfl (lv_at hl 0 rfl) ?_
        refine lv_aload_n hx hb dX12_endsPiece_17 rfl (lv_at hl 0 rfl) ?_
        refine va_get (D := E.1) (ci := 11) (v := .int (u3.1 15)) (C := RX12) (T := TX12) (N := 57) hx hb hg in_X12 hown X.1 hP 0 rfl rfl 15 (by decide) (hg _ wf_X12_180) (fun _ h9 => h9) rfl dX12_endsPiece_18 ?_
        refine lv_iconst (v := 1) hx hb dX12_endsPiece_21 (by decide) ?_
        refine lv_isub hx hb dX12_endsPiece_22 ?_
        obtain ⟨S0_4, eS, h⟩ := lt_el h
        refine va_put (D := E.1) (ci := 11) (v := .int ((u3.1 15) - 1)) (ty := .int) (C := RX12) (T := TX12) (N := 57) hx hb hg in_X12 tyX12 tyX12_ok nmX12 hown X.1 hP hD hS 0 rfl rfl 15 (by decide) (hg _ wf_X12_180) (fun _ h9 => h9) rfl (by decide +kernel) rfl rfl (Nat.le_of_ble_eq_true rfl) dX12_endsPiece_23 (fun H locs hP hD hS => ?_)
        have hP : va_P E.1 vwCl (cw_X12 E q0 S0_4) H := by rw [eS]; exact hP
        have hD : va_D A (cw_X12 E q0 S0_4) := by rw [eS]; exact hD
        clear eS
        refine lv_aload_n hx hb dX12_endsPiece_26 rfl (lv_at hl 0 rfl) ?_
        refine lv_aload_n hx hb dX12_endsPiece_27 rfl (lv_at hl 0 rfl) ?_
        refine va_get (D := E.1) (ci := 11) (v := .int (S0_4.1 13)) (C := RX12) (T := TX12) (N := 57) hx hb hg in_X12 hown X.1 hP 0 rfl rfl 13 (by decide) (hg _ wf_X12_177) (fun _ h9 => h9) rfl dX12_endsPiece_28 ?_
        refine lv_iconst (v := 1) hx hb dX12_endsPiece_31 (by decide) ?_
        refine lv_isub hx hb dX12_endsPiece_32 ?_
        obtain ⟨S0_5, eS, h⟩ := lt_el h
        refine va_put (D := E.1) (ci := 11) (v := .int ((S0_4.1 13) - 1)) (ty := .int) (C := RX12) (T := TX12) (N := 57) hx hb hg in_X12 tyX12 tyX12_ok nmX12 hown X.1 hP hD hS 0 rfl rfl 13 (by decide) (hg _ wf_X12_177) (fun _ h9 => h9) rfl (by decide +kernel) rfl rfl (Nat.le_of_ble_eq_true rfl) dX12_endsPiece_33 (fun H locs hP hD hS => ?_)
        have hP : va_P E.1 vwCl (cw_X12 E q0 S0_5) H := by rw [eS]; exact hP
        have hD : va_D A (cw_X12 E q0 S0_5) := by rw [eS]; exact hD
        clear eS
        refine lv_goto (tgt := 0) hx hb dX12_endsPiece_36 (by decide) ?_
        exact ih S0_5 _ _ _ h hP hD hS (lv_sub hl [0] rfl)
  obtain ⟨H, eH⟩ : ∃ z, z = s.heap := ⟨_, rfl⟩
  rw [← eH]
  have hP : va_P E.1 vwCl (cw_X12 E q0 S0) H := by rw [eH]; exact hP
  have hS : va_S A s.heap H [] := by rw [eH]; exact hS
  clear eH
  obtain ⟨locs, el⟩ : ∃ z : List Loc, z = [] := ⟨_, rfl⟩
  rw [← el] at hS ⊢
  clear el
  exact N0 fu S0 _ _ _ h hP hD hS (lv_sub hl [0] rfl)
theorem dX12_jumps_0 : decode cX12_jumps 0 = .ok (.aload_n 0, 1) := by decide +kernel
theorem dX12_jumps_1 : decode cX12_jumps 1 = .ok (.getfield 32, 3) := by decide +kernel
theorem dX12_jumps_4 : decode cX12_jumps 4 = .ok (.aload_n 0, 1) := by decide +kernel
theorem dX12_jumps_5 : decode cX12_jumps 5 = .ok (.getfield 180, 3) := by decide +kernel
theorem dX12_jumps_8 : decode cX12_jumps 8 = .ok (.ldc 176, 2) := by decide +kernel
theorem dX12_jumps_10 : decode cX12_jumps 10 = .ok (.iload_n 1, 1) := by decide +kernel
theorem dX12_jumps_11 : decode cX12_jumps 11 = .ok (.imul, 1) := by decide +kernel
theorem dX12_jumps_12 : decode cX12_jumps 12 = .ok (.aload_n 0, 1) := by decide +kernel
theorem dX12_jumps_13 : decode cX12_jumps 13 = .ok (.getfield 173, 3) := by decide +kernel
theorem dX12_jumps_16 : decode cX12_jumps 16 = .ok (.iadd, 1) := by decide +kernel
theorem dX12_jumps_17 : decode cX12_jumps 17 = .ok (.iastore, 1) := by decide +kernel
theorem dX12_jumps_18 : decode cX12_jumps 18 = .ok (.aload_n 0, 1) := by decide +kernel
theorem dX12_jumps_19 : decode cX12_jumps 19 = .ok (.aload_n 0, 1) := by decide +kernel
theorem dX12_jumps_20 : decode cX12_jumps 20 = .ok (.getfield 180, 3) := by decide +kernel
theorem dX12_jumps_23 : decode cX12_jumps 23 = .ok (.iconst 1, 1) := by decide +kernel
theorem dX12_jumps_24 : decode cX12_jumps 24 = .ok (.iadd, 1) := by decide +kernel
theorem dX12_jumps_25 : decode cX12_jumps 25 = .ok (.putfield 180, 3) := by decide +kernel
theorem dX12_jumps_28 : decode cX12_jumps 28 = .ok (.aload_n 0, 1) := by decide +kernel
theorem dX12_jumps_29 : decode cX12_jumps 29 = .ok (.iload_n 1, 1) := by decide +kernel
theorem dX12_jumps_30 : decode cX12_jumps 30 = .ok (.iconst 0, 1) := by decide +kernel
theorem dX12_jumps_31 : decode cX12_jumps 31 = .ok (.invokevirtual 186, 3) := by decide +kernel
theorem dX12_jumps_34 : decode cX12_jumps 34 = .ok (.aload_n 0, 1) := by decide +kernel
theorem dX12_jumps_35 : decode cX12_jumps 35 = .ok (.aload_n 0, 1) := by decide +kernel
theorem dX12_jumps_36 : decode cX12_jumps 36 = .ok (.getfield 150, 3) := by decide +kernel
theorem dX12_jumps_39 : decode cX12_jumps 39 = .ok (.iconst 1, 1) := by decide +kernel
theorem dX12_jumps_40 : decode cX12_jumps 40 = .ok (.iadd, 1) := by decide +kernel
theorem dX12_jumps_41 : decode cX12_jumps 41 = .ok (.putfield 150, 3) := by decide +kernel
theorem dX12_jumps_44 : decode cX12_jumps 44 = .ok (.return_, 1) := by decide +kernel
def f_X12_jumps (S0 : Gr) (x1 : Int32) : Option (Gr) := ck' 260 (S0.1 15) (lt' (sA S0 19 (Int32.toNatClampNeg (S0.1 15)) ((1048576 * x1) + (S0.1 14))) fun S0_1 => lt' (sI S0_1 15 ((S0_1.1 15) + 1)) fun S0_2 => (f_X12_notes S0_2 x1 0).bind fun u3 => lt' (sI u3 9 ((u3.1 9) + 1)) fun S0_4 => some S0_4)
set_option maxHeartbeats 4000000 in
set_option maxRecDepth 100000 in
theorem c_X12_jumps (l : Launch) (E : Ec) (q0 : Nat → Nat) (sz : Nat) (S0 : Gr) (x1 : Int32) (Rv : Gr) (h : f_X12_jumps S0 x1 = some Rv) : Met l yX12_jumps (wsM (.code yX12_jumps cX12_jumps 2 none)) ({ frames := 1, cells := 0, slots := 0, locals := 22 } : Room) (va_Pc [.ref (q0 0), .int x1] (ctP E (cw_X12 E q0 S0) sz)) (ctV E (cw_X12 E q0 S0) (cw_X12 E q0 Rv) sz) 0 0 (va_A (cw_X12 E q0 S0) sz) := by
  refine ct_metV (by decide) (Nat.le_of_ble_eq_true rfl) ?_
  intro p e s m ar below meth c A QM hx hb hml hown hg X hP hD hS RET ls hl
  have hown : s.vm.findClass RX12 = some m.cls := hown
  have hl : lv_has ls 2 [(0, .ref (q0 0)), (1, .int x1)] := hl
  have RT : ∀ (S0 : Gr) (H : Heap) (locs : List Loc) (ls : Array Slot) (pc : Nat), some S0 = some Rv → va_P E.1 vwCl (cw_X12 E q0 S0) H → va_D A (cw_X12 E q0 S0) → va_S A s.heap H locs → decode cX12_jumps pc = .ok (.return_, 1) → W p l e ({ frames := 1, cells := 0, slots := 0, locals := 22 } : Room) s m ar below meth c H locs 0 0 QM (F0 m pc ls []) := by
    intro S0 H locs ls pc e hP hD hS d
    obtain rfl := sm_e e
    exact RET H locs pc ls hP hD hS d
  clear RET
  obtain ⟨H, eH⟩ : ∃ z, z = s.heap := ⟨_, rfl⟩
  rw [← eH]
  have hP : va_P E.1 vwCl (cw_X12 E q0 S0) H := by rw [eH]; exact hP
  have hS : va_S A s.heap H [] := by rw [eH]; exact hS
  clear eH
  obtain ⟨locs, el⟩ : ∃ z : List Loc, z = [] := ⟨_, rfl⟩
  rw [← el] at hS ⊢
  clear el
  refine lv_aload_n hx hb dX12_jumps_0 rfl (lv_at hl 0 rfl) ?_
  refine va_get (D := E.1) (ci := 11) (v := .ref (q0 8)) (C := RX12) (T := TX12) (N := 57) hx hb hg in_X12 hown X.1 hP 0 rfl rfl 19 (by decide) (hg _ wf_X12_32) (fun _ h9 => h9) rfl dX12_jumps_1 ?_
  refine lv_aload_n hx hb dX12_jumps_4 rfl (lv_at hl 0 rfl) ?_
  refine va_get (D := E.1) (ci := 11) (v := .int (S0.1 15)) (C := RX12) (T := TX12) (N := 57) hx hb hg in_X12 hown X.1 hP 0 rfl rfl 15 (by decide) (hg _ wf_X12_180) (fun _ h9 => h9) rfl dX12_jumps_5 ?_
  refine lv_ldc hx hb hown (hg _ wcn_X12_176) dX12_jumps_8 ?_
  refine lv_iload_n hx hb dX12_jumps_10 rfl (lv_at hl 1 rfl) ?_
  refine lv_imul hx hb dX12_jumps_11 ?_
  refine lv_aload_n hx hb dX12_jumps_12 rfl (lv_at hl 0 rfl) ?_
  refine va_get (D := E.1) (ci := 11) (v := .int (S0.1 14)) (C := RX12) (T := TX12) (N := 57) hx hb hg in_X12 hown X.1 hP 0 rfl rfl 14 (by decide) (hg _ wf_X12_173) (fun _ h9 => h9) rfl dX12_jumps_13 ?_
  refine lv_iadd hx hb dX12_jumps_16 ?_
  obtain ⟨hi, h⟩ := ck_el h
  obtain ⟨S0_1, eS, h⟩ := lt_el h
  refine va_iast hx hb X.1 hP hD hS 8 0 rfl rfl hi dX12_jumps_17 (fun H locs hP hD hS => ?_)
  have hP : va_P E.1 vwCl (cw_X12 E q0 S0_1) H := by rw [eS]; exact hP
  have hD : va_D A (cw_X12 E q0 S0_1) := by rw [eS]; exact hD
  clear eS
  refine lv_aload_n hx hb dX12_jumps_18 rfl (lv_at hl 0 rfl) ?_
  refine lv_aload_n hx hb dX12_jumps_19 rfl (lv_at hl 0 rfl) ?_
  refine va_get (D := E.1) (ci := 11) (v := .int (S0_1.1 15)) (C := RX12) (T := TX12) (N := 57) hx hb hg in_X12 hown X.1 hP 0 rfl rfl 15 (by decide) (hg _ wf_X12_180) (fun _ h9 => h9) rfl dX12_jumps_20 ?_
  refine lv_iconst (v := 1) hx hb dX12_jumps_23 (by decide) ?_
  refine lv_iadd hx hb dX12_jumps_24 ?_
  obtain ⟨S0_2, eS, h⟩ := lt_el h
  refine va_put (D := E.1) (ci := 11) (v := .int ((S0_1.1 15) + 1)) (ty := .int) (C := RX12) (T := TX12) (N := 57) hx hb hg in_X12 tyX12 tyX12_ok nmX12 hown X.1 hP hD hS 0 rfl rfl 15 (by decide) (hg _ wf_X12_180) (fun _ h9 => h9) rfl (by decide +kernel) rfl rfl (Nat.le_of_ble_eq_true rfl) dX12_jumps_25 (fun H locs hP hD hS => ?_)
  have hP : va_P E.1 vwCl (cw_X12 E q0 S0_2) H := by rw [eS]; exact hP
  have hD : va_D A (cw_X12 E q0 S0_2) := by rw [eS]; exact hD
  clear eS
  refine lv_aload_n hx hb dX12_jumps_28 rfl (lv_at hl 0 rfl) ?_
  refine lv_iload_n hx hb dX12_jumps_29 rfl (lv_at hl 1 rfl) ?_
  refine lv_iconst (v := 0) hx hb dX12_jumps_30 (by decide) ?_
  obtain ⟨u3, hc, h⟩ := bd_el h
  refine ct_vA (w1 := cw_X12 E q0 u3) X hP hD hS (va_runV (C := RX12) (As := [.int x1, .int 0]) (rest := []) ⟨hx, hb, hml, hown, hg⟩ (c_X12_notes l E q0 H.size S0_2 x1 0 u3 hc) (cwV 2 hg (gwV wm_X12_186 wi_X12_notes wsl_X12_notes wini_X12 wco_X12_notes) rfl rfl rfl (by decide +kernel) ⟨Nat.le_of_ble_eq_true rfl, Nat.le_of_ble_eq_true rfl⟩) ⟨ct_blind, ct_rv X.1 hP 0 rfl rfl, ct_preA X hP hD hS _⟩ rfl rfl hl.1 rfl (lv_room (Nat.le_of_ble_eq_true rfl)) dX12_jumps_31 ⟨Nat.zero_le _, Nat.zero_le _⟩) (fun H locs hP hD hS => ?_)
  refine lv_aload_n hx hb dX12_jumps_34 rfl (lv_at hl 0 rfl) ?_
  refine lv_aload_n hx hb dX12_jumps_35 rfl (lv_at hl 0 rfl) ?_
  refine va_get (D := E.1) (ci := 11) (v := .int (u3.1 9)) (C := RX12) (T := TX12) (N := 57) hx hb hg in_X12 hown X.1 hP 0 rfl rfl 9 (by decide) (hg _ wf_X12_150) (fun _ h9 => h9) rfl dX12_jumps_36 ?_
  refine lv_iconst (v := 1) hx hb dX12_jumps_39 (by decide) ?_
  refine lv_iadd hx hb dX12_jumps_40 ?_
  obtain ⟨S0_4, eS, h⟩ := lt_el h
  refine va_put (D := E.1) (ci := 11) (v := .int ((u3.1 9) + 1)) (ty := .int) (C := RX12) (T := TX12) (N := 57) hx hb hg in_X12 tyX12 tyX12_ok nmX12 hown X.1 hP hD hS 0 rfl rfl 9 (by decide) (hg _ wf_X12_150) (fun _ h9 => h9) rfl (by decide +kernel) rfl rfl (Nat.le_of_ble_eq_true rfl) dX12_jumps_41 (fun H locs hP hD hS => ?_)
  have hP : va_P E.1 vwCl (cw_X12 E q0 S0_4) H := by rw [eS]; exact hP
  have hD : va_D A (cw_X12 E q0 S0_4) := by rw [eS]; exact hD
  clear eS
  exact RT S0_4 _ _ _ _ h hP hD hS dX12_jumps_44
theorem dX12_lands_0 : decode cX12_lands 0 = .ok (.aload_n 0, 1) := by decide +kernel
theorem dX12_lands_1 : decode cX12_lands 1 = .ok (.invokevirtual 183, 3) := by decide +kernel
theorem dX12_lands_4 : decode cX12_lands 4 = .ok (.bipush 11, 2) := by decide +kernel
theorem dX12_lands_6 : decode cX12_lands 6 = .ok (.if_icmp .eq 16, 3) := by decide +kernel
theorem dX12_lands_9 : decode cX12_lands 9 = .ok (.iload_n 1, 1) := by decide +kernel
theorem dX12_lands_10 : decode cX12_lands 10 = .ok (.ifCond .eq 63, 3) := by decide +kernel
theorem dX12_lands_13 : decode cX12_lands 13 = .ok (.aload_n 0, 1) := by decide +kernel
theorem dX12_lands_14 : decode cX12_lands 14 = .ok (.invokevirtual 183, 3) := by decide +kernel
theorem dX12_lands_17 : decode cX12_lands 17 = .ok (.bipush 12, 2) := by decide +kernel
theorem dX12_lands_19 : decode cX12_lands 19 = .ok (.if_icmp .ne 54, 3) := by decide +kernel
theorem dX12_lands_22 : decode cX12_lands 22 = .ok (.aload_n 0, 1) := by decide +kernel
theorem dX12_lands_23 : decode cX12_lands 23 = .ok (.getfield 32, 3) := by decide +kernel
theorem dX12_lands_26 : decode cX12_lands 26 = .ok (.aload_n 0, 1) := by decide +kernel
theorem dX12_lands_27 : decode cX12_lands 27 = .ok (.getfield 180, 3) := by decide +kernel
theorem dX12_lands_30 : decode cX12_lands 30 = .ok (.iconst 1, 1) := by decide +kernel
theorem dX12_lands_31 : decode cX12_lands 31 = .ok (.isub, 1) := by decide +kernel
theorem dX12_lands_32 : decode cX12_lands 32 = .ok (.iaload, 1) := by decide +kernel
theorem dX12_lands_33 : decode cX12_lands 33 = .ok (.ldc 176, 2) := by decide +kernel
theorem dX12_lands_35 : decode cX12_lands 35 = .ok (.irem, 1) := by decide +kernel
theorem dX12_lands_36 : decode cX12_lands 36 = .ok (.istore_n 2, 1) := by decide +kernel
theorem dX12_lands_37 : decode cX12_lands 37 = .ok (.aload_n 0, 1) := by decide +kernel
theorem dX12_lands_38 : decode cX12_lands 38 = .ok (.getfield 29, 3) := by decide +kernel
theorem dX12_lands_41 : decode cX12_lands 41 = .ok (.iload_n 2, 1) := by decide +kernel
theorem dX12_lands_42 : decode cX12_lands 42 = .ok (.ldc 176, 2) := by decide +kernel
theorem dX12_lands_44 : decode cX12_lands 44 = .ok (.aload_n 0, 1) := by decide +kernel
theorem dX12_lands_45 : decode cX12_lands 45 = .ok (.getfield 29, 3) := by decide +kernel
theorem dX12_lands_48 : decode cX12_lands 48 = .ok (.iload_n 2, 1) := by decide +kernel
theorem dX12_lands_49 : decode cX12_lands 49 = .ok (.iaload, 1) := by decide +kernel
theorem dX12_lands_50 : decode cX12_lands 50 = .ok (.ldc 176, 2) := by decide +kernel
theorem dX12_lands_52 : decode cX12_lands 52 = .ok (.idiv, 1) := by decide +kernel
theorem dX12_lands_53 : decode cX12_lands 53 = .ok (.imul, 1) := by decide +kernel
theorem dX12_lands_54 : decode cX12_lands 54 = .ok (.aload_n 0, 1) := by decide +kernel
theorem dX12_lands_55 : decode cX12_lands 55 = .ok (.getfield 173, 3) := by decide +kernel
theorem dX12_lands_58 : decode cX12_lands 58 = .ok (.iadd, 1) := by decide +kernel
theorem dX12_lands_59 : decode cX12_lands 59 = .ok (.iastore, 1) := by decide +kernel
theorem dX12_lands_60 : decode cX12_lands 60 = .ok (.aload_n 0, 1) := by decide +kernel
theorem dX12_lands_61 : decode cX12_lands 61 = .ok (.aload_n 0, 1) := by decide +kernel
theorem dX12_lands_62 : decode cX12_lands 62 = .ok (.getfield 180, 3) := by decide +kernel
theorem dX12_lands_65 : decode cX12_lands 65 = .ok (.iconst 1, 1) := by decide +kernel
theorem dX12_lands_66 : decode cX12_lands 66 = .ok (.isub, 1) := by decide +kernel
theorem dX12_lands_67 : decode cX12_lands 67 = .ok (.putfield 180, 3) := by decide +kernel
theorem dX12_lands_70 : decode cX12_lands 70 = .ok (.goto (-70), 3) := by decide +kernel
theorem dX12_lands_73 : decode cX12_lands 73 = .ok (.return_, 1) := by decide +kernel
def f_X12_lands_n22 (x1 : Int32) (k0 : Gr → Option (Gr)) (S0 : Gr) : Option (Gr) := rd' (S0.2 19) 260 ((S0.1 15) - 1) fun v6 => lt' (v6 - v6 / 1048576 * 1048576) fun v7 => rd' (S0.2 18) 260 v7 fun v8 => lt' (v8 / 1048576) fun v9 => ck' 260 v7 (lt' (sA S0 18 (Int32.toNatClampNeg v7) ((1048576 * v9) + (S0.1 14))) fun S0_10 => lt' (sI S0_10 15 ((S0_10.1 15) - 1)) fun S0_11 => k0 S0_11)
def f_X12_lands_n0 (x1 : Int32) : Nat → Gr → Option (Gr)
  | 0, _ => none
  | n + 1, S0 => (f_X12_waitTop S0).bind fun u1 => if u1 = 11 then (f_X12_lands_n22 x1 (f_X12_lands_n0 x1 n) S0) else (if x1 = 0 then (some S0) else ((f_X12_waitTop S0).bind fun u4 => if u4 = 12 then (f_X12_lands_n22 x1 (f_X12_lands_n0 x1 n) S0) else (some S0)))
def f_X12_lands (S0 : Gr) (x1 : Int32) : Option (Gr) := f_X12_lands_n0 x1 fu S0
set_option maxHeartbeats 4000000 in
set_option maxRecDepth 100000 in
theorem c_X12_lands (l : Launch) (E : Ec) (q0 : Nat → Nat) (sz : Nat) (S0 : Gr) (x1 : Int32) (Rv : Gr) (h : f_X12_lands S0 x1 = some Rv) : Met l yX12_lands (wsM (.code yX12_lands cX12_lands 3 none)) ({ frames := 1, cells := 0, slots := 0, locals := 20 } : Room) (va_Pc [.ref (q0 0), .int x1] (ctP E (cw_X12 E q0 S0) sz)) (ctV E (cw_X12 E q0 S0) (cw_X12 E q0 Rv) sz) 0 0 (va_A (cw_X12 E q0 S0) sz) := by
  refine ct_metV (by decide) (Nat.le_of_ble_eq_true rfl) ?_
  intro p e s m ar below meth c A QM hx hb hml hown hg X hP hD hS RET ls hl
  have hown : s.vm.findClass RX12 = some m.cls := hown
  have hl : lv_has ls 3 [(0, .ref (q0 0)), (1, .int x1)] := hl
  have RT : ∀ (S0 : Gr) (H : Heap) (locs : List Loc) (ls : Array Slot) (pc : Nat), some S0 = some Rv → va_P E.1 vwCl (cw_X12 E q0 S0) H → va_D A (cw_X12 E q0 S0) → va_S A s.heap H locs → decode cX12_lands pc = .ok (.return_, 1) → W p l e ({ frames := 1, cells := 0, slots := 0, locals := 20 } : Room) s m ar below meth c H locs 0 0 QM (F0 m pc ls []) := by
    intro S0 H locs ls pc e hP hD hS d
    obtain rfl := sm_e e
    exact RET H locs pc ls hP hD hS d
  clear RET
  have N22 : ∀ (k0 : Gr → Option (Gr)) (hk0 : ∀ (S0 : Gr) (H : Heap) (locs : List Loc) (ls : Array Slot), k0 S0 = some Rv → va_P E.1 vwCl (cw_X12 E q0 S0) H → va_D A (cw_X12 E q0 S0) → va_S A s.heap H locs → lv_has ls 3 [(0, .ref (q0 0)), (1, .int x1)] → W p l e ({ frames := 1, cells := 0, slots := 0, locals := 20 } : Room) s m ar below meth c H locs 0 0 QM (F0 m 0 ls [])) (S0 : Gr) (H : Heap) (locs : List Loc) (ls : Array Slot), f_X12_lands_n22 x1 k0 S0 = some Rv → va_P E.1 vwCl (cw_X12 E q0 S0) H → va_D A (cw_X12 E q0 S0) → va_S A s.heap H locs → lv_has ls 3 [(0, .ref (q0 0)), (1, .int x1)] → W p l e ({ frames := 1, cells := 0, slots := 0, locals := 20 } : Room) s m ar below meth c H locs 0 0 QM (F0 m 22 ls []) := by
    intro k0 hk0 S0 H locs ls h hP hD hS hl
    refine lv_aload_n hx hb dX12_lands_22 rfl (lv_at hl 0 rfl) ?_
    refine va_get (D := E.1) (ci := 11) (v := .ref (q0 8)) (C := RX12) (T := TX12) (N := 57) hx hb hg in_X12 hown X.1 hP 0 rfl rfl 19 (by decide) (hg _ wf_X12_32) (fun _ h9 => h9) rfl dX12_lands_23 ?_
    refine lv_aload_n hx hb dX12_lands_26 rfl (lv_at hl 0 rfl) ?_
    refine va_get (D := E.1) (ci := 11) (v := .int (S0.1 15)) (C := RX12) (T := TX12) (N := 57) hx hb hg in_X12 hown X.1 hP 0 rfl rfl 15 (by decide) (hg _ wf_X12_180) (fun _ h9 => h9) rfl dX12_lands_27 ?_
    refine lv_iconst (v := 1) hx hb dX12_lands_30 (by decide) ?_
    refine lv_isub hx hb dX12_lands_31 ?_
    obtain ⟨hi, v6, ev6, h⟩ := rd_el h
    refine va_iald hx hb X.1 hP 8 0 rfl rfl hi dX12_lands_32 ?_
    refine lv_top' ev6 ?_
    refine lv_ldc hx hb hown (hg _ wcn_X12_176) dX12_lands_33 ?_
    refine lv_irem hx hb dX12_lands_35 (by decide) ?_
    obtain ⟨v7, ev7, h⟩ := lt_el h
    refine lv_top' ev7 ?_
    refine lv_istore_n (lv' := [(2, .int v7), (0, .ref (q0 0)), (1, .int x1)]) hx hb dX12_lands_36 rfl hl (by decide) rfl (fun ls hl => ?_)
    refine lv_aload_n hx hb dX12_lands_37 rfl (lv_at hl 1 rfl) ?_
    refine va_get (D := E.1) (ci := 11) (v := .ref (q0 7)) (C := RX12) (T := TX12) (N := 57) hx hb hg in_X12 hown X.1 hP 0 rfl rfl 18 (by decide) (hg _ wf_X12_29) (fun _ h9 => h9) rfl dX12_lands_38 ?_
    refine lv_iload_n hx hb dX12_lands_41 rfl (lv_at hl 0 rfl) ?_
    refine lv_ldc hx hb hown (hg _ wcn_X12_176) dX12_lands_42 ?_
    refine lv_aload_n hx hb dX12_lands_44 rfl (lv_at hl 1 rfl) ?_
    refine va_get (D := E.1) (ci := 11) (v := .ref (q0 7)) (C := RX12) (T := TX12) (N := 57) hx hb hg in_X12 hown X.1 hP 0 rfl rfl 18 (by decide) (hg _ wf_X12_29) (fun _ h9 => h9) rfl dX12_lands_45 ?_
    refine lv_iload_n hx hb dX12_lands_48 rfl (lv_at hl 0 rfl) ?_
    obtain ⟨hi, v8, ev8, h⟩ := rd_el h
    refine va_iald hx hb X.1 hP 7 0 rfl rfl hi dX12_lands_49 ?_
    refine lv_top' ev8 ?_
    refine lv_ldc hx hb hown (hg _ wcn_X12_176) dX12_lands_50 ?_
    refine lv_idiv hx hb dX12_lands_52 (by decide) ?_
    obtain ⟨v9, ev9, h⟩ := lt_el h
    refine lv_top' ev9 ?_
    refine lv_imul hx hb dX12_lands_53 ?_
    refine lv_aload_n hx hb dX12_lands_54 rfl (lv_at hl 1 rfl) ?_
    refine va_get (D := E.1) (ci := 11) (v := .int (S0.1 14)) (C := RX12) (T := TX12) (N := 57) hx hb hg in_X12 hown X.1 hP 0 rfl rfl 14 (by decide) (hg _ wf_X12_173) (fun _ h9 => h9) rfl dX12_lands_55 ?_
    refine lv_iadd hx hb dX12_lands_58 ?_
    obtain ⟨hi, h⟩ := ck_el h
    obtain ⟨S0_10, eS, h⟩ := lt_el h
    refine va_iast hx hb X.1 hP hD hS 7 0 rfl rfl hi dX12_lands_59 (fun H locs hP hD hS => ?_)
    have hP : va_P E.1 vwCl (cw_X12 E q0 S0_10) H := by rw [eS]; exact hP
    have hD : va_D A (cw_X12 E q0 S0_10) := by rw [eS]; exact hD
    clear eS
    refine lv_aload_n hx hb dX12_lands_60 rfl (lv_at hl 1 rfl) ?_
    refine lv_aload_n hx hb dX12_lands_61 rfl (lv_at hl 1 rfl) ?_
    refine va_get (D := E.1) (ci := 11) (v := .int (S0_10.1 15)) (C := RX12) (T := TX12) (N := 57) hx hb hg in_X12 hown X.1 hP 0 rfl rfl 15 (by decide) (hg _ wf_X12_180) (fun _ h9 => h9) rfl dX12_lands_62 ?_
    refine lv_iconst (v := 1) hx hb dX12_lands_65 (by decide) ?_
    refine lv_isub hx hb dX12_lands_66 ?_
    obtain ⟨S0_11, eS, h⟩ := lt_el h
    refine va_put (D := E.1) (ci := 11) (v := .int ((S0_10.1 15) - 1)) (ty := .int) (C := RX12) (T := TX12) (N := 57) hx hb hg in_X12 tyX12 tyX12_ok nmX12 hown X.1 hP hD hS 0 rfl rfl 15 (by decide) (hg _ wf_X12_180) (fun _ h9 => h9) rfl (by decide +kernel) rfl rfl (Nat.le_of_ble_eq_true rfl) dX12_lands_67 (fun H locs hP hD hS => ?_)
    have hP : va_P E.1 vwCl (cw_X12 E q0 S0_11) H := by rw [eS]; exact hP
    have hD : va_D A (cw_X12 E q0 S0_11) := by rw [eS]; exact hD
    clear eS
    refine lv_goto (tgt := 0) hx hb dX12_lands_70 (by decide) ?_
    exact hk0 S0_11 _ _ _ h hP hD hS (lv_sub hl [1, 2] rfl)
  have N0 : ∀ (n : Nat) (S0 : Gr) (H : Heap) (locs : List Loc) (ls : Array Slot), f_X12_lands_n0 x1 n S0 = some Rv → va_P E.1 vwCl (cw_X12 E q0 S0) H → va_D A (cw_X12 E q0 S0) → va_S A s.heap H locs → lv_has ls 3 [(0, .ref (q0 0)), (1, .int x1)] → W p l e ({ frames := 1, cells := 0, slots := 0, locals := 20 } : Room) s m ar below meth c H locs 0 0 QM (F0 m 0 ls []) := by
    intro n
    induction n with
    | zero => intro S0 H locs ls h; exact nn_el h
    | succ n ih =>
      intro S0 H locs ls h hP hD hS hl
      refine lv_aload_n hx hb dX12_lands_0 rfl (lv_at hl 0 rfl) ?_
      obtain ⟨u1, hc, h⟩ := bd_el h
      refine ct_iA (w1 := cw_X12 E q0 S0) X hP hD hS (va_runV (C := RX12) (As := []) (rest := []) ⟨hx, hb, hml, hown, hg⟩ (c_X12_waitTop l E q0 H.size S0 u1 hc) (cwV 0 hg (gwV wm_X12_183 wi_X12_waitTop wsl_X12_waitTop wini_X12 wco_X12_waitTop) rfl rfl rfl (by decide +kernel) ⟨Nat.le_of_ble_eq_true rfl, Nat.le_of_ble_eq_true rfl⟩) ⟨ct_blind, ct_rv X.1 hP 0 rfl rfl, ct_preA X hP hD hS _⟩ rfl rfl hl.1 rfl (lv_room (Nat.le_of_ble_eq_true rfl)) dX12_lands_1 ⟨Nat.zero_le _, Nat.zero_le _⟩) (fun H locs hP hD hS => ?_)
      refine lv_bipush (v := 11) hx hb dX12_lands_4 (by decide) ?_
      refine lv_icmp_eq (tgt := 22) hx hb dX12_lands_6 (by decide) (fun c2 => ?_) (fun c2 => ?_)
      · have h := it_t h c2
        exact N22 (f_X12_lands_n0 x1 n) ih S0 _ _ _ h hP hD hS (lv_sub hl [0, 1] rfl)
      · have h := it_f h c2
        refine lv_iload_n hx hb dX12_lands_9 rfl (lv_at hl 1 rfl) ?_
        refine lv_if_eq (tgt := 73) hx hb dX12_lands_10 (by decide) (fun c3 => ?_) (fun c3 => ?_)
        · have h := it_t h c3
          exact RT S0 _ _ _ _ h hP hD hS dX12_lands_73
        · have h := it_f h c3
          refine lv_aload_n hx hb dX12_lands_13 rfl (lv_at hl 0 rfl) ?_
          obtain ⟨u4, hc, h⟩ := bd_el h
          refine ct_iA (w1 := cw_X12 E q0 S0) X hP hD hS (va_runV (C := RX12) (As := []) (rest := []) ⟨hx, hb, hml, hown, hg⟩ (c_X12_waitTop l E q0 H.size S0 u4 hc) (cwV 0 hg (gwV wm_X12_183 wi_X12_waitTop wsl_X12_waitTop wini_X12 wco_X12_waitTop) rfl rfl rfl (by decide +kernel) ⟨Nat.le_of_ble_eq_true rfl, Nat.le_of_ble_eq_true rfl⟩) ⟨ct_blind, ct_rv X.1 hP 0 rfl rfl, ct_preA X hP hD hS _⟩ rfl rfl hl.1 rfl (lv_room (Nat.le_of_ble_eq_true rfl)) dX12_lands_14 ⟨Nat.zero_le _, Nat.zero_le _⟩) (fun H locs hP hD hS => ?_)
          refine lv_bipush (v := 12) hx hb dX12_lands_17 (by decide) ?_
          refine lv_icmp_ne (tgt := 73) hx hb dX12_lands_19 (by decide) (fun c5 => ?_) (fun c5 => ?_)
          · have h := it_f h c5
            exact RT S0 _ _ _ _ h hP hD hS dX12_lands_73
          · have h := it_t h c5
            exact N22 (f_X12_lands_n0 x1 n) ih S0 _ _ _ h hP hD hS (lv_sub hl [0, 1] rfl)
  obtain ⟨H, eH⟩ : ∃ z, z = s.heap := ⟨_, rfl⟩
  rw [← eH]
  have hP : va_P E.1 vwCl (cw_X12 E q0 S0) H := by rw [eH]; exact hP
  have hS : va_S A s.heap H [] := by rw [eH]; exact hS
  clear eH
  obtain ⟨locs, el⟩ : ∃ z : List Loc, z = [] := ⟨_, rfl⟩
  rw [← el] at hS ⊢
  clear el
  exact N0 fu S0 _ _ _ h hP hD hS (lv_sub hl [0, 1] rfl)
theorem dX12_opens_0 : decode cX12_opens 0 = .ok (.aload_n 0, 1) := by decide +kernel
theorem dX12_opens_1 : decode cX12_opens 1 = .ok (.getfield 177, 3) := by decide +kernel
theorem dX12_opens_4 : decode cX12_opens 4 = .ok (.bipush 6, 2) := by decide +kernel
theorem dX12_opens_6 : decode cX12_opens 6 = .ok (.if_icmp .ne 13, 3) := by decide +kernel
theorem dX12_opens_9 : decode cX12_opens 9 = .ok (.aload_n 0, 1) := by decide +kernel
theorem dX12_opens_10 : decode cX12_opens 10 = .ok (.iconst 5, 1) := by decide +kernel
theorem dX12_opens_11 : decode cX12_opens 11 = .ok (.aload_n 0, 1) := by decide +kernel
theorem dX12_opens_12 : decode cX12_opens 12 = .ok (.getfield 150, 3) := by decide +kernel
theorem dX12_opens_15 : decode cX12_opens 15 = .ok (.invokevirtual 163, 3) := by decide +kernel
theorem dX12_opens_18 : decode cX12_opens 18 = .ok (.ireturn, 1) := by decide +kernel
theorem dX12_opens_19 : decode cX12_opens 19 = .ok (.aload_n 0, 1) := by decide +kernel
theorem dX12_opens_20 : decode cX12_opens 20 = .ok (.aload_n 0, 1) := by decide +kernel
theorem dX12_opens_21 : decode cX12_opens 21 = .ok (.getfield 177, 3) := by decide +kernel
theorem dX12_opens_24 : decode cX12_opens 24 = .ok (.iconst 1, 1) := by decide +kernel
theorem dX12_opens_25 : decode cX12_opens 25 = .ok (.iadd, 1) := by decide +kernel
theorem dX12_opens_26 : decode cX12_opens 26 = .ok (.putfield 177, 3) := by decide +kernel
theorem dX12_opens_29 : decode cX12_opens 29 = .ok (.aload_n 0, 1) := by decide +kernel
theorem dX12_opens_30 : decode cX12_opens 30 = .ok (.getfield 32, 3) := by decide +kernel
theorem dX12_opens_33 : decode cX12_opens 33 = .ok (.aload_n 0, 1) := by decide +kernel
theorem dX12_opens_34 : decode cX12_opens 34 = .ok (.getfield 180, 3) := by decide +kernel
theorem dX12_opens_37 : decode cX12_opens 37 = .ok (.ldc 176, 2) := by decide +kernel
theorem dX12_opens_39 : decode cX12_opens 39 = .ok (.iload_n 1, 1) := by decide +kernel
theorem dX12_opens_40 : decode cX12_opens 40 = .ok (.imul, 1) := by decide +kernel
theorem dX12_opens_41 : decode cX12_opens 41 = .ok (.iastore, 1) := by decide +kernel
theorem dX12_opens_42 : decode cX12_opens 42 = .ok (.aload_n 0, 1) := by decide +kernel
theorem dX12_opens_43 : decode cX12_opens 43 = .ok (.aload_n 0, 1) := by decide +kernel
theorem dX12_opens_44 : decode cX12_opens 44 = .ok (.getfield 180, 3) := by decide +kernel
theorem dX12_opens_47 : decode cX12_opens 47 = .ok (.iconst 1, 1) := by decide +kernel
theorem dX12_opens_48 : decode cX12_opens 48 = .ok (.iadd, 1) := by decide +kernel
theorem dX12_opens_49 : decode cX12_opens 49 = .ok (.putfield 180, 3) := by decide +kernel
theorem dX12_opens_52 : decode cX12_opens 52 = .ok (.aload_n 0, 1) := by decide +kernel
theorem dX12_opens_53 : decode cX12_opens 53 = .ok (.aload_n 0, 1) := by decide +kernel
theorem dX12_opens_54 : decode cX12_opens 54 = .ok (.getfield 150, 3) := by decide +kernel
theorem dX12_opens_57 : decode cX12_opens 57 = .ok (.iconst 1, 1) := by decide +kernel
theorem dX12_opens_58 : decode cX12_opens 58 = .ok (.iadd, 1) := by decide +kernel
theorem dX12_opens_59 : decode cX12_opens 59 = .ok (.putfield 150, 3) := by decide +kernel
theorem dX12_opens_62 : decode cX12_opens 62 = .ok (.iconst 1, 1) := by decide +kernel
theorem dX12_opens_63 : decode cX12_opens 63 = .ok (.ireturn, 1) := by decide +kernel
def f_X12_opens (S0 : Gr) (x1 : Int32) : Option (Int32 × Gr) := if (S0.1 13) = 6 then ((f_X12_wrongAt S0 5 (S0.1 9)).bind fun u6 => zb' u6.1 (some (u6.1, u6.2))) else (lt' (sI S0 13 ((S0.1 13) + 1)) fun S0_2 => ck' 260 (S0_2.1 15) (lt' (sA S0_2 19 (Int32.toNatClampNeg (S0_2.1 15)) (1048576 * x1)) fun S0_3 => lt' (sI S0_3 15 ((S0_3.1 15) + 1)) fun S0_4 => lt' (sI S0_4 9 ((S0_4.1 9) + 1)) fun S0_5 => some (1, S0_5)))
set_option maxHeartbeats 4000000 in
set_option maxRecDepth 100000 in
theorem c_X12_opens (l : Launch) (E : Ec) (q0 : Nat → Nat) (sz : Nat) (S0 : Gr) (x1 : Int32) (Rv : Int32 × Gr) (h : f_X12_opens S0 x1 = some Rv) : Met l yX12_opens (wsM (.code yX12_opens cX12_opens 2 (some .boolean))) ({ frames := 1, cells := 0, slots := 0, locals := 22 } : Room) (va_Pc [.ref (q0 0), .int x1] (ctP E (cw_X12 E q0 S0) sz)) (ctI E (cw_X12 E q0 S0) (cw_X12 E q0 Rv.2) sz Rv.1) 0 0 (va_A (cw_X12 E q0 S0) sz) := by
  refine ct_metI (by decide) (Nat.le_of_ble_eq_true rfl) ?_
  intro p e s m ar below meth c A QM hx hb hml hown hg X hP hD hS RET ls hl
  have hown : s.vm.findClass RX12 = some m.cls := hown
  have hl : lv_has ls 2 [(0, .ref (q0 0)), (1, .int x1)] := hl
  have RT : ∀ (v : Int32) (S0 : Gr) (H : Heap) (locs : List Loc) (ls : Array Slot) (pc : Nat), some (v, S0) = some Rv → narrow .boolean (.int v) = .int v → va_P E.1 vwCl (cw_X12 E q0 S0) H → va_D A (cw_X12 E q0 S0) → va_S A s.heap H locs → decode cX12_opens pc = .ok (.ireturn, 1) → W p l e ({ frames := 1, cells := 0, slots := 0, locals := 22 } : Room) s m ar below meth c H locs 0 0 QM (F0 m pc ls [.int v]) := by
    intro v S0 H locs ls pc e hn hP hD hS d
    obtain rfl := sm_e e
    exact RET H locs pc ls hn hP hD hS d
  clear RET
  obtain ⟨H, eH⟩ : ∃ z, z = s.heap := ⟨_, rfl⟩
  rw [← eH]
  have hP : va_P E.1 vwCl (cw_X12 E q0 S0) H := by rw [eH]; exact hP
  have hS : va_S A s.heap H [] := by rw [eH]; exact hS
  clear eH
  obtain ⟨locs, el⟩ : ∃ z : List Loc, z = [] := ⟨_, rfl⟩
  rw [← el] at hS ⊢
  clear el
  refine lv_aload_n hx hb dX12_opens_0 rfl (lv_at hl 0 rfl) ?_
  refine va_get (D := E.1) (ci := 11) (v := .int (S0.1 13)) (C := RX12) (T := TX12) (N := 57) hx hb hg in_X12 hown X.1 hP 0 rfl rfl 13 (by decide) (hg _ wf_X12_177) (fun _ h9 => h9) rfl dX12_opens_1 ?_
  refine lv_bipush (v := 6) hx hb dX12_opens_4 (by decide) ?_
  refine lv_icmp_ne (tgt := 19) hx hb dX12_opens_6 (by decide) (fun c1 => ?_) (fun c1 => ?_)
  · have h := it_f h c1
    refine lv_aload_n hx hb dX12_opens_19 rfl (lv_at hl 0 rfl) ?_
    refine lv_aload_n hx hb dX12_opens_20 rfl (lv_at hl 0 rfl) ?_
    refine va_get (D := E.1) (ci := 11) (v := .int (S0.1 13)) (C := RX12) (T := TX12) (N := 57) hx hb hg in_X12 hown X.1 hP 0 rfl rfl 13 (by decide) (hg _ wf_X12_177) (fun _ h9 => h9) rfl dX12_opens_21 ?_
    refine lv_iconst (v := 1) hx hb dX12_opens_24 (by decide) ?_
    refine lv_iadd hx hb dX12_opens_25 ?_
    obtain ⟨S0_2, eS, h⟩ := lt_el h
    refine va_put (D := E.1) (ci := 11) (v := .int ((S0.1 13) + 1)) (ty := .int) (C := RX12) (T := TX12) (N := 57) hx hb hg in_X12 tyX12 tyX12_ok nmX12 hown X.1 hP hD hS 0 rfl rfl 13 (by decide) (hg _ wf_X12_177) (fun _ h9 => h9) rfl (by decide +kernel) rfl rfl (Nat.le_of_ble_eq_true rfl) dX12_opens_26 (fun H locs hP hD hS => ?_)
    have hP : va_P E.1 vwCl (cw_X12 E q0 S0_2) H := by rw [eS]; exact hP
    have hD : va_D A (cw_X12 E q0 S0_2) := by rw [eS]; exact hD
    clear eS
    refine lv_aload_n hx hb dX12_opens_29 rfl (lv_at hl 0 rfl) ?_
    refine va_get (D := E.1) (ci := 11) (v := .ref (q0 8)) (C := RX12) (T := TX12) (N := 57) hx hb hg in_X12 hown X.1 hP 0 rfl rfl 19 (by decide) (hg _ wf_X12_32) (fun _ h9 => h9) rfl dX12_opens_30 ?_
    refine lv_aload_n hx hb dX12_opens_33 rfl (lv_at hl 0 rfl) ?_
    refine va_get (D := E.1) (ci := 11) (v := .int (S0_2.1 15)) (C := RX12) (T := TX12) (N := 57) hx hb hg in_X12 hown X.1 hP 0 rfl rfl 15 (by decide) (hg _ wf_X12_180) (fun _ h9 => h9) rfl dX12_opens_34 ?_
    refine lv_ldc hx hb hown (hg _ wcn_X12_176) dX12_opens_37 ?_
    refine lv_iload_n hx hb dX12_opens_39 rfl (lv_at hl 1 rfl) ?_
    refine lv_imul hx hb dX12_opens_40 ?_
    obtain ⟨hi, h⟩ := ck_el h
    obtain ⟨S0_3, eS, h⟩ := lt_el h
    refine va_iast hx hb X.1 hP hD hS 8 0 rfl rfl hi dX12_opens_41 (fun H locs hP hD hS => ?_)
    have hP : va_P E.1 vwCl (cw_X12 E q0 S0_3) H := by rw [eS]; exact hP
    have hD : va_D A (cw_X12 E q0 S0_3) := by rw [eS]; exact hD
    clear eS
    refine lv_aload_n hx hb dX12_opens_42 rfl (lv_at hl 0 rfl) ?_
    refine lv_aload_n hx hb dX12_opens_43 rfl (lv_at hl 0 rfl) ?_
    refine va_get (D := E.1) (ci := 11) (v := .int (S0_3.1 15)) (C := RX12) (T := TX12) (N := 57) hx hb hg in_X12 hown X.1 hP 0 rfl rfl 15 (by decide) (hg _ wf_X12_180) (fun _ h9 => h9) rfl dX12_opens_44 ?_
    refine lv_iconst (v := 1) hx hb dX12_opens_47 (by decide) ?_
    refine lv_iadd hx hb dX12_opens_48 ?_
    obtain ⟨S0_4, eS, h⟩ := lt_el h
    refine va_put (D := E.1) (ci := 11) (v := .int ((S0_3.1 15) + 1)) (ty := .int) (C := RX12) (T := TX12) (N := 57) hx hb hg in_X12 tyX12 tyX12_ok nmX12 hown X.1 hP hD hS 0 rfl rfl 15 (by decide) (hg _ wf_X12_180) (fun _ h9 => h9) rfl (by decide +kernel) rfl rfl (Nat.le_of_ble_eq_true rfl) dX12_opens_49 (fun H locs hP hD hS => ?_)
    have hP : va_P E.1 vwCl (cw_X12 E q0 S0_4) H := by rw [eS]; exact hP
    have hD : va_D A (cw_X12 E q0 S0_4) := by rw [eS]; exact hD
    clear eS
    refine lv_aload_n hx hb dX12_opens_52 rfl (lv_at hl 0 rfl) ?_
    refine lv_aload_n hx hb dX12_opens_53 rfl (lv_at hl 0 rfl) ?_
    refine va_get (D := E.1) (ci := 11) (v := .int (S0_4.1 9)) (C := RX12) (T := TX12) (N := 57) hx hb hg in_X12 hown X.1 hP 0 rfl rfl 9 (by decide) (hg _ wf_X12_150) (fun _ h9 => h9) rfl dX12_opens_54 ?_
    refine lv_iconst (v := 1) hx hb dX12_opens_57 (by decide) ?_
    refine lv_iadd hx hb dX12_opens_58 ?_
    obtain ⟨S0_5, eS, h⟩ := lt_el h
    refine va_put (D := E.1) (ci := 11) (v := .int ((S0_4.1 9) + 1)) (ty := .int) (C := RX12) (T := TX12) (N := 57) hx hb hg in_X12 tyX12 tyX12_ok nmX12 hown X.1 hP hD hS 0 rfl rfl 9 (by decide) (hg _ wf_X12_150) (fun _ h9 => h9) rfl (by decide +kernel) rfl rfl (Nat.le_of_ble_eq_true rfl) dX12_opens_59 (fun H locs hP hD hS => ?_)
    have hP : va_P E.1 vwCl (cw_X12 E q0 S0_5) H := by rw [eS]; exact hP
    have hD : va_D A (cw_X12 E q0 S0_5) := by rw [eS]; exact hD
    clear eS
    refine lv_iconst (v := 1) hx hb dX12_opens_62 (by decide) ?_
    exact RT 1 S0_5 _ _ _ _ h (by decide +kernel) hP hD hS dX12_opens_63
  · have h := it_t h c1
    refine lv_aload_n hx hb dX12_opens_9 rfl (lv_at hl 0 rfl) ?_
    refine lv_iconst (v := 5) hx hb dX12_opens_10 (by decide) ?_
    refine lv_aload_n hx hb dX12_opens_11 rfl (lv_at hl 0 rfl) ?_
    refine va_get (D := E.1) (ci := 11) (v := .int (S0.1 9)) (C := RX12) (T := TX12) (N := 57) hx hb hg in_X12 hown X.1 hP 0 rfl rfl 9 (by decide) (hg _ wf_X12_150) (fun _ h9 => h9) rfl dX12_opens_12 ?_
    obtain ⟨u6, hc, h⟩ := bd_el h
    refine ct_iA (w1 := cw_X12 E q0 u6.2) X hP hD hS (va_runV (C := RX12) (As := [.int 5, .int (S0.1 9)]) (rest := []) ⟨hx, hb, hml, hown, hg⟩ (c_X12_wrongAt l E q0 H.size S0 5 (S0.1 9) u6 hc) (cwV 2 hg (gwV wm_X12_163 wi_X12_wrongAt wsl_X12_wrongAt wini_X12 wco_X12_wrongAt) rfl rfl rfl (by decide +kernel) ⟨Nat.le_of_ble_eq_true rfl, Nat.le_of_ble_eq_true rfl⟩) ⟨ct_blind, ct_rv X.1 hP 0 rfl rfl, ct_preA X hP hD hS _⟩ rfl rfl hl.1 rfl (lv_room (Nat.le_of_ble_eq_true rfl)) dX12_opens_15 ⟨Nat.zero_le _, Nat.zero_le _⟩) (fun H locs hP hD hS => ?_)
    obtain ⟨hn1, -, h⟩ := zb_el h
    exact RT u6.1 u6.2 _ _ _ _ h hn1 hP hD hS dX12_opens_18
