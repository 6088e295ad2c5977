theorem dX11_count_0 : decode cX11_count 0 = .ok (.iload_n 1, 1) := by decide +kernel
theorem dX11_count_1 : decode cX11_count 1 = .ok (.tableswitch 99 0 6 #[43, 51, 59, 67, 75, 83, 91], 43) := by decide +kernel
theorem dX11_count_44 : decode cX11_count 44 = .ok (.aload_n 0, 1) := by decide +kernel
theorem dX11_count_45 : decode cX11_count 45 = .ok (.getfield 71, 3) := by decide +kernel
theorem dX11_count_48 : decode cX11_count 48 = .ok (.getfield 121, 3) := by decide +kernel
theorem dX11_count_51 : decode cX11_count 51 = .ok (.ireturn, 1) := by decide +kernel
theorem dX11_count_52 : decode cX11_count 52 = .ok (.aload_n 0, 1) := by decide +kernel
theorem dX11_count_53 : decode cX11_count 53 = .ok (.getfield 71, 3) := by decide +kernel
theorem dX11_count_56 : decode cX11_count 56 = .ok (.getfield 263, 3) := by decide +kernel
theorem dX11_count_59 : decode cX11_count 59 = .ok (.ireturn, 1) := by decide +kernel
theorem dX11_count_60 : decode cX11_count 60 = .ok (.aload_n 0, 1) := by decide +kernel
theorem dX11_count_61 : decode cX11_count 61 = .ok (.getfield 71, 3) := by decide +kernel
theorem dX11_count_64 : decode cX11_count 64 = .ok (.getfield 266, 3) := by decide +kernel
theorem dX11_count_67 : decode cX11_count 67 = .ok (.ireturn, 1) := by decide +kernel
theorem dX11_count_68 : decode cX11_count 68 = .ok (.aload_n 0, 1) := by decide +kernel
theorem dX11_count_69 : decode cX11_count 69 = .ok (.getfield 61, 3) := by decide +kernel
theorem dX11_count_72 : decode cX11_count 72 = .ok (.invokevirtual 269, 3) := by decide +kernel
theorem dX11_count_75 : decode cX11_count 75 = .ok (.ireturn, 1) := by decide +kernel
theorem dX11_count_76 : decode cX11_count 76 = .ok (.aload_n 0, 1) := by decide +kernel
theorem dX11_count_77 : decode cX11_count 77 = .ok (.getfield 10, 3) := by decide +kernel
theorem dX11_count_80 : decode cX11_count 80 = .ok (.invokevirtual 104, 3) := by decide +kernel
theorem dX11_count_83 : decode cX11_count 83 = .ok (.ireturn, 1) := by decide +kernel
theorem dX11_count_84 : decode cX11_count 84 = .ok (.aload_n 0, 1) := by decide +kernel
theorem dX11_count_85 : decode cX11_count 85 = .ok (.getfield 71, 3) := by decide +kernel
theorem dX11_count_88 : decode cX11_count 88 = .ok (.getfield 125, 3) := by decide +kernel
theorem dX11_count_91 : decode cX11_count 91 = .ok (.ireturn, 1) := by decide +kernel
theorem dX11_count_92 : decode cX11_count 92 = .ok (.aload_n 0, 1) := by decide +kernel
theorem dX11_count_93 : decode cX11_count 93 = .ok (.getfield 71, 3) := by decide +kernel
theorem dX11_count_96 : decode cX11_count 96 = .ok (.invokevirtual 270, 3) := by decide +kernel
theorem dX11_count_99 : decode cX11_count 99 = .ok (.ireturn, 1) := by decide +kernel
theorem dX11_count_100 : decode cX11_count 100 = .ok (.iconst (-1), 1) := by decide +kernel
theorem dX11_count_101 : decode cX11_count 101 = .ok (.ireturn, 1) := by decide +kernel
def f_X11_count (S0 : Gr) (S1 : Gr) (S2 : Gr) (S3 : Gr) (x1 : Int32) : Option (Int32) := if x1 = 0 then (some (S1.1 9)) else if x1 = 1 then (some (S1.1 0)) else if x1 = 2 then (some (S1.1 1)) else if x1 = 3 then ((f_X3_size S2).bind fun u5 => some u5) else if x1 = 4 then ((f_X8_size S3).bind fun u7 => some u7) else if x1 = 5 then (some (S1.1 10)) else if x1 = 6 then ((f_X7_allTensions S1).bind fun u10 => some u10) else (some (-1))
set_option maxHeartbeats 4000000 in
set_option maxRecDepth 100000 in
theorem c_X11_count (l : Launch) (E : Ec) (q0 q1 q2 q3 : Nat → Nat) (t1 t2 t3 t4 t5 t6 t8 t10 t11 : Nat) (sz : Nat) (S0 : Gr) (S1 : Gr) (S2 : Gr) (S3 : Gr) (x1 : Int32) (Rv : Int32) (h : f_X11_count S0 S1 S2 S3 x1 = some Rv) : Met l yX11_count (wsM (.code yX11_count cX11_count 2 (some .int))) ({ frames := 3, cells := 0, slots := 0, locals := 66 } : Room) (va_Pc [.ref (q0 0), .int x1] (ctP E (cw_X11 E q0 (q3 0) t1 t2 t3 t4 t5 t6 (q2 0) t8 (q1 0) t10 t11 S0 ++ (cw_X7 E q1 S1 ++ (cw_X3 E q2 S2 ++ (cw_X8 E q3 S3)))) sz)) (ctI E (cw_X11 E q0 (q3 0) t1 t2 t3 t4 t5 t6 (q2 0) t8 (q1 0) t10 t11 S0 ++ (cw_X7 E q1 S1 ++ (cw_X3 E q2 S2 ++ (cw_X8 E q3 S3)))) (cw_X11 E q0 (q3 0) t1 t2 t3 t4 t5 t6 (q2 0) t8 (q1 0) t10 t11 S0 ++ (cw_X7 E q1 S1 ++ (cw_X3 E q2 S2 ++ (cw_X8 E q3 S3)))) sz Rv) 0 0 (va_A (cw_X11 E q0 (q3 0) t1 t2 t3 t4 t5 t6 (q2 0) t8 (q1 0) t10 t11 S0 ++ (cw_X7 E q1 S1 ++ (cw_X3 E q2 S2 ++ (cw_X8 E q3 S3)))) sz) := by
  refine ct_metI (by decide) (Nat.le_of_ble_eq_true rfl) ?_
  intro p e s m ar below meth c A QM hx hb hml hown hg X hP hD hS RET ls hl
  have hown : s.vm.findClass RX11 = some m.cls := hown
  have hl : lv_has ls 2 [(0, .ref (q0 0)), (1, .int x1)] := hl
  have RT : ∀ (v : Int32) (H : Heap) (locs : List Loc) (ls : Array Slot) (pc : Nat), some v = some Rv → narrow .int (.int v) = .int v → va_P E.1 vwCl (cw_X11 E q0 (q3 0) t1 t2 t3 t4 t5 t6 (q2 0) t8 (q1 0) t10 t11 S0 ++ (cw_X7 E q1 S1 ++ (cw_X3 E q2 S2 ++ (cw_X8 E q3 S3)))) H → va_D A (cw_X11 E q0 (q3 0) t1 t2 t3 t4 t5 t6 (q2 0) t8 (q1 0) t10 t11 S0 ++ (cw_X7 E q1 S1 ++ (cw_X3 E q2 S2 ++ (cw_X8 E q3 S3)))) → va_S A s.heap H locs → decode cX11_count pc = .ok (.ireturn, 1) → W p l e ({ frames := 3, cells := 0, slots := 0, locals := 66 } : Room) s m ar below meth c H locs 0 0 QM (F0 m pc ls [.int v]) := by
    intro v H locs ls pc e hn hP hD hS d
    obtain rfl := sm_e e
    exact RET H locs pc ls hn hP hD hS d
  clear RET
  obtain ⟨H, eH⟩ : ∃ z, z = s.heap := ⟨_, rfl⟩
  rw [← eH]
  have hP : va_P E.1 vwCl (cw_X11 E q0 (q3 0) t1 t2 t3 t4 t5 t6 (q2 0) t8 (q1 0) t10 t11 S0 ++ (cw_X7 E q1 S1 ++ (cw_X3 E q2 S2 ++ (cw_X8 E q3 S3)))) H := by rw [eH]; exact hP
  have hS : va_S A s.heap H [] := by rw [eH]; exact hS
  clear eH
  obtain ⟨locs, el⟩ : ∃ z : List Loc, z = [] := ⟨_, rfl⟩
  rw [← el] at hS ⊢
  clear el
  refine lv_iload_n hx hb dX11_count_0 rfl (lv_at hl 1 rfl) ?_
  by_cases c1 : x1 = 0
  · have h := it_t h c1
    refine lv_tableIn (tgt := 44) hx hb dX11_count_1 (by rw [c1]; decide) (by rw [c1]; decide) (by rw [c1] <;> rfl) (by decide) ?_
    refine lv_aload_n hx hb dX11_count_44 rfl (lv_at hl 0 rfl) ?_
    refine va_get (D := E.1) (ci := 10) (v := .ref (q1 0)) (C := RX11) (T := TX11) (N := 13) hx hb hg in_X11 hown X.1 hP 0 rfl rfl 9 (by decide) (hg _ wf_X11_71) (fun _ h9 => h9) rfl dX11_count_45 ?_
    refine va_getN (D := E.1) (ci := 6) (v := .int (S1.1 9)) (C := RX7) (T := TX7) (N := 11) hx hb hg in_X7 hown X.1 hP 1 rfl rfl 9 (by decide) (va_Nw.use rfl (nf_X11_121 X.2.1)) (fun _ h9 => h9) rfl dX11_count_48 ?_
    exact RT (S1.1 9) _ _ _ _ h rfl hP hD hS dX11_count_51
  · have h := it_f h c1
    by_cases c2 : x1 = 1
    · have h := it_t h c2
      refine lv_tableIn (tgt := 52) hx hb dX11_count_1 (by rw [c2]; decide) (by rw [c2]; decide) (by rw [c2] <;> rfl) (by decide) ?_
      refine lv_aload_n hx hb dX11_count_52 rfl (lv_at hl 0 rfl) ?_
      refine va_get (D := E.1) (ci := 10) (v := .ref (q1 0)) (C := RX11) (T := TX11) (N := 13) hx hb hg in_X11 hown X.1 hP 0 rfl rfl 9 (by decide) (hg _ wf_X11_71) (fun _ h9 => h9) rfl dX11_count_53 ?_
      refine va_getN (D := E.1) (ci := 6) (v := .int (S1.1 0)) (C := RX7) (T := TX7) (N := 11) hx hb hg in_X7 hown X.1 hP 1 rfl rfl 0 (by decide) (va_Nw.use rfl (nf_X11_263 X.2.1)) (fun _ h9 => h9) rfl dX11_count_56 ?_
      exact RT (S1.1 0) _ _ _ _ h rfl hP hD hS dX11_count_59
    · have h := it_f h c2
      by_cases c3 : x1 = 2
      · have h := it_t h c3
        refine lv_tableIn (tgt := 60) hx hb dX11_count_1 (by rw [c3]; decide) (by rw [c3]; decide) (by rw [c3] <;> rfl) (by decide) ?_
        refine lv_aload_n hx hb dX11_count_60 rfl (lv_at hl 0 rfl) ?_
        refine va_get (D := E.1) (ci := 10) (v := .ref (q1 0)) (C := RX11) (T := TX11) (N := 13) hx hb hg in_X11 hown X.1 hP 0 rfl rfl 9 (by decide) (hg _ wf_X11_71) (fun _ h9 => h9) rfl dX11_count_61 ?_
        refine va_getN (D := E.1) (ci := 6) (v := .int (S1.1 1)) (C := RX7) (T := TX7) (N := 11) hx hb hg in_X7 hown X.1 hP 1 rfl rfl 1 (by decide) (va_Nw.use rfl (nf_X11_266 X.2.1)) (fun _ h9 => h9) rfl dX11_count_64 ?_
        exact RT (S1.1 1) _ _ _ _ h rfl hP hD hS dX11_count_67
      · have h := it_f h c3
        by_cases c4 : x1 = 3
        · have h := it_t h c4
          refine lv_tableIn (tgt := 68) hx hb dX11_count_1 (by rw [c4]; decide) (by rw [c4]; decide) (by rw [c4] <;> rfl) (by decide) ?_
          refine lv_aload_n hx hb dX11_count_68 rfl (lv_at hl 0 rfl) ?_
          refine va_get (D := E.1) (ci := 10) (v := .ref (q2 0)) (C := RX11) (T := TX11) (N := 13) hx hb hg in_X11 hown X.1 hP 0 rfl rfl 7 (by decide) (hg _ wf_X11_61) (fun _ h9 => h9) rfl dX11_count_69 ?_
          obtain ⟨u5, hc, h⟩ := bd_el h
          have hC : ([9, 10, 11, 12, 13, 14, 15, 16] : List Nat).map (fun i => (cw_X11 E q0 (q3 0) t1 t2 t3 t4 t5 t6 (q2 0) t8 (q1 0) t10 t11 S0 ++ (cw_X7 E q1 S1 ++ (cw_X3 E q2 S2 ++ (cw_X8 E q3 S3))))[i]?) = (cw_X3 E q2 S2).map some := rfl
          refine ct_iR X hP hD hS [9, 10, 11, 12, 13, 14, 15, 16] hC (va_runV (C := RX3) (As := []) (rest := []) ⟨hx, hb, hml, hown, hg⟩ (c_X3_size l E q2 H.size S2 u5 hc) (cwV 0 hg (gwV wm_X11_269 wi_X3_size wsl_X3_size wini_X3 wco_X3_size) rfl rfl rfl (by decide +kernel) ⟨Nat.le_of_ble_eq_true rfl, Nat.le_of_ble_eq_true rfl⟩) ⟨ct_blind, ct_rv X.1 hP 9 rfl rfl, ct_pre X hP hD hS [9, 10, 11, 12, 13, 14, 15, 16] (by decide) hC _⟩ rfl rfl hl.1 rfl (lv_room (Nat.le_of_ble_eq_true rfl)) dX11_count_72 ⟨Nat.zero_le _, Nat.zero_le _⟩) (fun H locs hP hD hS => ?_)
          clear hC
          exact RT u5 _ _ _ _ h rfl hP hD hS dX11_count_75
        · have h := it_f h c4
          by_cases c6 : x1 = 4
          · have h := it_t h c6
            refine lv_tableIn (tgt := 76) hx hb dX11_count_1 (by rw [c6]; decide) (by rw [c6]; decide) (by rw [c6] <;> rfl) (by decide) ?_
            refine lv_aload_n hx hb dX11_count_76 rfl (lv_at hl 0 rfl) ?_
            refine va_get (D := E.1) (ci := 10) (v := .ref (q3 0)) (C := RX11) (T := TX11) (N := 13) hx hb hg in_X11 hown X.1 hP 0 rfl rfl 0 (by decide) (hg _ wf_X11_10) (fun _ h9 => h9) rfl dX11_count_77 ?_
            obtain ⟨u7, hc, h⟩ := bd_el h
            have hC : ([17, 18] : List Nat).map (fun i => (cw_X11 E q0 (q3 0) t1 t2 t3 t4 t5 t6 (q2 0) t8 (q1 0) t10 t11 S0 ++ (cw_X7 E q1 S1 ++ (cw_X3 E q2 S2 ++ (cw_X8 E q3 S3))))[i]?) = (cw_X8 E q3 S3).map some := rfl
            refine ct_iR X hP hD hS [17, 18] hC (va_runV (C := RX8) (As := []) (rest := []) ⟨hx, hb, hml, hown, hg⟩ (c_X8_size l E q3 H.size S3 u7 hc) (cwV 0 hg (gwV wm_X11_104 wi_X8_size wsl_X8_size wini_X8 wco_X8_size) rfl rfl rfl (by decide +kernel) ⟨Nat.le_of_ble_eq_true rfl, Nat.le_of_ble_eq_true rfl⟩) ⟨ct_blind, ct_rv X.1 hP 17 rfl rfl, ct_pre X hP hD hS [17, 18] (by decide) hC _⟩ rfl rfl hl.1 rfl (lv_room (Nat.le_of_ble_eq_true rfl)) dX11_count_80 ⟨Nat.zero_le _, Nat.zero_le _⟩) (fun H locs hP hD hS => ?_)
            clear hC
            exact RT u7 _ _ _ _ h rfl hP hD hS dX11_count_83
          · have h := it_f h c6
            by_cases c8 : x1 = 5
            · have h := it_t h c8
              refine lv_tableIn (tgt := 84) hx hb dX11_count_1 (by rw [c8]; decide) (by rw [c8]; decide) (by rw [c8] <;> rfl) (by decide) ?_
              refine lv_aload_n hx hb dX11_count_84 rfl (lv_at hl 0 rfl) ?_
              refine va_get (D := E.1) (ci := 10) (v := .ref (q1 0)) (C := RX11) (T := TX11) (N := 13) hx hb hg in_X11 hown X.1 hP 0 rfl rfl 9 (by decide) (hg _ wf_X11_71) (fun _ h9 => h9) rfl dX11_count_85 ?_
              refine va_getN (D := E.1) (ci := 6) (v := .int (S1.1 10)) (C := RX7) (T := TX7) (N := 11) hx hb hg in_X7 hown X.1 hP 1 rfl rfl 10 (by decide) (va_Nw.use rfl (nf_X11_125 X.2.1)) (fun _ h9 => h9) rfl dX11_count_88 ?_
              exact RT (S1.1 10) _ _ _ _ h rfl hP hD hS dX11_count_91
            · have h := it_f h c8
              by_cases c9 : x1 = 6
              · have h := it_t h c9
                refine lv_tableIn (tgt := 92) hx hb dX11_count_1 (by rw [c9]; decide) (by rw [c9]; decide) (by rw [c9] <;> rfl) (by decide) ?_
                refine lv_aload_n hx hb dX11_count_92 rfl (lv_at hl 0 rfl) ?_
                refine va_get (D := E.1) (ci := 10) (v := .ref (q1 0)) (C := RX11) (T := TX11) (N := 13) hx hb hg in_X11 hown X.1 hP 0 rfl rfl 9 (by decide) (hg _ wf_X11_71) (fun _ h9 => h9) rfl dX11_count_93 ?_
                obtain ⟨u10, hc, h⟩ := bd_el h
                have hC : ([1, 2, 3, 4, 5, 6, 7, 8] : List Nat).map (fun i => (cw_X11 E q0 (q3 0) t1 t2 t3 t4 t5 t6 (q2 0) t8 (q1 0) t10 t11 S0 ++ (cw_X7 E q1 S1 ++ (cw_X3 E q2 S2 ++ (cw_X8 E q3 S3))))[i]?) = (cw_X7 E q1 S1).map some := rfl
                refine ct_iR X hP hD hS [1, 2, 3, 4, 5, 6, 7, 8] hC (va_runV (C := RX7) (As := []) (rest := []) ⟨hx, hb, hml, hown, hg⟩ (c_X7_allTensions l E q1 H.size S1 u10 hc) (cwV 0 hg (gwV wm_X11_270 wi_X7_allTensions wsl_X7_allTensions wini_X7 wco_X7_allTensions) rfl rfl rfl (by decide +kernel) ⟨Nat.le_of_ble_eq_true rfl, Nat.le_of_ble_eq_true rfl⟩) ⟨ct_blind, ct_rv X.1 hP 1 rfl rfl, ct_pre X hP hD hS [1, 2, 3, 4, 5, 6, 7, 8] (by decide) hC _⟩ rfl rfl hl.1 rfl (lv_room (Nat.le_of_ble_eq_true rfl)) dX11_count_96 ⟨Nat.zero_le _, Nat.zero_le _⟩) (fun H locs hP hD hS => ?_)
                clear hC
                exact RT u10 _ _ _ _ h rfl hP hD hS dX11_count_99
              · have h := it_f h c9
                have ho : (x1).toInt < 0 ∨ 6 < (x1).toInt := by
                  by_cases h1 : (x1).toInt < 0
                  · exact Or.inl h1
                  by_cases h2 : 6 < (x1).toInt
                  · exact Or.inr h2
                  have h3 : (x1).toInt = 0 ∨ (x1).toInt = 1 ∨ (x1).toInt = 2 ∨ (x1).toInt = 3 ∨ (x1).toInt = 4 ∨ (x1).toInt = 5 ∨ (x1).toInt = 6 := by omega
                  rcases h3 with h3 | h3 | h3 | h3 | h3 | h3 | h3
                  · exact absurd (Int32.toInt_inj.mp (h3.trans (by decide))) c1
                  · exact absurd (Int32.toInt_inj.mp (h3.trans (by decide))) c2
                  · exact absurd (Int32.toInt_inj.mp (h3.trans (by decide))) c3
                  · exact absurd (Int32.toInt_inj.mp (h3.trans (by decide))) c4
                  · exact absurd (Int32.toInt_inj.mp (h3.trans (by decide))) c6
                  · exact absurd (Int32.toInt_inj.mp (h3.trans (by decide))) c8
                  · exact absurd (Int32.toInt_inj.mp (h3.trans (by decide))) c9
                refine lv_tableOut (tgt := 100) hx hb dX11_count_1 ho (by decide) ?_
                refine lv_iconst (v := (-1)) hx hb dX11_count_100 (by decide) ?_
                exact RT (-1) _ _ _ _ h rfl hP hD hS dX11_count_101
theorem dX11_when_0 : decode cX11_when 0 = .ok (.aload_n 0, 1) := by decide +kernel
theorem dX11_when_1 : decode cX11_when 1 = .ok (.getfield 71, 3) := by decide +kernel
theorem dX11_when_4 : decode cX11_when 4 = .ok (.iload_n 1, 1) := by decide +kernel
theorem dX11_when_5 : decode cX11_when 5 = .ok (.invokevirtual 85, 3) := by decide +kernel
theorem dX11_when_8 : decode cX11_when 8 = .ok (.ifCond .eq 24, 3) := by decide +kernel
theorem dX11_when_11 : decode cX11_when 11 = .ok (.aload_n 0, 1) := by decide +kernel
theorem dX11_when_12 : decode cX11_when 12 = .ok (.getfield 71, 3) := by decide +kernel
theorem dX11_when_15 : decode cX11_when 15 = .ok (.iload_n 2, 1) := by decide +kernel
theorem dX11_when_16 : decode cX11_when 16 = .ok (.invokevirtual 152, 3) := by decide +kernel
theorem dX11_when_19 : decode cX11_when 19 = .ok (.ifCond .eq 13, 3) := by decide +kernel
theorem dX11_when_22 : decode cX11_when 22 = .ok (.iload_n 3, 1) := by decide +kernel
theorem dX11_when_23 : decode cX11_when 23 = .ok (.iconst 1, 1) := by decide +kernel
theorem dX11_when_24 : decode cX11_when 24 = .ok (.bipush 100, 2) := by decide +kernel
theorem dX11_when_26 : decode cX11_when 26 = .ok (.invokestatic 89, 3) := by decide +kernel
theorem dX11_when_29 : decode cX11_when 29 = .ok (.ifCond .ne 5, 3) := by decide +kernel
theorem dX11_when_32 : decode cX11_when 32 = .ok (.iconst (-1), 1) := by decide +kernel
theorem dX11_when_33 : decode cX11_when 33 = .ok (.ireturn, 1) := by decide +kernel
theorem dX11_when_34 : decode cX11_when 34 = .ok (.aload_n 0, 1) := by decide +kernel
theorem dX11_when_35 : decode cX11_when 35 = .ok (.getfield 75, 3) := by decide +kernel
theorem dX11_when_38 : decode cX11_when 38 = .ok (.aload_n 0, 1) := by decide +kernel
theorem dX11_when_39 : decode cX11_when 39 = .ok (.getfield 71, 3) := by decide +kernel
theorem dX11_when_42 : decode cX11_when 42 = .ok (.invokevirtual 135, 3) := by decide +kernel
theorem dX11_when_45 : decode cX11_when 45 = .ok (.iconst 0, 1) := by decide +kernel
theorem dX11_when_46 : decode cX11_when 46 = .ok (.istore 4, 2) := by decide +kernel
theorem dX11_when_48 : decode cX11_when 48 = .ok (.iload 4, 2) := by decide +kernel
theorem dX11_when_50 : decode cX11_when 50 = .ok (.iload_n 3, 1) := by decide +kernel
theorem dX11_when_51 : decode cX11_when 51 = .ok (.if_icmp .gt 32, 3) := by decide +kernel
theorem dX11_when_54 : decode cX11_when 54 = .ok (.aload_n 0, 1) := by decide +kernel
theorem dX11_when_55 : decode cX11_when 55 = .ok (.getfield 75, 3) := by decide +kernel
theorem dX11_when_58 : decode cX11_when 58 = .ok (.iload_n 1, 1) := by decide +kernel
theorem dX11_when_59 : decode cX11_when 59 = .ok (.iload_n 2, 1) := by decide +kernel
theorem dX11_when_60 : decode cX11_when 60 = .ok (.invokevirtual 179, 3) := by decide +kernel
theorem dX11_when_63 : decode cX11_when 63 = .ok (.ifCond .le 6, 3) := by decide +kernel
theorem dX11_when_66 : decode cX11_when 66 = .ok (.iload 4, 2) := by decide +kernel
theorem dX11_when_68 : decode cX11_when 68 = .ok (.ireturn, 1) := by decide +kernel
theorem dX11_when_69 : decode cX11_when 69 = .ok (.aload_n 0, 1) := by decide +kernel
theorem dX11_when_70 : decode cX11_when 70 = .ok (.getfield 75, 3) := by decide +kernel
theorem dX11_when_73 : decode cX11_when 73 = .ok (.iload_n 2, 1) := by decide +kernel
theorem dX11_when_74 : decode cX11_when 74 = .ok (.invokevirtual 182, 3) := by decide +kernel
theorem dX11_when_77 : decode cX11_when 77 = .ok (.iinc 4 1, 3) := by decide +kernel
theorem dX11_when_80 : decode cX11_when 80 = .ok (.goto (-32), 3) := by decide +kernel
theorem dX11_when_83 : decode cX11_when 83 = .ok (.bipush (-2), 2) := by decide +kernel
theorem dX11_when_85 : decode cX11_when 85 = .ok (.ireturn, 1) := by decide +kernel
def f_X11_when_n48 (S0 : Gr) (S1 : Gr) (x1 : Int32) (x2 : Int32) (x3 : Int32) : Nat → Gr → Int32 → Option (Int32 × Gr)
  | 0, _, _ => none
  | n + 1, S2, x4 => if x3 < x4 then (some ((-2), S2)) else ((f_X7_felt S2 x1 x2).bind fun u9 => if u9 ≤ 0 then ((f_X7_moveFleet S2 x2).bind fun u11 => lt' (x4 + 1) fun v12 => f_X11_when_n48 S0 S1 x1 x2 x3 n u11 v12) else (some (x4, S2)))
def f_X11_when (S0 : Gr) (S1 : Gr) (S2 : Gr) (x1 : Int32) (x2 : Int32) (x3 : Int32) : Option (Int32 × Gr) := (f_X7_hasWeb S1 x1).bind fun u1 => if u1 = 0 then (some ((-1), S2)) else ((f_X7_hasFleet S1 x2).bind fun u3 => if u3 = 0 then (some ((-1), S2)) else ((f_X11_within x3 1 100).bind fun u5 => if u5 = 0 then (some ((-1), S2)) else ((f_X7_copyFrom S2 S1).bind fun u7 => f_X11_when_n48 S0 S1 x1 x2 x3 fu u7 0)))
set_option maxHeartbeats 4000000 in
set_option maxRecDepth 100000 in
theorem c_X11_when (l : Launch) (E : Ec) (q0 q1 q2 : Nat → Nat) (t0 t1 t2 t3 t4 t5 t6 t7 t8 t11 : Nat) (sz : Nat) (S0 : Gr) (S1 : Gr) (S2 : Gr) (x1 : Int32) (x2 : Int32) (x3 : Int32) (Rv : Int32 × Gr) (h : f_X11_when S0 S1 S2 x1 x2 x3 = some Rv) : Met l yX11_when (wsM (.code yX11_when cX11_when 5 (some .int))) ({ frames := 4, cells := 0, slots := 0, locals := 95 } : Room) (va_Pc [.ref (q0 0), .int x1, .int x2, .int x3] (ctP E (cw_X11 E q0 t0 t1 t2 t3 t4 t5 t6 t7 t8 (q1 0) (q2 0) t11 S0 ++ (cw_X7 E q1 S1 ++ (cw_X7 E q2 S2))) sz)) (ctI E (cw_X11 E q0 t0 t1 t2 t3 t4 t5 t6 t7 t8 (q1 0) (q2 0) t11 S0 ++ (cw_X7 E q1 S1 ++ (cw_X7 E q2 S2))) (cw_X11 E q0 t0 t1 t2 t3 t4 t5 t6 t7 t8 (q1 0) (q2 0) t11 S0 ++ (cw_X7 E q1 S1 ++ (cw_X7 E q2 Rv.2))) sz Rv.1) 0 0 (va_A (cw_X11 E q0 t0 t1 t2 t3 t4 t5 t6 t7 t8 (q1 0) (q2 0) t11 S0 ++ (cw_X7 E q1 S1 ++ (cw_X7 E q2 S2))) sz) := by
  refine ct_metI (by decide) (Nat.le_of_ble_eq_true rfl) ?_
  intro p e s m ar below meth c A QM hx hb hml hown hg X hP hD hS RET ls hl
  have hown : s.vm.findClass RX11 = some m.cls := hown
  have hl : lv_has ls 5 [(0, .ref (q0 0)), (1, .int x1), (2, .int x2), (3, .int x3)] := hl
  have RT : ∀ (v : Int32) (S2 : Gr) (H : Heap) (locs : List Loc) (ls : Array Slot) (pc : Nat), some (v, S2) = some Rv → narrow .int (.int v) = .int v → va_P E.1 vwCl (cw_X11 E q0 t0 t1 t2 t3 t4 t5 t6 t7 t8 (q1 0) (q2 0) t11 S0 ++ (cw_X7 E q1 S1 ++ (cw_X7 E q2 S2))) H → va_D A (cw_X11 E q0 t0 t1 t2 t3 t4 t5 t6 t7 t8 (q1 0) (q2 0) t11 S0 ++ (cw_X7 E q1 S1 ++ (cw_X7 E q2 S2))) → va_S A s.heap H locs → decode cX11_when pc = .ok (.ireturn, 1) → W p l e ({ frames := 4, cells := 0, slots := 0, locals := 95 } : Room) s m ar below meth c H locs 0 0 QM (F0 m pc ls [.int v]) := by
    intro v S2 H locs ls pc e hn hP hD hS d
    obtain rfl := sm_e e
    exact RET H locs pc ls hn hP hD hS d
  clear RET
  have N48 : ∀ (n : Nat) (S2 : Gr) (x4 : Int32) (H : Heap) (locs : List Loc) (ls : Array Slot), f_X11_when_n48 S0 S1 x1 x2 x3 n S2 x4 = some Rv → va_P E.1 vwCl (cw_X11 E q0 t0 t1 t2 t3 t4 t5 t6 t7 t8 (q1 0) (q2 0) t11 S0 ++ (cw_X7 E q1 S1 ++ (cw_X7 E q2 S2))) H → va_D A (cw_X11 E q0 t0 t1 t2 t3 t4 t5 t6 t7 t8 (q1 0) (q2 0) t11 S0 ++ (cw_X7 E q1 S1 ++ (cw_X7 E q2 S2))) → va_S A s.heap H locs → lv_has ls 5 [(0, .ref (q0 0)), (1, .int x1), (2, .int x2), (3, .int x3), (4, .int x4)] → W p l e ({ frames := 4, cells := 0, slots := 0, locals := 95 } : Room) s m ar below meth c H locs 0 0 QM (F0 m 48 ls []) := by
    intro n
    induction n with
    | zero => intro S2 x4 H locs ls h; exact nn_el h
    | succ n ih =>
      intro S2 x4 H locs ls h hP hD hS hl
      refine lv_iload hx hb dX11_when_48 (lv_at hl 4 rfl) ?_
      refine lv_iload_n hx hb dX11_when_50 rfl (lv_at hl 3 rfl) ?_
      refine lv_icmp_gt (tgt := 83) hx hb dX11_when_51 (by decide) (fun c8 => ?_) (fun c8 => ?_)
      · have h := it_t h c8
        refine lv_bipush (v := (-2)) hx hb dX11_when_83 (by decide) ?_
        exact RT (-2) S2 _ _ _ _ h rfl hP hD hS dX11_when_85
      · have h := it_f h c8
        refine lv_aload_n hx hb dX11_when_54 rfl (lv_at hl 0 rfl) ?_
        refine va_get (D := E.1) (ci := 10) (v := .ref (q2 0)) (C := RX11) (T := TX11) (N := 13) hx hb hg in_X11 hown X.1 hP 0 rfl rfl 10 (by decide) (hg _ wf_X11_75) (fun _ h9 => h9) rfl dX11_when_55 ?_
        refine lv_iload_n hx hb dX11_when_58 rfl (lv_at hl 1 rfl) ?_
        refine lv_iload_n hx hb dX11_when_59 rfl (lv_at hl 2 rfl) ?_
        obtain ⟨u9, hc, h⟩ := bd_el h
        have hC : ([9, 10, 11, 12, 13, 14, 15, 16] : List Nat).map (fun i => (cw_X11 E q0 t0 t1 t2 t3 t4 t5 t6 t7 t8 (q1 0) (q2 0) t11 S0 ++ (cw_X7 E q1 S1 ++ (cw_X7 E q2 S2)))[i]?) = (cw_X7 E q2 S2).map some := rfl
        refine ct_iR X hP hD hS [9, 10, 11, 12, 13, 14, 15, 16] hC (va_runV (C := RX7) (As := [.int x1, .int x2]) (rest := []) ⟨hx, hb, hml, hown, hg⟩ (c_X7_felt l E q2 H.size S2 x1 x2 u9 hc) (cwV 2 hg (gwV wm_X11_179 wi_X7_felt wsl_X7_felt wini_X7 wco_X7_felt) rfl rfl rfl (by decide +kernel) ⟨Nat.le_of_ble_eq_true rfl, Nat.le_of_ble_eq_true rfl⟩) ⟨ct_blind, ct_rv X.1 hP 9 rfl rfl, ct_pre X hP hD hS [9, 10, 11, 12, 13, 14, 15, 16] (by decide) hC _⟩ rfl rfl hl.1 rfl (lv_room (Nat.le_of_ble_eq_true rfl)) dX11_when_60 ⟨Nat.zero_le _, Nat.zero_le _⟩) (fun H locs hP hD hS => ?_)
        clear hC
        refine lv_if_le (tgt := 69) hx hb dX11_when_63 (by decide) (fun c10 => ?_) (fun c10 => ?_)
        · have h := it_t h c10
          refine lv_aload_n hx hb dX11_when_69 rfl (lv_at hl 0 rfl) ?_
          refine va_get (D := E.1) (ci := 10) (v := .ref (q2 0)) (C := RX11) (T := TX11) (N := 13) hx hb hg in_X11 hown X.1 hP 0 rfl rfl 10 (by decide) (hg _ wf_X11_75) (fun _ h9 => h9) rfl dX11_when_70 ?_
          refine lv_iload_n hx hb dX11_when_73 rfl (lv_at hl 2 rfl) ?_
          obtain ⟨u11, hc, h⟩ := bd_el h
          have hC : ([9, 10, 11, 12, 13, 14, 15, 16] : List Nat).map (fun i => (cw_X11 E q0 t0 t1 t2 t3 t4 t5 t6 t7 t8 (q1 0) (q2 0) t11 S0 ++ (cw_X7 E q1 S1 ++ (cw_X7 E q2 S2)))[i]?) = (cw_X7 E q2 S2).map some := rfl
          refine ct_v (ws' := cw_X11 E q0 t0 t1 t2 t3 t4 t5 t6 t7 t8 (q1 0) (q2 0) t11 S0 ++ (cw_X7 E q1 S1 ++ (cw_X7 E q2 u11))) X hP hD hS [9, 10, 11, 12, 13, 14, 15, 16] (va_runV (C := RX7) (As := [.int x2]) (rest := []) ⟨hx, hb, hml, hown, hg⟩ (c_X7_moveFleet l E q2 H.size S2 x2 u11 hc) (cwV 1 hg (gwV wm_X11_182 wi_X7_moveFleet wsl_X7_moveFleet wini_X7 wco_X7_moveFleet) rfl rfl rfl (by decide +kernel) ⟨Nat.le_of_ble_eq_true rfl, Nat.le_of_ble_eq_true rfl⟩) ⟨ct_blind, ct_rv X.1 hP 9 rfl rfl, ct_pre X hP hD hS [9, 10, 11, 12, 13, 14, 15, 16] (by decide) hC _⟩ rfl rfl hl.1 rfl (lv_room (Nat.le_of_ble_eq_true rfl)) dX11_when_74 ⟨Nat.zero_le _, Nat.zero_le _⟩) hC rfl rfl (fun H locs hP hD hS => ?_)
          clear hC
          obtain ⟨v12, ev12, h⟩ := lt_el h
          refine lv_iinc (v := v12) (lv' := [(4, .int v12), (0, .ref (q0 0)), (1, .int x1), (2, .int x2), (3, .int x3)]) hx hb dX11_when_77 hl (k := 4) rfl (by rw [ev12]; rfl) (by decide) rfl (fun ls hl => ?_)
          refine lv_goto (tgt := 48) hx hb dX11_when_80 (by decide) ?_
          exact ih u11 v12 _ _ _ h hP hD hS (lv_sub hl [1, 2, 3, 4, 0] rfl)
        · have h := it_f h c10
          refine lv_iload hx hb dX11_when_66 (lv_at hl 4 rfl) ?_
          exact RT x4 S2 _ _ _ _ h rfl hP hD hS dX11_when_68
  obtain ⟨H, eH⟩ : ∃ z, z = s.heap := ⟨_, rfl⟩
  rw [← eH]
  have hP : va_P E.1 vwCl (cw_X11 E q0 t0 t1 t2 t3 t4 t5 t6 t7 t8 (q1 0) (q2 0) t11 S0 ++ (cw_X7 E q1 S1 ++ (cw_X7 E q2 S2))) H := by rw [eH]; exact hP
  have hS : va_S A s.heap H [] := by rw [eH]; exact hS
  clear eH
  obtain ⟨locs, el⟩ : ∃ z : List Loc, z = [] := ⟨_, rfl⟩
  rw [← el] at hS ⊢
  clear el
  refine lv_aload_n hx hb dX11_when_0 rfl (lv_at hl 0 rfl) ?_
  refine va_get (D := E.1) (ci := 10) (v := .ref (q1 0)) (C := RX11) (T := TX11) (N := 13) hx hb hg in_X11 hown X.1 hP 0 rfl rfl 9 (by decide) (hg _ wf_X11_71) (fun _ h9 => h9) rfl dX11_when_1 ?_
  refine lv_iload_n hx hb dX11_when_4 rfl (lv_at hl 1 rfl) ?_
  obtain ⟨u1, hc, h⟩ := bd_el h
  have hC : ([1, 2, 3, 4, 5, 6, 7, 8] : List Nat).map (fun i => (cw_X11 E q0 t0 t1 t2 t3 t4 t5 t6 t7 t8 (q1 0) (q2 0) t11 S0 ++ (cw_X7 E q1 S1 ++ (cw_X7 E q2 S2)))[i]?) = (cw_X7 E q1 S1).map some := rfl
  refine ct_iR X hP hD hS [1, 2, 3, 4, 5, 6, 7, 8] hC (va_runV (C := RX7) (As := [.int x1]) (rest := []) ⟨hx, hb, hml, hown, hg⟩ (c_X7_hasWeb l E q1 H.size S1 x1 u1 hc) (cwV 1 hg (gwV wm_X11_85 wi_X7_hasWeb wsl_X7_hasWeb wini_X7 wco_X7_hasWeb) rfl rfl rfl (by decide +kernel) ⟨Nat.le_of_ble_eq_true rfl, Nat.le_of_ble_eq_true rfl⟩) ⟨ct_blind, ct_rv X.1 hP 1 rfl rfl, ct_pre X hP hD hS [1, 2, 3, 4, 5, 6, 7, 8] (by decide) hC _⟩ rfl rfl hl.1 rfl (lv_room (Nat.le_of_ble_eq_true rfl)) dX11_when_5 ⟨Nat.zero_le _, Nat.zero_le _⟩) (fun H locs hP hD hS => ?_)
  clear hC
  refine lv_if_eq (tgt := 32) hx hb dX11_when_8 (by decide) (fun c2 => ?_) (fun c2 => ?_)
  · have h := it_t h c2
    refine lv_iconst (v := (-1)) hx hb dX11_when_32 (by decide) ?_
    exact RT (-1) S2 _ _ _ _ h rfl hP hD hS dX11_when_33
  · have h := it_f h c2
    refine lv_aload_n hx hb dX11_when_11 rfl (lv_at hl 0 rfl) ?_
    refine va_get (D := E.1) (ci := 10) (v := .ref (q1 0)) (C := RX11) (T := TX11) (N := 13) hx hb hg in_X11 hown X.1 hP 0 rfl rfl 9 (by decide) (hg _ wf_X11_71) (fun _ h9 => h9) rfl dX11_when_12 ?_
    refine lv_iload_n hx hb dX11_when_15 rfl (lv_at hl 2 rfl) ?_
    obtain ⟨u3, hc, h⟩ := bd_el h
    have hC : ([1, 2, 3, 4, 5, 6, 7, 8] : List Nat).map (fun i => (cw_X11 E q0 t0 t1 t2 t3 t4 t5 t6 t7 t8 (q1 0) (q2 0) t11 S0 ++ (cw_X7 E q1 S1 ++ (cw_X7 E q2 S2)))[i]?) = (cw_X7 E q1 S1).map some := rfl
    refine ct_iR X hP hD hS [1, 2, 3, 4, 5, 6, 7, 8] hC (va_runV (C := RX7) (As := [.int x2]) (rest := []) ⟨hx, hb, hml, hown, hg⟩ (c_X7_hasFleet l E q1 H.size S1 x2 u3 hc) (cwV 1 hg (gwV wm_X11_152 wi_X7_hasFleet wsl_X7_hasFleet wini_X7 wco_X7_hasFleet) rfl rfl rfl (by decide +kernel) ⟨Nat.le_of_ble_eq_true rfl, Nat.le_of_ble_eq_true rfl⟩) ⟨ct_blind, ct_rv X.1 hP 1 rfl rfl, ct_pre X hP hD hS [1, 2, 3, 4, 5, 6, 7, 8] (by decide) hC _⟩ rfl rfl hl.1 rfl (lv_room (Nat.le_of_ble_eq_true rfl)) dX11_when_16 ⟨Nat.zero_le _, Nat.zero_le _⟩) (fun H locs hP hD hS => ?_)
    clear hC
    refine lv_if_eq (tgt := 32) hx hb dX11_when_19 (by decide) (fun c4 => ?_) (fun c4 => ?_)
    · have h := it_t h c4
      refine lv_iconst (v := (-1)) hx hb dX11_when_32 (by decide) ?_
      exact RT (-1) S2 _ _ _ _ h rfl hP hD hS dX11_when_33
    · have h := it_f h c4
      refine lv_iload_n hx hb dX11_when_22 rfl (lv_at hl 3 rfl) ?_
      refine lv_iconst (v := 1) hx hb dX11_when_23 (by decide) ?_
      refine lv_bipush (v := 100) hx hb dX11_when_24 (by decide) ?_
      obtain ⟨u5, hc, h⟩ := bd_el h
      refine ct_iN X hP hD hS (va_runS (As := [.int x3, .int 1, .int 100]) (rest := []) ⟨hx, hb, hml, hown, hg⟩ (c_X11_within l E  H.size x3 1 100 u5 hc) (va_cwS 3 hg (gwS wm_X11_89 wst_X11_within wini_X11 wco_X11_within) rfl rfl rfl (by decide +kernel) ⟨Nat.le_of_ble_eq_true rfl, Nat.le_of_ble_eq_true rfl⟩) ⟨ct_blind, ct_preN X hS _⟩ rfl rfl hl.1 rfl (lv_room (Nat.le_of_ble_eq_true rfl)) dX11_when_26 ⟨Nat.zero_le _, Nat.zero_le _⟩) (fun H locs hP hD hS => ?_)
      refine lv_if_ne (tgt := 34) hx hb dX11_when_29 (by decide) (fun c6 => ?_) (fun c6 => ?_)
      · have h := it_f h c6
        refine lv_aload_n hx hb dX11_when_34 rfl (lv_at hl 0 rfl) ?_
        refine va_get (D := E.1) (ci := 10) (v := .ref (q2 0)) (C := RX11) (T := TX11) (N := 13) hx hb hg in_X11 hown X.1 hP 0 rfl rfl 10 (by decide) (hg _ wf_X11_75) (fun _ h9 => h9) rfl dX11_when_35 ?_
        refine lv_aload_n hx hb dX11_when_38 rfl (lv_at hl 0 rfl) ?_
        refine va_get (D := E.1) (ci := 10) (v := .ref (q1 0)) (C := RX11) (T := TX11) (N := 13) hx hb hg in_X11 hown X.1 hP 0 rfl rfl 9 (by decide) (hg _ wf_X11_71) (fun _ h9 => h9) rfl dX11_when_39 ?_
        obtain ⟨u7, hc, h⟩ := bd_el h
        have hC : ([9, 10, 11, 12, 13, 14, 15, 16, 1, 2, 3, 4, 5, 6, 7, 8] : List Nat).map (fun i => (cw_X11 E q0 t0 t1 t2 t3 t4 t5 t6 t7 t8 (q1 0) (q2 0) t11 S0 ++ (cw_X7 E q1 S1 ++ (cw_X7 E q2 S2)))[i]?) = (cw_X7 E q2 S2 ++ (cw_X7 E q1 S1)).map some := rfl
        refine ct_v (ws' := cw_X11 E q0 t0 t1 t2 t3 t4 t5 t6 t7 t8 (q1 0) (q2 0) t11 S0 ++ (cw_X7 E q1 S1 ++ (cw_X7 E q2 u7))) X hP hD hS [9, 10, 11, 12, 13, 14, 15, 16, 1, 2, 3, 4, 5, 6, 7, 8] (va_runV (C := RX7) (As := [.ref (q1 0)]) (rest := []) ⟨hx, hb, hml, hown, hg⟩ (c_X7_copyFrom l E q2 q1 H.size S2 S1 u7 hc) (cwV 1 hg (gwV wm_X11_135 wi_X7_copyFrom wsl_X7_copyFrom wini_X7 wco_X7_copyFrom) rfl rfl rfl (by decide +kernel) ⟨Nat.le_of_ble_eq_true rfl, Nat.le_of_ble_eq_true rfl⟩) ⟨ct_blind, ct_rv X.1 hP 9 rfl rfl, ct_pre X hP hD hS [9, 10, 11, 12, 13, 14, 15, 16, 1, 2, 3, 4, 5, 6, 7, 8] (by decide) hC _⟩ rfl rfl hl.1 rfl (lv_room (Nat.le_of_ble_eq_true rfl)) dX11_when_42 ⟨Nat.zero_le _, Nat.zero_le _⟩) hC rfl rfl (fun H locs hP hD hS => ?_)
        clear hC
        refine lv_iconst (v := 0) hx hb dX11_when_45 (by decide) ?_
        refine lv_istore (lv' := [(4, .int 0), (0, .ref (q0 0)), (1, .int x1), (2, .int x2), (3, .int x3)]) hx hb dX11_when_46 hl (by decide) rfl (fun ls hl => ?_)
        exact N48 fu u7 0 _ _ _ h hP hD hS (lv_sub hl [1, 2, 3, 4, 0] rfl)
      · have h := it_t h c6
        refine lv_iconst (v := (-1)) hx hb dX11_when_32 (by decide) ?_
        exact RT (-1) S2 _ _ _ _ h rfl hP hD hS dX11_when_33
