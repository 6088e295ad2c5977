theorem dX12_chart_0 : decode cX12_chart 0 = .ok (.iload_n 1, 1) := by decide +kernel
theorem dX12_chart_1 : decode cX12_chart 1 = .ok (.iconst 1, 1) := by decide +kernel
theorem dX12_chart_2 : decode cX12_chart 2 = .ok (.sipush 160, 3) := by decide +kernel
theorem dX12_chart_5 : decode cX12_chart 5 = .ok (.invokestatic 110, 3) := by decide +kernel
theorem dX12_chart_8 : decode cX12_chart 8 = .ok (.ifCond .eq 11, 3) := by decide +kernel
theorem dX12_chart_11 : decode cX12_chart 11 = .ok (.iload_n 1, 1) := by decide +kernel
theorem dX12_chart_12 : decode cX12_chart 12 = .ok (.aload_n 0, 1) := by decide +kernel
theorem dX12_chart_13 : decode cX12_chart 13 = .ok (.getfield 143, 3) := by decide +kernel
theorem dX12_chart_16 : decode cX12_chart 16 = .ok (.if_icmp .le 5, 3) := by decide +kernel
theorem dX12_chart_19 : decode cX12_chart 19 = .ok (.iconst (-1), 1) := by decide +kernel
theorem dX12_chart_20 : decode cX12_chart 20 = .ok (.ireturn, 1) := by decide +kernel
theorem dX12_chart_21 : decode cX12_chart 21 = .ok (.aload_n 0, 1) := by decide +kernel
theorem dX12_chart_22 : decode cX12_chart 22 = .ok (.iload_n 1, 1) := by decide +kernel
theorem dX12_chart_23 : decode cX12_chart 23 = .ok (.invokevirtual 233, 3) := by decide +kernel
theorem dX12_chart_26 : decode cX12_chart 26 = .ok (.aload_n 0, 1) := by decide +kernel
theorem dX12_chart_27 : decode cX12_chart 27 = .ok (.iconst 0, 1) := by decide +kernel
theorem dX12_chart_28 : decode cX12_chart 28 = .ok (.putfield 270, 3) := by decide +kernel
theorem dX12_chart_31 : decode cX12_chart 31 = .ok (.aload_n 0, 1) := by decide +kernel
theorem dX12_chart_32 : decode cX12_chart 32 = .ok (.iconst 0, 1) := by decide +kernel
theorem dX12_chart_33 : decode cX12_chart 33 = .ok (.putfield 273, 3) := by decide +kernel
theorem dX12_chart_36 : decode cX12_chart 36 = .ok (.aload_n 0, 1) := by decide +kernel
theorem dX12_chart_37 : decode cX12_chart 37 = .ok (.iconst 0, 1) := by decide +kernel
theorem dX12_chart_38 : decode cX12_chart 38 = .ok (.putfield 267, 3) := by decide +kernel
theorem dX12_chart_41 : decode cX12_chart 41 = .ok (.aload_n 0, 1) := by decide +kernel
theorem dX12_chart_42 : decode cX12_chart 42 = .ok (.invokevirtual 279, 3) := by decide +kernel
theorem dX12_chart_45 : decode cX12_chart 45 = .ok (.istore_n 2, 1) := by decide +kernel
theorem dX12_chart_46 : decode cX12_chart 46 = .ok (.iload_n 2, 1) := by decide +kernel
theorem dX12_chart_47 : decode cX12_chart 47 = .ok (.ifCond .eq 39, 3) := by decide +kernel
theorem dX12_chart_50 : decode cX12_chart 50 = .ok (.aload_n 0, 1) := by decide +kernel
theorem dX12_chart_51 : decode cX12_chart 51 = .ok (.getfield 150, 3) := by decide +kernel
theorem dX12_chart_54 : decode cX12_chart 54 = .ok (.aload_n 0, 1) := by decide +kernel
theorem dX12_chart_55 : decode cX12_chart 55 = .ok (.getfield 153, 3) := by decide +kernel
theorem dX12_chart_58 : decode cX12_chart 58 = .ok (.if_icmp .ge 28, 3) := by decide +kernel
theorem dX12_chart_61 : decode cX12_chart 61 = .ok (.aload_n 0, 1) := by decide +kernel
theorem dX12_chart_62 : decode cX12_chart 62 = .ok (.bipush 59, 2) := by decide +kernel
theorem dX12_chart_64 : decode cX12_chart 64 = .ok (.invokevirtual 239, 3) := by decide +kernel
theorem dX12_chart_67 : decode cX12_chart 67 = .ok (.ifCond .eq 14, 3) := by decide +kernel
theorem dX12_chart_70 : decode cX12_chart 70 = .ok (.aload_n 0, 1) := by decide +kernel
theorem dX12_chart_71 : decode cX12_chart 71 = .ok (.invokevirtual 279, 3) := by decide +kernel
theorem dX12_chart_74 : decode cX12_chart 74 = .ok (.ifCond .eq 7, 3) := by decide +kernel
theorem dX12_chart_77 : decode cX12_chart 77 = .ok (.iconst 1, 1) := by decide +kernel
theorem dX12_chart_78 : decode cX12_chart 78 = .ok (.goto 4, 3) := by decide +kernel
theorem dX12_chart_81 : decode cX12_chart 81 = .ok (.iconst 0, 1) := by decide +kernel
theorem dX12_chart_82 : decode cX12_chart 82 = .ok (.istore_n 2, 1) := by decide +kernel
theorem dX12_chart_83 : decode cX12_chart 83 = .ok (.goto (-37), 3) := by decide +kernel
theorem dX12_chart_86 : decode cX12_chart 86 = .ok (.aload_n 0, 1) := by decide +kernel
theorem dX12_chart_87 : decode cX12_chart 87 = .ok (.iconst 0, 1) := by decide +kernel
theorem dX12_chart_88 : decode cX12_chart 88 = .ok (.putfield 143, 3) := by decide +kernel
theorem dX12_chart_91 : decode cX12_chart 91 = .ok (.iload_n 2, 1) := by decide +kernel
theorem dX12_chart_92 : decode cX12_chart 92 = .ok (.ifCond .ne 8, 3) := by decide +kernel
theorem dX12_chart_95 : decode cX12_chart 95 = .ok (.aload_n 0, 1) := by decide +kernel
theorem dX12_chart_96 : decode cX12_chart 96 = .ok (.getfield 160, 3) := by decide +kernel
theorem dX12_chart_99 : decode cX12_chart 99 = .ok (.ireturn, 1) := by decide +kernel
theorem dX12_chart_100 : decode cX12_chart 100 = .ok (.aload_n 0, 1) := by decide +kernel
theorem dX12_chart_101 : decode cX12_chart 101 = .ok (.aload_n 0, 1) := by decide +kernel
theorem dX12_chart_102 : decode cX12_chart 102 = .ok (.getfield 270, 3) := by decide +kernel
theorem dX12_chart_105 : decode cX12_chart 105 = .ok (.putfield 114, 3) := by decide +kernel
theorem dX12_chart_108 : decode cX12_chart 108 = .ok (.aload_n 0, 1) := by decide +kernel
theorem dX12_chart_109 : decode cX12_chart 109 = .ok (.aload_n 0, 1) := by decide +kernel
theorem dX12_chart_110 : decode cX12_chart 110 = .ok (.getfield 273, 3) := by decide +kernel
theorem dX12_chart_113 : decode cX12_chart 113 = .ok (.putfield 122, 3) := by decide +kernel
theorem dX12_chart_116 : decode cX12_chart 116 = .ok (.iconst 0, 1) := by decide +kernel
theorem dX12_chart_117 : decode cX12_chart 117 = .ok (.istore_n 3, 1) := by decide +kernel
theorem dX12_chart_118 : decode cX12_chart 118 = .ok (.iload_n 3, 1) := by decide +kernel
theorem dX12_chart_119 : decode cX12_chart 119 = .ok (.bipush 64, 2) := by decide +kernel
theorem dX12_chart_121 : decode cX12_chart 121 = .ok (.if_icmp .ge 19, 3) := by decide +kernel
theorem dX12_chart_124 : decode cX12_chart 124 = .ok (.aload_n 0, 1) := by decide +kernel
theorem dX12_chart_125 : decode cX12_chart 125 = .ok (.getfield 7, 3) := by decide +kernel
theorem dX12_chart_128 : decode cX12_chart 128 = .ok (.iconst 0, 1) := by decide +kernel
theorem dX12_chart_129 : decode cX12_chart 129 = .ok (.iload_n 3, 1) := by decide +kernel
theorem dX12_chart_130 : decode cX12_chart 130 = .ok (.iadd, 1) := by decide +kernel
theorem dX12_chart_131 : decode cX12_chart 131 = .ok (.bipush 99, 2) := by decide +kernel
theorem dX12_chart_133 : decode cX12_chart 133 = .ok (.iastore, 1) := by decide +kernel
theorem dX12_chart_134 : decode cX12_chart 134 = .ok (.iinc 3 1, 3) := by decide +kernel
theorem dX12_chart_137 : decode cX12_chart 137 = .ok (.goto (-19), 3) := by decide +kernel
theorem dX12_chart_140 : decode cX12_chart 140 = .ok (.iconst 0, 1) := by decide +kernel
theorem dX12_chart_141 : decode cX12_chart 141 = .ok (.istore_n 3, 1) := by decide +kernel
theorem dX12_chart_142 : decode cX12_chart 142 = .ok (.iload_n 3, 1) := by decide +kernel
theorem dX12_chart_143 : decode cX12_chart 143 = .ok (.bipush 8, 2) := by decide +kernel
theorem dX12_chart_145 : decode cX12_chart 145 = .ok (.if_icmp .ge 63, 3) := by decide +kernel
theorem dX12_chart_148 : decode cX12_chart 148 = .ok (.aload_n 0, 1) := by decide +kernel
theorem dX12_chart_149 : decode cX12_chart 149 = .ok (.getfield 19, 3) := by decide +kernel
theorem dX12_chart_152 : decode cX12_chart 152 = .ok (.iload_n 3, 1) := by decide +kernel
theorem dX12_chart_153 : decode cX12_chart 153 = .ok (.aload_n 0, 1) := by decide +kernel
theorem dX12_chart_154 : decode cX12_chart 154 = .ok (.getfield 68, 3) := by decide +kernel
theorem dX12_chart_157 : decode cX12_chart 157 = .ok (.iload_n 3, 1) := by decide +kernel
theorem dX12_chart_158 : decode cX12_chart 158 = .ok (.iaload, 1) := by decide +kernel
theorem dX12_chart_159 : decode cX12_chart 159 = .ok (.iastore, 1) := by decide +kernel
theorem dX12_chart_160 : decode cX12_chart 160 = .ok (.aload_n 0, 1) := by decide +kernel
theorem dX12_chart_161 : decode cX12_chart 161 = .ok (.getfield 22, 3) := by decide +kernel
theorem dX12_chart_164 : decode cX12_chart 164 = .ok (.iload_n 3, 1) := by decide +kernel
theorem dX12_chart_165 : decode cX12_chart 165 = .ok (.aload_n 0, 1) := by decide +kernel
theorem dX12_chart_166 : decode cX12_chart 166 = .ok (.getfield 74, 3) := by decide +kernel
theorem dX12_chart_169 : decode cX12_chart 169 = .ok (.iload_n 3, 1) := by decide +kernel
theorem dX12_chart_170 : decode cX12_chart 170 = .ok (.iaload, 1) := by decide +kernel
theorem dX12_chart_171 : decode cX12_chart 171 = .ok (.iastore, 1) := by decide +kernel
theorem dX12_chart_172 : decode cX12_chart 172 = .ok (.aload_n 0, 1) := by decide +kernel
theorem dX12_chart_173 : decode cX12_chart 173 = .ok (.getfield 7, 3) := by decide +kernel
theorem dX12_chart_176 : decode cX12_chart 176 = .ok (.bipush 64, 2) := by decide +kernel
theorem dX12_chart_178 : decode cX12_chart 178 = .ok (.iload_n 3, 1) := by decide +kernel
theorem dX12_chart_179 : decode cX12_chart 179 = .ok (.iadd, 1) := by decide +kernel
theorem dX12_chart_180 : decode cX12_chart 180 = .ok (.aload_n 0, 1) := by decide +kernel
theorem dX12_chart_181 : decode cX12_chart 181 = .ok (.getfield 71, 3) := by decide +kernel
theorem dX12_chart_184 : decode cX12_chart 184 = .ok (.iload_n 3, 1) := by decide +kernel
theorem dX12_chart_185 : decode cX12_chart 185 = .ok (.iaload, 1) := by decide +kernel
theorem dX12_chart_186 : decode cX12_chart 186 = .ok (.iastore, 1) := by decide +kernel
theorem dX12_chart_187 : decode cX12_chart 187 = .ok (.aload_n 0, 1) := by decide +kernel
theorem dX12_chart_188 : decode cX12_chart 188 = .ok (.getfield 7, 3) := by decide +kernel
theorem dX12_chart_191 : decode cX12_chart 191 = .ok (.bipush 72, 2) := by decide +kernel
theorem dX12_chart_193 : decode cX12_chart 193 = .ok (.iload_n 3, 1) := by decide +kernel
theorem dX12_chart_194 : decode cX12_chart 194 = .ok (.iadd, 1) := by decide +kernel
theorem dX12_chart_195 : decode cX12_chart 195 = .ok (.aload_n 0, 1) := by decide +kernel
theorem dX12_chart_196 : decode cX12_chart 196 = .ok (.getfield 77, 3) := by decide +kernel
theorem dX12_chart_199 : decode cX12_chart 199 = .ok (.iload_n 3, 1) := by decide +kernel
theorem dX12_chart_200 : decode cX12_chart 200 = .ok (.iaload, 1) := by decide +kernel
theorem dX12_chart_201 : decode cX12_chart 201 = .ok (.iastore, 1) := by decide +kernel
theorem dX12_chart_202 : decode cX12_chart 202 = .ok (.iinc 3 1, 3) := by decide +kernel
theorem dX12_chart_205 : decode cX12_chart 205 = .ok (.goto (-63), 3) := by decide +kernel
theorem dX12_chart_208 : decode cX12_chart 208 = .ok (.aload_n 0, 1) := by decide +kernel
theorem dX12_chart_209 : decode cX12_chart 209 = .ok (.getfield 267, 3) := by decide +kernel
theorem dX12_chart_212 : decode cX12_chart 212 = .ok (.ireturn, 1) := by decide +kernel
def f_X12_chart_n142 (x1 : Int32) : Nat → Gr → Int32 → Option (Int32 × Gr)
  | 0, _, _ => none
  | n + 1, S0, x3 => if 8 ≤ x3 then (some ((S0.1 37), S0)) else (rd' (S0.2 31) 8 x3 fun v23 => ck' 8 x3 (lt' (sA S0 3 (Int32.toNatClampNeg x3) v23) fun S0_24 => rd' (S0_24.2 33) 8 x3 fun v25 => ck' 8 x3 (lt' (sA S0_24 4 (Int32.toNatClampNeg x3) v25) fun S0_26 => rd' (S0_26.2 32) 8 x3 fun v27 => ck' 82 (64 + x3) (lt' (sA S0_26 0 (Int32.toNatClampNeg (64 + x3)) v27) fun S0_28 => rd' (S0_28.2 34) 8 x3 fun v29 => ck' 82 (72 + x3) (lt' (sA S0_28 0 (Int32.toNatClampNeg (72 + x3)) v29) fun S0_30 => lt' (x3 + 1) fun v31 => f_X12_chart_n142 x1 n S0_30 v31)))))
def f_X12_chart_n118 (x1 : Int32) : Nat → Gr → Int32 → Option (Int32 × Gr)
  | 0, _, _ => none
  | n + 1, S0, x3 => if 64 ≤ x3 then (f_X12_chart_n142 x1 fu S0 0) else (ck' 82 (0 + x3) (lt' (sA S0 0 (Int32.toNatClampNeg (0 + x3)) 99) fun S0_20 => lt' (x3 + 1) fun v21 => f_X12_chart_n118 x1 n S0_20 v21))
def f_X12_chart_n86 (x1 : Int32) (S0 : Gr) (x2 : Int32) : Option (Int32 × Gr) := lt' (sI S0 8 0) fun S0_15 => if x2 = 0 then (some ((S0_15.1 11), S0_15)) else (lt' (sI S0_15 5 (S0_15.1 35)) fun S0_17 => lt' (sI S0_17 6 (S0_17.1 36)) fun S0_18 => f_X12_chart_n118 x1 fu S0_18 0)
def f_X12_chart_n46 (x1 : Int32) : Nat → Gr → Int32 → Option (Int32 × Gr)
  | 0, _, _ => none
  | n + 1, S0, x2 => if x2 = 0 then (f_X12_chart_n86 x1 S0 x2) else (if (S0.1 10) ≤ (S0.1 9) then (f_X12_chart_n86 x1 S0 x2) else ((f_X12_takes S0 59).bind fun u11 => if u11.1 = 0 then (f_X12_chart_n46 x1 n u11.2 0) else ((f_X12_readsLine u11.2).bind fun u13 => if u13.1 = 0 then (f_X12_chart_n46 x1 n u13.2 0) else (f_X12_chart_n46 x1 n u13.2 1))))
def f_X12_chart (S0 : Gr) (x1 : Int32) : Option (Int32 × Gr) := (f_X12_in x1 1 160).bind fun u1 => if u1 = 0 then (some ((-1), S0)) else (if x1 ≤ (S0.1 8) then ((f_X12_beginsText S0 x1).bind fun u4 => lt' (sI u4 35 0) fun S0_5 => lt' (sI S0_5 36 0) fun S0_6 => lt' (sI S0_6 37 0) fun S0_7 => (f_X12_readsLine S0_7).bind fun u8 => f_X12_chart_n46 x1 fu u8.2 u8.1) else (some ((-1), S0)))
set_option maxHeartbeats 4000000 in
set_option maxRecDepth 100000 in
theorem c_X12_chart (l : Launch) (E : Ec) (q0 : Nat → Nat) (sz : Nat) (S0 : Gr) (x1 : Int32) (Rv : Int32 × Gr) (h : f_X12_chart S0 x1 = some Rv) : Met l yX12_chart (wsM (.code yX12_chart cX12_chart 4 (some .int))) ({ frames := 6, cells := 0, slots := 0, locals := 126 } : Room) (va_Pc [.ref (q0 0), .int x1] (ctP E (cw_X12 E q0 S0) sz)) (ctI E (cw_X12 E q0 S0) (cw_X12 E q0 Rv.2) sz Rv.1) 0 0 (va_A (cw_X12 E q0 S0) sz) := by
  refine ct_metI (by decide) (Nat.le_of_ble_eq_true rfl) ?_
  intro p e s m ar below meth c A QM hx hb hml hown hg X hP hD hS RET ls hl
  have hown : s.vm.findClass RX12 = some m.cls := hown
  have hl : lv_has ls 4 [(0, .ref (q0 0)), (1, .int x1)] := hl
  have RT : ∀ (v : Int32) (S0 : Gr) (H : Heap) (locs : List Loc) (ls : Array Slot) (pc : Nat), some (v, S0) = some Rv → narrow .int (.int v) = .int v → va_P E.1 vwCl (cw_X12 E q0 S0) H → va_D A (cw_X12 E q0 S0) → va_S A s.heap H locs → decode cX12_chart pc = .ok (.ireturn, 1) → W p l e ({ frames := 6, cells := 0, slots := 0, locals := 126 } : Room) s m ar below meth c H locs 0 0 QM (F0 m pc ls [.int v]) := by
    intro v S0 H locs ls pc e hn hP hD hS d
    obtain rfl := sm_e e
    exact RET H locs pc ls hn hP hD hS d
  clear RET
  have N142 : ∀ (n : Nat) (S0 : Gr) (x3 : Int32) (H : Heap) (locs : List Loc) (ls : Array Slot), f_X12_chart_n142 x1 n S0 x3 = some Rv → va_P E.1 vwCl (cw_X12 E q0 S0) H → va_D A (cw_X12 E q0 S0) → va_S A s.heap H locs → lv_has ls 4 [(0, .ref (q0 0)), (3, .int x3)] → W p l e ({ frames := 6, cells := 0, slots := 0, locals := 126 } : Room) s m ar below meth c H locs 0 0 QM (F0 m 142 ls []) := by
    intro n
    induction n with
    | zero => intro S0 x3 H locs ls h; exact nn_el h
    | succ n ih =>
      intro S0 x3 H locs ls h hP hD hS hl
      refine lv_iload_n hx hb dX12_chart_142 rfl (lv_at hl 1 rfl) ?_
      refine lv_bipush (v := 8) hx hb dX12_chart_143 (by decide) ?_
      refine lv_icmp_ge (tgt := 208) hx hb dX12_chart_145 (by decide) (fun c22 => ?_) (fun c22 => ?_)
      · have h := it_t h c22
        refine lv_aload_n hx hb dX12_chart_208 rfl (lv_at hl 0 rfl) ?_
        refine va_get (D := E.1) (ci := 11) (v := .int (S0.1 37)) (C := RX12) (T := TX12) (N := 57) hx hb hg in_X12 hown X.1 hP 0 rfl rfl 37 (by decide) (hg _ wf_X12_267) (fun _ h9 => h9) rfl dX12_chart_209 ?_
        exact RT (S0.1 37) S0 _ _ _ _ h rfl hP hD hS dX12_chart_212
      · have h := it_f h c22
        refine lv_aload_n hx hb dX12_chart_148 rfl (lv_at hl 0 rfl) ?_
        refine va_get (D := E.1) (ci := 11) (v := .ref (q0 4)) (C := RX12) (T := TX12) (N := 57) hx hb hg in_X12 hown X.1 hP 0 rfl rfl 3 (by decide) (hg _ wf_X12_19) (fun _ h9 => h9) rfl dX12_chart_149 ?_
        refine lv_iload_n hx hb dX12_chart_152 rfl (lv_at hl 1 rfl) ?_
        refine lv_aload_n hx hb dX12_chart_153 rfl (lv_at hl 0 rfl) ?_
        refine va_get (D := E.1) (ci := 11) (v := .ref (q0 20)) (C := RX12) (T := TX12) (N := 57) hx hb hg in_X12 hown X.1 hP 0 rfl rfl 31 (by decide) (hg _ wf_X12_68) (fun _ h9 => h9) rfl dX12_chart_154 ?_
        refine lv_iload_n hx hb dX12_chart_157 rfl (lv_at hl 1 rfl) ?_
        obtain ⟨hi, v23, ev23, h⟩ := rd_el h
        refine va_iald hx hb X.1 hP 20 0 rfl rfl hi dX12_chart_158 ?_
        refine lv_top' ev23 ?_
        obtain ⟨hi, h⟩ := ck_el h
        obtain ⟨S0_24, eS, h⟩ := lt_el h
        refine va_iast hx hb X.1 hP hD hS 4 0 rfl rfl hi dX12_chart_159 (fun H locs hP hD hS => ?_)
        have hP : va_P E.1 vwCl (cw_X12 E q0 S0_24) H := by rw [eS]; exact hP
        have hD : va_D A (cw_X12 E q0 S0_24) := by rw [eS]; exact hD
        clear eS
        refine lv_aload_n hx hb dX12_chart_160 rfl (lv_at hl 0 rfl) ?_
        refine va_get (D := E.1) (ci := 11) (v := .ref (q0 5)) (C := RX12) (T := TX12) (N := 57) hx hb hg in_X12 hown X.1 hP 0 rfl rfl 4 (by decide) (hg _ wf_X12_22) (fun _ h9 => h9) rfl dX12_chart_161 ?_
        refine lv_iload_n hx hb dX12_chart_164 rfl (lv_at hl 1 rfl) ?_
        refine lv_aload_n hx hb dX12_chart_165 rfl (lv_at hl 0 rfl) ?_
        refine va_get (D := E.1) (ci := 11) (v := .ref (q0 22)) (C := RX12) (T := TX12) (N := 57) hx hb hg in_X12 hown X.1 hP 0 rfl rfl 33 (by decide) (hg _ wf_X12_74) (fun _ h9 => h9) rfl dX12_chart_166 ?_
        refine lv_iload_n hx hb dX12_chart_169 rfl (lv_at hl 1 rfl) ?_
        obtain ⟨hi, v25, ev25, h⟩ := rd_el h
        refine va_iald hx hb X.1 hP 22 0 rfl rfl hi dX12_chart_170 ?_
        refine lv_top' ev25 ?_
        obtain ⟨hi, h⟩ := ck_el h
        obtain ⟨S0_26, eS, h⟩ := lt_el h
        refine va_iast hx hb X.1 hP hD hS 5 0 rfl rfl hi dX12_chart_171 (fun H locs hP hD hS => ?_)
        have hP : va_P E.1 vwCl (cw_X12 E q0 S0_26) H := by rw [eS]; exact hP
        have hD : va_D A (cw_X12 E q0 S0_26) := by rw [eS]; exact hD
        clear eS
        refine lv_aload_n hx hb dX12_chart_172 rfl (lv_at hl 0 rfl) ?_
        refine va_get (D := E.1) (ci := 11) (v := .ref (q0 1)) (C := RX12) (T := TX12) (N := 57) hx hb hg in_X12 hown X.1 hP 0 rfl rfl 0 (by decide) (hg _ wf_X12_7) (fun _ h9 => h9) rfl dX12_chart_173 ?_
        refine lv_bipush (v := 64) hx hb dX12_chart_176 (by decide) ?_
        refine lv_iload_n hx hb dX12_chart_178 rfl (lv_at hl 1 rfl) ?_
        refine lv_iadd hx hb dX12_chart_179 ?_
        refine lv_aload_n hx hb dX12_chart_180 rfl (lv_at hl 0 rfl) ?_
        refine va_get (D := E.1) (ci := 11) (v := .ref (q0 21)) (C := RX12) (T := TX12) (N := 57) hx hb hg in_X12 hown X.1 hP 0 rfl rfl 32 (by decide) (hg _ wf_X12_71) (fun _ h9 => h9) rfl dX12_chart_181 ?_
        refine lv_iload_n hx hb dX12_chart_184 rfl (lv_at hl 1 rfl) ?_
        obtain ⟨hi, v27, ev27, h⟩ := rd_el h
        refine va_iald hx hb X.1 hP 21 0 rfl rfl hi dX12_chart_185 ?_
        refine lv_top' ev27 ?_
        obtain ⟨hi, h⟩ := ck_el h
        obtain ⟨S0_28, eS, h⟩ := lt_el h
        refine va_iast hx hb X.1 hP hD hS 1 0 rfl rfl hi dX12_chart_186 (fun H locs hP hD hS => ?_)
        have hP : va_P E.1 vwCl (cw_X12 E q0 S0_28) H := by rw [eS]; exact hP
        have hD : va_D A (cw_X12 E q0 S0_28) := by rw [eS]; exact hD
        clear eS
        refine lv_aload_n hx hb dX12_chart_187 rfl (lv_at hl 0 rfl) ?_
        refine va_get (D := E.1) (ci := 11) (v := .ref (q0 1)) (C := RX12) (T := TX12) (N := 57) hx hb hg in_X12 hown X.1 hP 0 rfl rfl 0 (by decide) (hg _ wf_X12_7) (fun _ h9 => h9) rfl dX12_chart_188 ?_
        refine lv_bipush (v := 72) hx hb dX12_chart_191 (by decide) ?_
        refine lv_iload_n hx hb dX12_chart_193 rfl (lv_at hl 1 rfl) ?_
        refine lv_iadd hx hb dX12_chart_194 ?_
        refine lv_aload_n hx hb dX12_chart_195 rfl (lv_at hl 0 rfl) ?_
        refine va_get (D := E.1) (ci := 11) (v := .ref (q0 23)) (C := RX12) (T := TX12) (N := 57) hx hb hg in_X12 hown X.1 hP 0 rfl rfl 34 (by decide) (hg _ wf_X12_77) (fun _ h9 => h9) rfl dX12_chart_196 ?_
        refine lv_iload_n hx hb dX12_chart_199 rfl (lv_at hl 1 rfl) ?_
        obtain ⟨hi, v29, ev29, h⟩ := rd_el h
        refine va_iald hx hb X.1 hP 23 0 rfl rfl hi dX12_chart_200 ?_
        refine lv_top' ev29 ?_
        obtain ⟨hi, h⟩ := ck_el h
        obtain ⟨S0_30, eS, h⟩ := lt_el h
        refine va_iast hx hb X.1 hP hD hS 1 0 rfl rfl hi dX12_chart_201 (fun H locs hP hD hS => ?_)
        have hP : va_P E.1 vwCl (cw_X12 E q0 S0_30) H := by rw [eS]; exact hP
        have hD : va_D A (cw_X12 E q0 S0_30) := by rw [eS]; exact hD
        clear eS
        obtain ⟨v31, ev31, h⟩ := lt_el h
        refine lv_iinc (v := v31) (lv' := [(3, .int v31), (0, .ref (q0 0))]) hx hb dX12_chart_202 hl (k := 1) rfl (by rw [ev31]; rfl) (by decide) rfl (fun ls hl => ?_)
        refine lv_goto (tgt := 142) hx hb dX12_chart_205 (by decide) ?_
        exact ih S0_30 v31 _ _ _ h hP hD hS (lv_sub hl [1, 0] rfl)
  have N118 : ∀ (n : Nat) (S0 : Gr) (x3 : Int32) (H : Heap) (locs : List Loc) (ls : Array Slot), f_X12_chart_n118 x1 n S0 x3 = some Rv → va_P E.1 vwCl (cw_X12 E q0 S0) H → va_D A (cw_X12 E q0 S0) → va_S A s.heap H locs → lv_has ls 4 [(0, .ref (q0 0)), (3, .int x3)] → W p l e ({ frames := 6, cells := 0, slots := 0, locals := 126 } : Room) s m ar below meth c H locs 0 0 QM (F0 m 118 ls []) := by
    intro n
    induction n with
    | zero => intro S0 x3 H locs ls h; exact nn_el h
    | succ n ih =>
      intro S0 x3 H locs ls h hP hD hS hl
      refine lv_iload_n hx hb dX12_chart_118 rfl (lv_at hl 1 rfl) ?_
      refine lv_bipush (v := 64) hx hb dX12_chart_119 (by decide) ?_
      refine lv_icmp_ge (tgt := 140) hx hb dX12_chart_121 (by decide) (fun c19 => ?_) (fun c19 => ?_)
      · have h := it_t h c19
        refine lv_iconst (v := 0) hx hb dX12_chart_140 (by decide) ?_
        refine lv_istore_n (lv' := [(3, .int 0), (0, .ref (q0 0))]) hx hb dX12_chart_141 rfl hl (by decide) rfl (fun ls hl => ?_)
        exact N142 fu S0 0 _ _ _ h hP hD hS (lv_sub hl [1, 0] rfl)
      · have h := it_f h c19
        refine lv_aload_n hx hb dX12_chart_124 rfl (lv_at hl 0 rfl) ?_
        refine va_get (D := E.1) (ci := 11) (v := .ref (q0 1)) (C := RX12) (T := TX12) (N := 57) hx hb hg in_X12 hown X.1 hP 0 rfl rfl 0 (by decide) (hg _ wf_X12_7) (fun _ h9 => h9) rfl dX12_chart_125 ?_
        refine lv_iconst (v := 0) hx hb dX12_chart_128 (by decide) ?_
        refine lv_iload_n hx hb dX12_chart_129 rfl (lv_at hl 1 rfl) ?_
        refine lv_iadd hx hb dX12_chart_130 ?_
        refine lv_bipush (v := 99) hx hb dX12_chart_131 (by decide) ?_
        obtain ⟨hi, h⟩ := ck_el h
        obtain ⟨S0_20, eS, h⟩ := lt_el h
        refine va_iast hx hb X.1 hP hD hS 1 0 rfl rfl hi dX12_chart_133 (fun H locs hP hD hS => ?_)
        have hP : va_P E.1 vwCl (cw_X12 E q0 S0_20) H := by rw [eS]; exact hP
        have hD : va_D A (cw_X12 E q0 S0_20) := by rw [eS]; exact hD
        clear eS
        obtain ⟨v21, ev21, h⟩ := lt_el h
        refine lv_iinc (v := v21) (lv' := [(3, .int v21), (0, .ref (q0 0))]) hx hb dX12_chart_134 hl (k := 1) rfl (by rw [ev21]; rfl) (by decide) rfl (fun ls hl => ?_)
        refine lv_goto (tgt := 118) hx hb dX12_chart_137 (by decide) ?_
        exact ih S0_20 v21 _ _ _ h hP hD hS (lv_sub hl [1, 0] rfl)
  have N86 : ∀ (S0 : Gr) (x2 : Int32) (H : Heap) (locs : List Loc) (ls : Array Slot), f_X12_chart_n86 x1 S0 x2 = some Rv → va_P E.1 vwCl (cw_X12 E q0 S0) H → va_D A (cw_X12 E q0 S0) → va_S A s.heap H locs → lv_has ls 4 [(0, .ref (q0 0)), (2, .int x2)] → W p l e ({ frames := 6, cells := 0, slots := 0, locals := 126 } : Room) s m ar below meth c H locs 0 0 QM (F0 m 86 ls []) := by
    intro S0 x2 H locs ls h hP hD hS hl
    refine lv_aload_n hx hb dX12_chart_86 rfl (lv_at hl 0 rfl) ?_
    refine lv_iconst (v := 0) hx hb dX12_chart_87 (by decide) ?_
    obtain ⟨S0_15, eS, h⟩ := lt_el h
    refine va_put (D := E.1) (ci := 11) (v := .int 0) (ty := .int) (C := RX12) (T := TX12) (N := 57) hx hb hg in_X12 tyX12 tyX12_ok nmX12 hown X.1 hP hD hS 0 rfl rfl 8 (by decide) (hg _ wf_X12_143) (fun _ h9 => h9) rfl (by decide +kernel) rfl rfl (Nat.le_of_ble_eq_true rfl) dX12_chart_88 (fun H locs hP hD hS => ?_)
    have hP : va_P E.1 vwCl (cw_X12 E q0 S0_15) H := by rw [eS]; exact hP
    have hD : va_D A (cw_X12 E q0 S0_15) := by rw [eS]; exact hD
    clear eS
    refine lv_iload_n hx hb dX12_chart_91 rfl (lv_at hl 1 rfl) ?_
    refine lv_if_ne (tgt := 100) hx hb dX12_chart_92 (by decide) (fun c16 => ?_) (fun c16 => ?_)
    · have h := it_f h c16
      refine lv_aload_n hx hb dX12_chart_100 rfl (lv_at hl 0 rfl) ?_
      refine lv_aload_n hx hb dX12_chart_101 rfl (lv_at hl 0 rfl) ?_
      refine va_get (D := E.1) (ci := 11) (v := .int (S0_15.1 35)) (C := RX12) (T := TX12) (N := 57) hx hb hg in_X12 hown X.1 hP 0 rfl rfl 35 (by decide) (hg _ wf_X12_270) (fun _ h9 => h9) rfl dX12_chart_102 ?_
      obtain ⟨S0_17, eS, h⟩ := lt_el h
      refine va_put (D := E.1) (ci := 11) (v := .int (S0_15.1 35)) (ty := .int) (C := RX12) (T := TX12) (N := 57) hx hb hg in_X12 tyX12 tyX12_ok nmX12 hown X.1 hP hD hS 0 rfl rfl 5 (by decide) (hg _ wf_X12_114) (fun _ h9 => h9) rfl (by decide +kernel) rfl rfl (Nat.le_of_ble_eq_true rfl) dX12_chart_105 (fun H locs hP hD hS => ?_)
      have hP : va_P E.1 vwCl (cw_X12 E q0 S0_17) H := by rw [eS]; exact hP
      have hD : va_D A (cw_X12 E q0 S0_17) := by rw [eS]; exact hD
      clear eS
      refine lv_aload_n hx hb dX12_chart_108 rfl (lv_at hl 0 rfl) ?_
      refine lv_aload_n hx hb dX12_chart_109 rfl (lv_at hl 0 rfl) ?_
      refine va_get (D := E.1) (ci := 11) (v := .int (S0_17.1 36)) (C := RX12) (T := TX12) (N := 57) hx hb hg in_X12 hown X.1 hP 0 rfl rfl 36 (by decide) (hg _ wf_X12_273) (fun _ h9 => h9) rfl dX12_chart_110 ?_
      obtain ⟨S0_18, eS, h⟩ := lt_el h
      refine va_put (D := E.1) (ci := 11) (v := .int (S0_17.1 36)) (ty := .int) (C := RX12) (T := TX12) (N := 57) hx hb hg in_X12 tyX12 tyX12_ok nmX12 hown X.1 hP hD hS 0 rfl rfl 6 (by decide) (hg _ wf_X12_122) (fun _ h9 => h9) rfl (by decide +kernel) rfl rfl (Nat.le_of_ble_eq_true rfl) dX12_chart_113 (fun H locs hP hD hS => ?_)
      have hP : va_P E.1 vwCl (cw_X12 E q0 S0_18) H := by rw [eS]; exact hP
      have hD : va_D A (cw_X12 E q0 S0_18) := by rw [eS]; exact hD
      clear eS
      refine lv_iconst (v := 0) hx hb dX12_chart_116 (by decide) ?_
      refine lv_istore_n (lv' := [(3, .int 0), (0, .ref (q0 0)), (2, .int x2)]) hx hb dX12_chart_117 rfl hl (by decide) rfl (fun ls hl => ?_)
      exact N118 fu S0_18 0 _ _ _ h hP hD hS (lv_sub hl [1, 0] rfl)
    · have h := it_t h c16
      refine lv_aload_n hx hb dX12_chart_95 rfl (lv_at hl 0 rfl) ?_
      refine va_get (D := E.1) (ci := 11) (v := .int (S0_15.1 11)) (C := RX12) (T := TX12) (N := 57) hx hb hg in_X12 hown X.1 hP 0 rfl rfl 11 (by decide) (hg _ wf_X12_160) (fun _ h9 => h9) rfl dX12_chart_96 ?_
      exact RT (S0_15.1 11) S0_15 _ _ _ _ h rfl hP hD hS dX12_chart_99
  have N46 : ∀ (n : Nat) (S0 : Gr) (x2 : Int32) (H : Heap) (locs : List Loc) (ls : Array Slot), f_X12_chart_n46 x1 n S0 x2 = some Rv → va_P E.1 vwCl (cw_X12 E q0 S0) H → va_D A (cw_X12 E q0 S0) → va_S A s.heap H locs → lv_has ls 4 [(0, .ref (q0 0)), (2, .int x2)] → W p l e ({ frames := 6, cells := 0, slots := 0, locals := 126 } : Room) s m ar below meth c H locs 0 0 QM (F0 m 46 ls []) := by
    intro n
    induction n with
    | zero => intro S0 x2 H locs ls h; exact nn_el h
    | succ n ih =>
      intro S0 x2 H locs ls h hP hD hS hl
      refine lv_iload_n hx hb dX12_chart_46 rfl (lv_at hl 1 rfl) ?_
      refine lv_if_eq (tgt := 86) hx hb dX12_chart_47 (by decide) (fun c9 => ?_) (fun c9 => ?_)
      · have h := it_t h c9
        exact N86  S0 x2 _ _ _ h hP hD hS (lv_sub hl [0, 1] rfl)
      · have h := it_f h c9
        refine lv_aload_n hx hb dX12_chart_50 rfl (lv_at hl 0 rfl) ?_
        refine va_get (D := E.1) (ci := 11) (v := .int (S0.1 9)) (C := RX12) (T := TX12) (N := 57) hx hb hg in_X12 hown X.1 hP 0 rfl rfl 9 (by decide) (hg _ wf_X12_150) (fun _ h9 => h9) rfl dX12_chart_51 ?_
        refine lv_aload_n hx hb dX12_chart_54 rfl (lv_at hl 0 rfl) ?_
        refine va_get (D := E.1) (ci := 11) (v := .int (S0.1 10)) (C := RX12) (T := TX12) (N := 57) hx hb hg in_X12 hown X.1 hP 0 rfl rfl 10 (by decide) (hg _ wf_X12_153) (fun _ h9 => h9) rfl dX12_chart_55 ?_
        refine lv_icmp_ge (tgt := 86) hx hb dX12_chart_58 (by decide) (fun c10 => ?_) (fun c10 => ?_)
        · have h := it_t h c10
          exact N86  S0 x2 _ _ _ h hP hD hS (lv_sub hl [0, 1] rfl)
        · have h := it_f h c10
          refine lv_aload_n hx hb dX12_chart_61 rfl (lv_at hl 0 rfl) ?_
          refine lv_bipush (v := 59) hx hb dX12_chart_62 (by decide) ?_
          obtain ⟨u11, hc, h⟩ := bd_el h
          refine ct_iA (w1 := cw_X12 E q0 u11.2) X hP hD hS (va_runV (C := RX12) (As := [.int 59]) (rest := []) ⟨hx, hb, hml, hown, hg⟩ (c_X12_takes l E q0 H.size S0 59 u11 hc) (cwV 1 hg (gwV wm_X12_239 wi_X12_takes wsl_X12_takes wini_X12 wco_X12_takes) rfl rfl rfl (by decide +kernel) ⟨Nat.le_of_ble_eq_true rfl, Nat.le_of_ble_eq_true rfl⟩) ⟨ct_blind, ct_rv X.1 hP 0 rfl rfl, ct_preA X hP hD hS _⟩ rfl rfl hl.1 rfl (lv_room (Nat.le_of_ble_eq_true rfl)) dX12_chart_64 ⟨Nat.zero_le _, Nat.zero_le _⟩) (fun H locs hP hD hS => ?_)
          refine lv_if_eq (tgt := 81) hx hb dX12_chart_67 (by decide) (fun c12 => ?_) (fun c12 => ?_)
          · have h := it_t h c12
            refine lv_iconst (v := 0) hx hb dX12_chart_81 (by decide) ?_
            refine lv_istore_n (lv' := [(2, .int 0), (0, .ref (q0 0))]) hx hb dX12_chart_82 rfl hl (by decide) rfl (fun ls hl => ?_)
            refine lv_goto (tgt := 46) hx hb dX12_chart_83 (by decide) ?_
            exact ih u11.2 0 _ _ _ h hP hD hS (lv_sub hl [1, 0] rfl)
          · have h := it_f h c12
            refine lv_aload_n hx hb dX12_chart_70 rfl (lv_at hl 0 rfl) ?_
            obtain ⟨u13, hc, h⟩ := bd_el h
            refine ct_iA (w1 := cw_X12 E q0 u13.2) X hP hD hS (va_runV (C := RX12) (As := []) (rest := []) ⟨hx, hb, hml, hown, hg⟩ (c_X12_readsLine l E q0 H.size u11.2 u13 hc) (cwV 0 hg (gwV wm_X12_279 wi_X12_readsLine wsl_X12_readsLine wini_X12 wco_X12_readsLine) rfl rfl rfl (by decide +kernel) ⟨Nat.le_of_ble_eq_true rfl, Nat.le_of_ble_eq_true rfl⟩) ⟨ct_blind, ct_rv X.1 hP 0 rfl rfl, ct_preA X hP hD hS _⟩ rfl rfl hl.1 rfl (lv_room (Nat.le_of_ble_eq_true rfl)) dX12_chart_71 ⟨Nat.zero_le _, Nat.zero_le _⟩) (fun H locs hP hD hS => ?_)
            refine lv_if_eq (tgt := 81) hx hb dX12_chart_74 (by decide) (fun c14 => ?_) (fun c14 => ?_)
            · have h := it_t h c14
              refine lv_iconst (v := 0) hx hb dX12_chart_81 (by decide) ?_
              refine lv_istore_n (lv' := [(2, .int 0), (0, .ref (q0 0))]) hx hb dX12_chart_82 rfl hl (by decide) rfl (fun ls hl => ?_)
              refine lv_goto (tgt := 46) hx hb dX12_chart_83 (by decide) ?_
              exact ih u13.2 0 _ _ _ h hP hD hS (lv_sub hl [1, 0] rfl)
            · have h := it_f h c14
              refine lv_iconst (v := 1) hx hb dX12_chart_77 (by decide) ?_
              refine lv_goto (tgt := 82) hx hb dX12_chart_78 (by decide) ?_
              refine lv_istore_n (lv' := [(2, .int 1), (0, .ref (q0 0))]) hx hb dX12_chart_82 rfl hl (by decide) rfl (fun ls hl => ?_)
              refine lv_goto (tgt := 46) hx hb dX12_chart_83 (by decide) ?_
              exact ih u13.2 1 _ _ _ h hP hD hS (lv_sub hl [1, 0] rfl)
  obtain ⟨H, eH⟩ : ∃ z, z = s.heap := ⟨_, rfl⟩
  rw [← eH]
  have hP : va_P E.1 vwCl (cw_X12 E q0 S0) H := by rw [eH]; exact hP
  have hS : va_S A s.heap H [] := by rw [eH]; exact hS
  clear eH
  obtain ⟨locs, el⟩ : ∃ z : List Loc, z = [] := ⟨_, rfl⟩
  rw [← el] at hS ⊢
  clear el
  refine lv_iload_n hx hb dX12_chart_0 rfl (lv_at hl 1 rfl) ?_
  refine lv_iconst (v := 1) hx hb dX12_chart_1 (by decide) ?_
  refine lv_sipush (v := 160) hx hb dX12_chart_2 (by decide) ?_
  obtain ⟨u1, hc, h⟩ := bd_el h
  refine ct_iN X hP hD hS (va_runS (As := [.int x1, .int 1, .int 160]) (rest := []) ⟨hx, hb, hml, hown, hg⟩ (c_X12_in l E  H.size x1 1 160 u1 hc) (va_cwS 3 hg (gwS wm_X12_110 wst_X12_in wini_X12 wco_X12_in) rfl rfl rfl (by decide +kernel) ⟨Nat.le_of_ble_eq_true rfl, Nat.le_of_ble_eq_true rfl⟩) ⟨ct_blind, ct_preN X hS _⟩ rfl rfl hl.1 rfl (lv_room (Nat.le_of_ble_eq_true rfl)) dX12_chart_5 ⟨Nat.zero_le _, Nat.zero_le _⟩) (fun H locs hP hD hS => ?_)
  refine lv_if_eq (tgt := 19) hx hb dX12_chart_8 (by decide) (fun c2 => ?_) (fun c2 => ?_)
  · have h := it_t h c2
    refine lv_iconst (v := (-1)) hx hb dX12_chart_19 (by decide) ?_
    exact RT (-1) S0 _ _ _ _ h rfl hP hD hS dX12_chart_20
  · have h := it_f h c2
    refine lv_iload_n hx hb dX12_chart_11 rfl (lv_at hl 1 rfl) ?_
    refine lv_aload_n hx hb dX12_chart_12 rfl (lv_at hl 0 rfl) ?_
    refine va_get (D := E.1) (ci := 11) (v := .int (S0.1 8)) (C := RX12) (T := TX12) (N := 57) hx hb hg in_X12 hown X.1 hP 0 rfl rfl 8 (by decide) (hg _ wf_X12_143) (fun _ h9 => h9) rfl dX12_chart_13 ?_
    refine lv_icmp_le (tgt := 21) hx hb dX12_chart_16 (by decide) (fun c3 => ?_) (fun c3 => ?_)
    · have h := it_t h c3
      refine lv_aload_n hx hb dX12_chart_21 rfl (lv_at hl 0 rfl) ?_
      refine lv_iload_n hx hb dX12_chart_22 rfl (lv_at hl 1 rfl) ?_
      obtain ⟨u4, hc, h⟩ := bd_el h
      refine ct_vA (w1 := cw_X12 E q0 u4) X hP hD hS (va_runV (C := RX12) (As := [.int x1]) (rest := []) ⟨hx, hb, hml, hown, hg⟩ (c_X12_beginsText l E q0 H.size S0 x1 u4 hc) (cwV 1 hg (gwV wm_X12_233 wi_X12_beginsText wsl_X12_beginsText wini_X12 wco_X12_beginsText) rfl rfl rfl (by decide +kernel) ⟨Nat.le_of_ble_eq_true rfl, Nat.le_of_ble_eq_true rfl⟩) ⟨ct_blind, ct_rv X.1 hP 0 rfl rfl, ct_preA X hP hD hS _⟩ rfl rfl hl.1 rfl (lv_room (Nat.le_of_ble_eq_true rfl)) dX12_chart_23 ⟨Nat.zero_le _, Nat.zero_le _⟩) (fun H locs hP hD hS => ?_)
      refine lv_aload_n hx hb dX12_chart_26 rfl (lv_at hl 0 rfl) ?_
      refine lv_iconst (v := 0) hx hb dX12_chart_27 (by decide) ?_
      obtain ⟨S0_5, eS, h⟩ := lt_el h
      refine va_put (D := E.1) (ci := 11) (v := .int 0) (ty := .int) (C := RX12) (T := TX12) (N := 57) hx hb hg in_X12 tyX12 tyX12_ok nmX12 hown X.1 hP hD hS 0 rfl rfl 35 (by decide) (hg _ wf_X12_270) (fun _ h9 => h9) rfl (by decide +kernel) rfl rfl (Nat.le_of_ble_eq_true rfl) dX12_chart_28 (fun H locs hP hD hS => ?_)
      have hP : va_P E.1 vwCl (cw_X12 E q0 S0_5) H := by rw [eS]; exact hP
      have hD : va_D A (cw_X12 E q0 S0_5) := by rw [eS]; exact hD
      clear eS
      refine lv_aload_n hx hb dX12_chart_31 rfl (lv_at hl 0 rfl) ?_
      refine lv_iconst (v := 0) hx hb dX12_chart_32 (by decide) ?_
      obtain ⟨S0_6, eS, h⟩ := lt_el h
      refine va_put (D := E.1) (ci := 11) (v := .int 0) (ty := .int) (C := RX12) (T := TX12) (N := 57) hx hb hg in_X12 tyX12 tyX12_ok nmX12 hown X.1 hP hD hS 0 rfl rfl 36 (by decide) (hg _ wf_X12_273) (fun _ h9 => h9) rfl (by decide +kernel) rfl rfl (Nat.le_of_ble_eq_true rfl) dX12_chart_33 (fun H locs hP hD hS => ?_)
      have hP : va_P E.1 vwCl (cw_X12 E q0 S0_6) H := by rw [eS]; exact hP
      have hD : va_D A (cw_X12 E q0 S0_6) := by rw [eS]; exact hD
      clear eS
      refine lv_aload_n hx hb dX12_chart_36 rfl (lv_at hl 0 rfl) ?_
      refine lv_iconst (v := 0) hx hb dX12_chart_37 (by decide) ?_
      obtain ⟨S0_7, eS, h⟩ := lt_el h
      refine va_put (D := E.1) (ci := 11) (v := .int 0) (ty := .int) (C := RX12) (T := TX12) (N := 57) hx hb hg in_X12 tyX12 tyX12_ok nmX12 hown X.1 hP hD hS 0 rfl rfl 37 (by decide) (hg _ wf_X12_267) (fun _ h9 => h9) rfl (by decide +kernel) rfl rfl (Nat.le_of_ble_eq_true rfl) dX12_chart_38 (fun H locs hP hD hS => ?_)
      have hP : va_P E.1 vwCl (cw_X12 E q0 S0_7) H := by rw [eS]; exact hP
      have hD : va_D A (cw_X12 E q0 S0_7) := by rw [eS]; exact hD
      clear eS
      refine lv_aload_n hx hb dX12_chart_41 rfl (lv_at hl 0 rfl) ?_
      obtain ⟨u8, hc, h⟩ := bd_el h
      refine ct_iA (w1 := cw_X12 E q0 u8.2) X hP hD hS (va_runV (C := RX12) (As := []) (rest := []) ⟨hx, hb, hml, hown, hg⟩ (c_X12_readsLine l E q0 H.size S0_7 u8 hc) (cwV 0 hg (gwV wm_X12_279 wi_X12_readsLine wsl_X12_readsLine wini_X12 wco_X12_readsLine) rfl rfl rfl (by decide +kernel) ⟨Nat.le_of_ble_eq_true rfl, Nat.le_of_ble_eq_true rfl⟩) ⟨ct_blind, ct_rv X.1 hP 0 rfl rfl, ct_preA X hP hD hS _⟩ rfl rfl hl.1 rfl (lv_room (Nat.le_of_ble_eq_true rfl)) dX12_chart_42 ⟨Nat.zero_le _, Nat.zero_le _⟩) (fun H locs hP hD hS => ?_)
      refine lv_istore_n (lv' := [(2, .int u8.1), (0, .ref (q0 0)), (1, .int x1)]) hx hb dX12_chart_45 rfl hl (by decide) rfl (fun ls hl => ?_)
      exact N46 fu u8.2 u8.1 _ _ _ h hP hD hS (lv_sub hl [1, 0] rfl)
    · have h := it_f h c3
      refine lv_iconst (v := (-1)) hx hb dX12_chart_19 (by decide) ?_
      exact RT (-1) S0 _ _ _ _ h rfl hP hD hS dX12_chart_20
theorem dX12_octet_0 : decode cX12_octet 0 = .ok (.aload_n 0, 1) := by decide +kernel
theorem dX12_octet_1 : decode cX12_octet 1 = .ok (.getfield 25, 3) := by decide +kernel
theorem dX12_octet_4 : decode cX12_octet 4 = .ok (.iload_n 1, 1) := by decide +kernel
theorem dX12_octet_5 : decode cX12_octet 5 = .ok (.baload, 1) := by decide +kernel
theorem dX12_octet_6 : decode cX12_octet 6 = .ok (.sipush 255, 3) := by decide +kernel
theorem dX12_octet_9 : decode cX12_octet 9 = .ok (.iand, 1) := by decide +kernel
theorem dX12_octet_10 : decode cX12_octet 10 = .ok (.ireturn, 1) := by decide +kernel
def f_X12_octet (S0 : Gr) (x1 : Int32) : Option (Int32) := rd' (S0.2 7) 260 x1 fun v1 => some (v1 &&& 255)
set_option maxHeartbeats 4000000 in
set_option maxRecDepth 100000 in
theorem c_X12_octet (l : Launch) (E : Ec) (q0 : Nat → Nat) (sz : Nat) (S0 : Gr) (x1 : Int32) (Rv : Int32) (h : f_X12_octet S0 x1 = some Rv) : Met l yX12_octet (wsM (.code yX12_octet cX12_octet 2 (some .int))) ({ frames := 0, cells := 0, slots := 0, locals := 0 } : Room) (va_Pc [.ref (q0 0), .int x1] (ctP E (cw_X12 E q0 S0) sz)) (ctI E (cw_X12 E q0 S0) (cw_X12 E q0 S0) sz Rv) 0 0 (va_A (cw_X12 E q0 S0) sz) := by
  refine ct_metI (by decide) (Nat.le_of_ble_eq_true rfl) ?_
  intro p e s m ar below meth c A QM hx hb hml hown hg X hP hD hS RET ls hl
  have hown : s.vm.findClass RX12 = some m.cls := hown
  have hl : lv_has ls 2 [(0, .ref (q0 0)), (1, .int x1)] := hl
  have RT : ∀ (v : Int32) (H : Heap) (locs : List Loc) (ls : Array Slot) (pc : Nat), some v = some Rv → narrow .int (.int v) = .int v → va_P E.1 vwCl (cw_X12 E q0 S0) H → va_D A (cw_X12 E q0 S0) → va_S A s.heap H locs → decode cX12_octet pc = .ok (.ireturn, 1) → W p l e ({ frames := 0, cells := 0, slots := 0, locals := 0 } : Room) s m ar below meth c H locs 0 0 QM (F0 m pc ls [.int v]) := by
    intro v H locs ls pc e hn hP hD hS d
    obtain rfl := sm_e e
    exact RET H locs pc ls hn hP hD hS d
  clear RET
  obtain ⟨H, eH⟩ : ∃ z, z = s.heap := ⟨_, rfl⟩
  rw [← eH]
  have hP : va_P E.1 vwCl (cw_X12 E q0 S0) H := by rw [eH]; exact hP
  have hS : va_S A s.heap H [] := by rw [eH]; exact hS
  clear eH
  obtain ⟨locs, el⟩ : ∃ z : List Loc, z = [] := ⟨_, rfl⟩
  rw [← el] at hS ⊢
  clear el
  refine lv_aload_n hx hb dX12_octet_0 rfl (lv_at hl 0 rfl) ?_
  refine va_get (D := E.1) (ci := 11) (v := .ref (q0 6)) (C := RX12) (T := TX12) (N := 57) hx hb hg in_X12 hown X.1 hP 0 rfl rfl 7 (by decide) (hg _ wf_X12_25) (fun _ h9 => h9) rfl dX12_octet_1 ?_
  refine lv_iload_n hx hb dX12_octet_4 rfl (lv_at hl 1 rfl) ?_
  obtain ⟨hi, v1, ev1, h⟩ := rd_el h
  refine va_bald hx hb X.1 hP 6 2 rfl rfl hi dX12_octet_5 ?_
  refine lv_top' ev1 ?_
  refine lv_sipush (v := 255) hx hb dX12_octet_6 (by decide) ?_
  refine lv_iand hx hb dX12_octet_9 ?_
  exact RT (v1 &&& 255) _ _ _ _ h rfl hP hD hS dX12_octet_10
theorem dX12_rarest_0 : decode cX12_rarest 0 = .ok (.iconst (-1), 1) := by decide +kernel
theorem dX12_rarest_1 : decode cX12_rarest 1 = .ok (.istore_n 2, 1) := by decide +kernel
theorem dX12_rarest_2 : decode cX12_rarest 2 = .ok (.iconst 0, 1) := by decide +kernel
theorem dX12_rarest_3 : decode cX12_rarest 3 = .ok (.istore_n 3, 1) := by decide +kernel
theorem dX12_rarest_4 : decode cX12_rarest 4 = .ok (.iload_n 3, 1) := by decide +kernel
theorem dX12_rarest_5 : decode cX12_rarest 5 = .ok (.iload_n 1, 1) := by decide +kernel
theorem dX12_rarest_6 : decode cX12_rarest 6 = .ok (.if_icmp .ge 40, 3) := by decide +kernel
theorem dX12_rarest_9 : decode cX12_rarest 9 = .ok (.aload_n 0, 1) := by decide +kernel
theorem dX12_rarest_10 : decode cX12_rarest 10 = .ok (.getfield 92, 3) := by decide +kernel
theorem dX12_rarest_13 : decode cX12_rarest 13 = .ok (.iload_n 3, 1) := by decide +kernel
theorem dX12_rarest_14 : decode cX12_rarest 14 = .ok (.iaload, 1) := by decide +kernel
theorem dX12_rarest_15 : decode cX12_rarest 15 = .ok (.ifCond .eq 25, 3) := by decide +kernel
theorem dX12_rarest_18 : decode cX12_rarest 18 = .ok (.iload_n 2, 1) := by decide +kernel
theorem dX12_rarest_19 : decode cX12_rarest 19 = .ok (.iconst (-1), 1) := by decide +kernel
theorem dX12_rarest_20 : decode cX12_rarest 20 = .ok (.if_icmp .eq 18, 3) := by decide +kernel
theorem dX12_rarest_23 : decode cX12_rarest 23 = .ok (.aload_n 0, 1) := by decide +kernel
theorem dX12_rarest_24 : decode cX12_rarest 24 = .ok (.getfield 92, 3) := by decide +kernel
theorem dX12_rarest_27 : decode cX12_rarest 27 = .ok (.iload_n 3, 1) := by decide +kernel
theorem dX12_rarest_28 : decode cX12_rarest 28 = .ok (.iaload, 1) := by decide +kernel
theorem dX12_rarest_29 : decode cX12_rarest 29 = .ok (.aload_n 0, 1) := by decide +kernel
theorem dX12_rarest_30 : decode cX12_rarest 30 = .ok (.getfield 92, 3) := by decide +kernel
theorem dX12_rarest_33 : decode cX12_rarest 33 = .ok (.iload_n 2, 1) := by decide +kernel
theorem dX12_rarest_34 : decode cX12_rarest 34 = .ok (.iaload, 1) := by decide +kernel
theorem dX12_rarest_35 : decode cX12_rarest 35 = .ok (.if_icmp .ge 5, 3) := by decide +kernel
theorem dX12_rarest_38 : decode cX12_rarest 38 = .ok (.iload_n 3, 1) := by decide +kernel
theorem dX12_rarest_39 : decode cX12_rarest 39 = .ok (.istore_n 2, 1) := by decide +kernel
theorem dX12_rarest_40 : decode cX12_rarest 40 = .ok (.iinc 3 1, 3) := by decide +kernel
theorem dX12_rarest_43 : decode cX12_rarest 43 = .ok (.goto (-39), 3) := by decide +kernel
theorem dX12_rarest_46 : decode cX12_rarest 46 = .ok (.iload_n 2, 1) := by decide +kernel
theorem dX12_rarest_47 : decode cX12_rarest 47 = .ok (.ireturn, 1) := by decide +kernel
def f_X12_rarest_n4 (S0 : Gr) (x1 : Int32) : Nat → Int32 → Int32 → Option (Int32)
  | 0, _, _ => none
  | n + 1, x2, x3 => if x1 ≤ x3 then (some x2) else (rd' (S0.2 47) 24 x3 fun v2 => if v2 = 0 then (lt' (x3 + 1) fun v4 => f_X12_rarest_n4 S0 x1 n x2 v4) else (if x2 = (-1) then (lt' (x3 + 1) fun v6 => f_X12_rarest_n4 S0 x1 n x3 v6) else (rd' (S0.2 47) 24 x3 fun v7 => rd' (S0.2 47) 24 x2 fun v8 => if v8 ≤ v7 then (lt' (x3 + 1) fun v10 => f_X12_rarest_n4 S0 x1 n x2 v10) else (lt' (x3 + 1) fun v11 => f_X12_rarest_n4 S0 x1 n x3 v11))))
def f_X12_rarest (S0 : Gr) (x1 : Int32) : Option (Int32) := f_X12_rarest_n4 S0 x1 fu (-1) 0
set_option maxHeartbeats 4000000 in
set_option maxRecDepth 100000 in
theorem c_X12_rarest (l : Launch) (E : Ec) (q0 : Nat → Nat) (sz : Nat) (S0 : Gr) (x1 : Int32) (Rv : Int32) (h : f_X12_rarest S0 x1 = some Rv) : Met l yX12_rarest (wsM (.code yX12_rarest cX12_rarest 4 (some .int))) ({ frames := 0, cells := 0, slots := 0, locals := 0 } : Room) (va_Pc [.ref (q0 0), .int x1] (ctP E (cw_X12 E q0 S0) sz)) (ctI E (cw_X12 E q0 S0) (cw_X12 E q0 S0) sz Rv) 0 0 (va_A (cw_X12 E q0 S0) sz) := by
  refine ct_metI (by decide) (Nat.le_of_ble_eq_true rfl) ?_
  intro p e s m ar below meth c A QM hx hb hml hown hg X hP hD hS RET ls hl
  have hown : s.vm.findClass RX12 = some m.cls := hown
  have hl : lv_has ls 4 [(0, .ref (q0 0)), (1, .int x1)] := hl
  have RT : ∀ (v : Int32) (H : Heap) (locs : List Loc) (ls : Array Slot) (pc : Nat), some v = some Rv → narrow .int (.int v) = .int v → va_P E.1 vwCl (cw_X12 E q0 S0) H → va_D A (cw_X12 E q0 S0) → va_S A s.heap H locs → decode cX12_rarest pc = .ok (.ireturn, 1) → W p l e ({ frames := 0, cells := 0, slots := 0, locals := 0 } : Room) s m ar below meth c H locs 0 0 QM (F0 m pc ls [.int v]) := by
    intro v H locs ls pc e hn hP hD hS d
    obtain rfl := sm_e e
    exact RET H locs pc ls hn hP hD hS d
  clear RET
  have N4 : ∀ (n : Nat) (x2 : Int32) (x3 : Int32) (H : Heap) (locs : List Loc) (ls : Array Slot), f_X12_rarest_n4 S0 x1 n x2 x3 = some Rv → va_P E.1 vwCl (cw_X12 E q0 S0) H → va_D A (cw_X12 E q0 S0) → va_S A s.heap H locs → lv_has ls 4 [(0, .ref (q0 0)), (1, .int x1), (2, .int x2), (3, .int x3)] → W p l e ({ frames := 0, cells := 0, slots := 0, locals := 0 } : Room) s m ar below meth c H locs 0 0 QM (F0 m 4 ls []) := by
    intro n
    induction n with
    | zero => intro x2 x3 H locs ls h; exact nn_el h
    | succ n ih =>
      intro x2 x3 H locs ls h hP hD hS hl
      refine lv_iload_n hx hb dX12_rarest_4 rfl (lv_at hl 3 rfl) ?_
      refine lv_iload_n hx hb dX12_rarest_5 rfl (lv_at hl 1 rfl) ?_
      refine lv_icmp_ge (tgt := 46) hx hb dX12_rarest_6 (by decide) (fun c1 => ?_) (fun c1 => ?_)
      · have h := it_t h c1
        refine lv_iload_n hx hb dX12_rarest_46 rfl (lv_at hl 2 rfl) ?_
        exact RT x2 _ _ _ _ h rfl hP hD hS dX12_rarest_47
      · have h := it_f h c1
        refine lv_aload_n hx hb dX12_rarest_9 rfl (lv_at hl 0 rfl) ?_
        refine va_get (D := E.1) (ci := 11) (v := .ref (q0 28)) (C := RX12) (T := TX12) (N := 57) hx hb hg in_X12 hown X.1 hP 0 rfl rfl 47 (by decide) (hg _ wf_X12_92) (fun _ h9 => h9) rfl dX12_rarest_10 ?_
        refine lv_iload_n hx hb dX12_rarest_13 rfl (lv_at hl 3 rfl) ?_
        obtain ⟨hi, v2, ev2, h⟩ := rd_el h
        refine va_iald hx hb X.1 hP 28 0 rfl rfl hi dX12_rarest_14 ?_
        refine lv_top' ev2 ?_
        refine lv_if_eq (tgt := 40) hx hb dX12_rarest_15 (by decide) (fun c3 => ?_) (fun c3 => ?_)
        · have h := it_t h c3
          obtain ⟨v4, ev4, h⟩ := lt_el h
          refine lv_iinc (v := v4) (lv' := [(3, .int v4), (0, .ref (q0 0)), (1, .int x1), (2, .int x2)]) hx hb dX12_rarest_40 hl (k := 3) rfl (by rw [ev4]; rfl) (by decide) rfl (fun ls hl => ?_)
          refine lv_goto (tgt := 4) hx hb dX12_rarest_43 (by decide) ?_
          exact ih x2 v4 _ _ _ h hP hD hS (lv_sub hl [1, 2, 3, 0] rfl)
        · have h := it_f h c3
          refine lv_iload_n hx hb dX12_rarest_18 rfl (lv_at hl 2 rfl) ?_
          refine lv_iconst (v := (-1)) hx hb dX12_rarest_19 (by decide) ?_
          refine lv_icmp_eq (tgt := 38) hx hb dX12_rarest_20 (by decide) (fun c5 => ?_) (fun c5 => ?_)
          · have h := it_t h c5
            refine lv_iload_n hx hb dX12_rarest_38 rfl (lv_at hl 3 rfl) ?_
            refine lv_istore_n (lv' := [(2, .int x3), (0, .ref (q0 0)), (1, .int x1), (3, .int x3)]) hx hb dX12_rarest_39 rfl hl (by decide) rfl (fun ls hl => ?_)
            obtain ⟨v6, ev6, h⟩ := lt_el h
            refine lv_iinc (v := v6) (lv' := [(3, .int v6), (2, .int x3), (0, .ref (q0 0)), (1, .int x1)]) hx hb dX12_rarest_40 hl (k := 3) rfl (by rw [ev6]; rfl) (by decide) rfl (fun ls hl => ?_)
            refine lv_goto (tgt := 4) hx hb dX12_rarest_43 (by decide) ?_
            exact ih x3 v6 _ _ _ h hP hD hS (lv_sub hl [2, 3, 1, 0] rfl)
          · have h := it_f h c5
            refine lv_aload_n hx hb dX12_rarest_23 rfl (lv_at hl 0 rfl) ?_
            refine va_get (D := E.1) (ci := 11) (v := .ref (q0 28)) (C := RX12) (T := TX12) (N := 57) hx hb hg in_X12 hown X.1 hP 0 rfl rfl 47 (by decide) (hg _ wf_X12_92) (fun _ h9 => h9) rfl dX12_rarest_24 ?_
            refine lv_iload_n hx hb dX12_rarest_27 rfl (lv_at hl 3 rfl) ?_
            obtain ⟨hi, v7, ev7, h⟩ := rd_el h
            refine va_iald hx hb X.1 hP 28 0 rfl rfl hi dX12_rarest_28 ?_
            refine lv_top' ev7 ?_
            refine lv_aload_n hx hb dX12_rarest_29 rfl (lv_at hl 0 rfl) ?_
            refine va_get (D := E.1) (ci := 11) (v := .ref (q0 28)) (C := RX12) (T := TX12) (N := 57) hx hb hg in_X12 hown X.1 hP 0 rfl rfl 47 (by decide) (hg _ wf_X12_92) (fun _ h9 => h9) rfl dX12_rarest_30 ?_
            refine lv_iload_n hx hb dX12_rarest_33 rfl (lv_at hl 2 rfl) ?_
            obtain ⟨hi, v8, ev8, h⟩ := rd_el h
            refine va_iald hx hb X.1 hP 28 0 rfl rfl hi dX12_rarest_34 ?_
            refine lv_top' ev8 ?_
            refine lv_icmp_ge (tgt := 40) hx hb dX12_rarest_35 (by decide) (fun c9 => ?_) (fun c9 => ?_)
            · have h := it_t h c9
              obtain ⟨v10, ev10, h⟩ := lt_el h
              refine lv_iinc (v := v10) (lv' := [(3, .int v10), (0, .ref (q0 0)), (1, .int x1), (2, .int x2)]) hx hb dX12_rarest_40 hl (k := 3) rfl (by rw [ev10]; rfl) (by decide) rfl (fun ls hl => ?_)
              refine lv_goto (tgt := 4) hx hb dX12_rarest_43 (by decide) ?_
              exact ih x2 v10 _ _ _ h hP hD hS (lv_sub hl [1, 2, 3, 0] rfl)
            · have h := it_f h c9
              refine lv_iload_n hx hb dX12_rarest_38 rfl (lv_at hl 3 rfl) ?_
              refine lv_istore_n (lv' := [(2, .int x3), (0, .ref (q0 0)), (1, .int x1), (3, .int x3)]) hx hb dX12_rarest_39 rfl hl (by decide) rfl (fun ls hl => ?_)
              obtain ⟨v11, ev11, h⟩ := lt_el h
              refine lv_iinc (v := v11) (lv' := [(3, .int v11), (2, .int x3), (0, .ref (q0 0)), (1, .int x1)]) hx hb dX12_rarest_40 hl (k := 3) rfl (by rw [ev11]; rfl) (by decide) rfl (fun ls hl => ?_)
              refine lv_goto (tgt := 4) hx hb dX12_rarest_43 (by decide) ?_
              exact ih x3 v11 _ _ _ h hP hD hS (lv_sub hl [2, 3, 1, 0] rfl)
  obtain ⟨H, eH⟩ : ∃ z, z = s.heap := ⟨_, rfl⟩
  rw [← eH]
  have hP : va_P E.1 vwCl (cw_X12 E q0 S0) H := by rw [eH]; exact hP
  have hS : va_S A s.heap H [] := by rw [eH]; exact hS
  clear eH
  obtain ⟨locs, el⟩ : ∃ z : List Loc, z = [] := ⟨_, rfl⟩
  rw [← el] at hS ⊢
  clear el
  refine lv_iconst (v := (-1)) hx hb dX12_rarest_0 (by decide) ?_
  refine lv_istore_n (lv' := [(2, .int (-1)), (0, .ref (q0 0)), (1, .int x1)]) hx hb dX12_rarest_1 rfl hl (by decide) rfl (fun ls hl => ?_)
  refine lv_iconst (v := 0) hx hb dX12_rarest_2 (by decide) ?_
  refine lv_istore_n (lv' := [(3, .int 0), (2, .int (-1)), (0, .ref (q0 0)), (1, .int x1)]) hx hb dX12_rarest_3 rfl hl (by decide) rfl (fun ls hl => ?_)
  exact N4 fu (-1) 0 _ _ _ h hP hD hS (lv_sub hl [2, 3, 1, 0] rfl)
theorem dX12_code_0 : decode cX12_code 0 = .ok (.iload_n 1, 1) := by decide +kernel
theorem dX12_code_1 : decode cX12_code 1 = .ok (.iconst 2, 1) := by decide +kernel
theorem dX12_code_2 : decode cX12_code 2 = .ok (.bipush 12, 2) := by decide +kernel
theorem dX12_code_4 : decode cX12_code 4 = .ok (.invokestatic 110, 3) := by decide +kernel
theorem dX12_code_7 : decode cX12_code 7 = .ok (.ifCond .eq 20, 3) := by decide +kernel
theorem dX12_code_10 : decode cX12_code 10 = .ok (.iload_n 2, 1) := by decide +kernel
theorem dX12_code_11 : decode cX12_code 11 = .ok (.iconst 0, 1) := by decide +kernel
theorem dX12_code_12 : decode cX12_code 12 = .ok (.iconst 1, 1) := by decide +kernel
theorem dX12_code_13 : decode cX12_code 13 = .ok (.invokestatic 110, 3) := by decide +kernel
theorem dX12_code_16 : decode cX12_code 16 = .ok (.ifCond .eq 11, 3) := by decide +kernel
theorem dX12_code_19 : decode cX12_code 19 = .ok (.iload_n 1, 1) := by decide +kernel
theorem dX12_code_20 : decode cX12_code 20 = .ok (.aload_n 0, 1) := by decide +kernel
theorem dX12_code_21 : decode cX12_code 21 = .ok (.getfield 143, 3) := by decide +kernel
theorem dX12_code_24 : decode cX12_code 24 = .ok (.if_icmp .le 5, 3) := by decide +kernel
theorem dX12_code_27 : decode cX12_code 27 = .ok (.iconst (-1), 1) := by decide +kernel
theorem dX12_code_28 : decode cX12_code 28 = .ok (.ireturn, 1) := by decide +kernel
theorem dX12_code_29 : decode cX12_code 29 = .ok (.aload_n 0, 1) := by decide +kernel
theorem dX12_code_30 : decode cX12_code 30 = .ok (.iconst 0, 1) := by decide +kernel
theorem dX12_code_31 : decode cX12_code 31 = .ok (.putfield 143, 3) := by decide +kernel
theorem dX12_code_34 : decode cX12_code 34 = .ok (.iconst 0, 1) := by decide +kernel
theorem dX12_code_35 : decode cX12_code 35 = .ok (.istore_n 3, 1) := by decide +kernel
theorem dX12_code_36 : decode cX12_code 36 = .ok (.iload_n 3, 1) := by decide +kernel
theorem dX12_code_37 : decode cX12_code 37 = .ok (.iload_n 1, 1) := by decide +kernel
theorem dX12_code_38 : decode cX12_code 38 = .ok (.if_icmp .ge 38, 3) := by decide +kernel
theorem dX12_code_41 : decode cX12_code 41 = .ok (.aload_n 0, 1) := by decide +kernel
theorem dX12_code_42 : decode cX12_code 42 = .ok (.getfield 92, 3) := by decide +kernel
theorem dX12_code_45 : decode cX12_code 45 = .ok (.iload_n 3, 1) := by decide +kernel
theorem dX12_code_46 : decode cX12_code 46 = .ok (.aload_n 0, 1) := by decide +kernel
theorem dX12_code_47 : decode cX12_code 47 = .ok (.iload_n 3, 1) := by decide +kernel
theorem dX12_code_48 : decode cX12_code 48 = .ok (.invokevirtual 351, 3) := by decide +kernel
theorem dX12_code_51 : decode cX12_code 51 = .ok (.iastore, 1) := by decide +kernel
theorem dX12_code_52 : decode cX12_code 52 = .ok (.aload_n 0, 1) := by decide +kernel
theorem dX12_code_53 : decode cX12_code 53 = .ok (.getfield 95, 3) := by decide +kernel
theorem dX12_code_56 : decode cX12_code 56 = .ok (.iload_n 3, 1) := by decide +kernel
theorem dX12_code_57 : decode cX12_code 57 = .ok (.iconst 0, 1) := by decide +kernel
theorem dX12_code_58 : decode cX12_code 58 = .ok (.iastore, 1) := by decide +kernel
theorem dX12_code_59 : decode cX12_code 59 = .ok (.aload_n 0, 1) := by decide +kernel
theorem dX12_code_60 : decode cX12_code 60 = .ok (.iload_n 3, 1) := by decide +kernel
theorem dX12_code_61 : decode cX12_code 61 = .ok (.invokevirtual 351, 3) := by decide +kernel
theorem dX12_code_64 : decode cX12_code 64 = .ok (.ifCond .ne 6, 3) := by decide +kernel
theorem dX12_code_67 : decode cX12_code 67 = .ok (.bipush (-3), 2) := by decide +kernel
theorem dX12_code_69 : decode cX12_code 69 = .ok (.ireturn, 1) := by decide +kernel
theorem dX12_code_70 : decode cX12_code 70 = .ok (.iinc 3 1, 3) := by decide +kernel
theorem dX12_code_73 : decode cX12_code 73 = .ok (.goto (-37), 3) := by decide +kernel
theorem dX12_code_76 : decode cX12_code 76 = .ok (.iconst 0, 1) := by decide +kernel
theorem dX12_code_77 : decode cX12_code 77 = .ok (.istore_n 3, 1) := by decide +kernel
theorem dX12_code_78 : decode cX12_code 78 = .ok (.iload_n 1, 1) := by decide +kernel
theorem dX12_code_79 : decode cX12_code 79 = .ok (.istore 4, 2) := by decide +kernel
theorem dX12_code_81 : decode cX12_code 81 = .ok (.iload 4, 2) := by decide +kernel
theorem dX12_code_83 : decode cX12_code 83 = .ok (.iconst 2, 1) := by decide +kernel
theorem dX12_code_84 : decode cX12_code 84 = .ok (.iload_n 1, 1) := by decide +kernel
theorem dX12_code_85 : decode cX12_code 85 = .ok (.imul, 1) := by decide +kernel
theorem dX12_code_86 : decode cX12_code 86 = .ok (.iconst 1, 1) := by decide +kernel
theorem dX12_code_87 : decode cX12_code 87 = .ok (.isub, 1) := by decide +kernel
theorem dX12_code_88 : decode cX12_code 88 = .ok (.if_icmp .ge 132, 3) := by decide +kernel
theorem dX12_code_91 : decode cX12_code 91 = .ok (.aload_n 0, 1) := by decide +kernel
theorem dX12_code_92 : decode cX12_code 92 = .ok (.iload 4, 2) := by decide +kernel
theorem dX12_code_94 : decode cX12_code 94 = .ok (.invokevirtual 396, 3) := by decide +kernel
theorem dX12_code_97 : decode cX12_code 97 = .ok (.istore 5, 2) := by decide +kernel
theorem dX12_code_99 : decode cX12_code 99 = .ok (.aload_n 0, 1) := by decide +kernel
theorem dX12_code_100 : decode cX12_code 100 = .ok (.getfield 92, 3) := by decide +kernel
theorem dX12_code_103 : decode cX12_code 103 = .ok (.iload 4, 2) := by decide +kernel
theorem dX12_code_105 : decode cX12_code 105 = .ok (.aload_n 0, 1) := by decide +kernel
theorem dX12_code_106 : decode cX12_code 106 = .ok (.getfield 92, 3) := by decide +kernel
theorem dX12_code_109 : decode cX12_code 109 = .ok (.iload 5, 2) := by decide +kernel
theorem dX12_code_111 : decode cX12_code 111 = .ok (.iaload, 1) := by decide +kernel
theorem dX12_code_112 : decode cX12_code 112 = .ok (.iastore, 1) := by decide +kernel
theorem dX12_code_113 : decode cX12_code 113 = .ok (.aload_n 0, 1) := by decide +kernel
theorem dX12_code_114 : decode cX12_code 114 = .ok (.getfield 95, 3) := by decide +kernel
theorem dX12_code_117 : decode cX12_code 117 = .ok (.iload 4, 2) := by decide +kernel
theorem dX12_code_119 : decode cX12_code 119 = .ok (.aload_n 0, 1) := by decide +kernel
theorem dX12_code_120 : decode cX12_code 120 = .ok (.getfield 95, 3) := by decide +kernel
theorem dX12_code_123 : decode cX12_code 123 = .ok (.iload 5, 2) := by decide +kernel
theorem dX12_code_125 : decode cX12_code 125 = .ok (.iaload, 1) := by decide +kernel
theorem dX12_code_126 : decode cX12_code 126 = .ok (.iconst 1, 1) := by decide +kernel
theorem dX12_code_127 : decode cX12_code 127 = .ok (.iadd, 1) := by decide +kernel
theorem dX12_code_128 : decode cX12_code 128 = .ok (.iastore, 1) := by decide +kernel
theorem dX12_code_129 : decode cX12_code 129 = .ok (.aload_n 0, 1) := by decide +kernel
theorem dX12_code_130 : decode cX12_code 130 = .ok (.getfield 92, 3) := by decide +kernel
theorem dX12_code_133 : decode cX12_code 133 = .ok (.iload 5, 2) := by decide +kernel
theorem dX12_code_135 : decode cX12_code 135 = .ok (.iconst 0, 1) := by decide +kernel
theorem dX12_code_136 : decode cX12_code 136 = .ok (.iastore, 1) := by decide +kernel
theorem dX12_code_137 : decode cX12_code 137 = .ok (.aload_n 0, 1) := by decide +kernel
theorem dX12_code_138 : decode cX12_code 138 = .ok (.iload 4, 2) := by decide +kernel
theorem dX12_code_140 : decode cX12_code 140 = .ok (.invokevirtual 396, 3) := by decide +kernel
theorem dX12_code_143 : decode cX12_code 143 = .ok (.istore 6, 2) := by decide +kernel
theorem dX12_code_145 : decode cX12_code 145 = .ok (.aload_n 0, 1) := by decide +kernel
theorem dX12_code_146 : decode cX12_code 146 = .ok (.getfield 92, 3) := by decide +kernel
theorem dX12_code_149 : decode cX12_code 149 = .ok (.iload 4, 2) := by decide +kernel
theorem dX12_code_151 : decode cX12_code 151 = .ok (.aload_n 0, 1) := by decide +kernel
theorem dX12_code_152 : decode cX12_code 152 = .ok (.getfield 92, 3) := by decide +kernel
theorem dX12_code_155 : decode cX12_code 155 = .ok (.iload 4, 2) := by decide +kernel
theorem dX12_code_157 : decode cX12_code 157 = .ok (.iaload, 1) := by decide +kernel
theorem dX12_code_158 : decode cX12_code 158 = .ok (.aload_n 0, 1) := by decide +kernel
theorem dX12_code_159 : decode cX12_code 159 = .ok (.getfield 92, 3) := by decide +kernel
theorem dX12_code_162 : decode cX12_code 162 = .ok (.iload 6, 2) := by decide +kernel
theorem dX12_code_164 : decode cX12_code 164 = .ok (.iaload, 1) := by decide +kernel
theorem dX12_code_165 : decode cX12_code 165 = .ok (.iadd, 1) := by decide +kernel
theorem dX12_code_166 : decode cX12_code 166 = .ok (.iastore, 1) := by decide +kernel
theorem dX12_code_167 : decode cX12_code 167 = .ok (.aload_n 0, 1) := by decide +kernel
theorem dX12_code_168 : decode cX12_code 168 = .ok (.getfield 95, 3) := by decide +kernel
theorem dX12_code_171 : decode cX12_code 171 = .ok (.iload 4, 2) := by decide +kernel
theorem dX12_code_173 : decode cX12_code 173 = .ok (.aload_n 0, 1) := by decide +kernel
theorem dX12_code_174 : decode cX12_code 174 = .ok (.getfield 95, 3) := by decide +kernel
theorem dX12_code_177 : decode cX12_code 177 = .ok (.iload 4, 2) := by decide +kernel
theorem dX12_code_179 : decode cX12_code 179 = .ok (.iaload, 1) := by decide +kernel
theorem dX12_code_180 : decode cX12_code 180 = .ok (.aload_n 0, 1) := by decide +kernel
theorem dX12_code_181 : decode cX12_code 181 = .ok (.getfield 95, 3) := by decide +kernel
theorem dX12_code_184 : decode cX12_code 184 = .ok (.iload 6, 2) := by decide +kernel
theorem dX12_code_186 : decode cX12_code 186 = .ok (.iaload, 1) := by decide +kernel
theorem dX12_code_187 : decode cX12_code 187 = .ok (.iconst 1, 1) := by decide +kernel
theorem dX12_code_188 : decode cX12_code 188 = .ok (.iadd, 1) := by decide +kernel
theorem dX12_code_189 : decode cX12_code 189 = .ok (.invokestatic 129, 3) := by decide +kernel
theorem dX12_code_192 : decode cX12_code 192 = .ok (.iastore, 1) := by decide +kernel
theorem dX12_code_193 : decode cX12_code 193 = .ok (.aload_n 0, 1) := by decide +kernel
theorem dX12_code_194 : decode cX12_code 194 = .ok (.getfield 92, 3) := by decide +kernel
theorem dX12_code_197 : decode cX12_code 197 = .ok (.iload 6, 2) := by decide +kernel
theorem dX12_code_199 : decode cX12_code 199 = .ok (.iconst 0, 1) := by decide +kernel
theorem dX12_code_200 : decode cX12_code 200 = .ok (.iastore, 1) := by decide +kernel
theorem dX12_code_201 : decode cX12_code 201 = .ok (.iload_n 3, 1) := by decide +kernel
theorem dX12_code_202 : decode cX12_code 202 = .ok (.aload_n 0, 1) := by decide +kernel
theorem dX12_code_203 : decode cX12_code 203 = .ok (.getfield 92, 3) := by decide +kernel
theorem dX12_code_206 : decode cX12_code 206 = .ok (.iload 4, 2) := by decide +kernel
theorem dX12_code_208 : decode cX12_code 208 = .ok (.iaload, 1) := by decide +kernel
theorem dX12_code_209 : decode cX12_code 209 = .ok (.iadd, 1) := by decide +kernel
theorem dX12_code_210 : decode cX12_code 210 = .ok (.istore_n 3, 1) := by decide +kernel
theorem dX12_code_211 : decode cX12_code 211 = .ok (.iload 4, 2) := by decide +kernel
theorem dX12_code_213 : decode cX12_code 213 = .ok (.iconst 1, 1) := by decide +kernel
theorem dX12_code_214 : decode cX12_code 214 = .ok (.iadd, 1) := by decide +kernel
theorem dX12_code_215 : decode cX12_code 215 = .ok (.istore 4, 2) := by decide +kernel
theorem dX12_code_217 : decode cX12_code 217 = .ok (.goto (-136), 3) := by decide +kernel
theorem dX12_code_220 : decode cX12_code 220 = .ok (.iload_n 2, 1) := by decide +kernel
theorem dX12_code_221 : decode cX12_code 221 = .ok (.ifCond .ne 7, 3) := by decide +kernel
theorem dX12_code_224 : decode cX12_code 224 = .ok (.iload_n 3, 1) := by decide +kernel
theorem dX12_code_225 : decode cX12_code 225 = .ok (.goto 12, 3) := by decide +kernel
theorem dX12_code_228 : decode cX12_code 228 = .ok (.aload_n 0, 1) := by decide +kernel
theorem dX12_code_229 : decode cX12_code 229 = .ok (.getfield 95, 3) := by decide +kernel
theorem dX12_code_232 : decode cX12_code 232 = .ok (.iload 4, 2) := by decide +kernel
theorem dX12_code_234 : decode cX12_code 234 = .ok (.iconst 1, 1) := by decide +kernel
theorem dX12_code_235 : decode cX12_code 235 = .ok (.isub, 1) := by decide +kernel
theorem dX12_code_236 : decode cX12_code 236 = .ok (.iaload, 1) := by decide +kernel
theorem dX12_code_237 : decode cX12_code 237 = .ok (.ireturn, 1) := by decide +kernel
def f_X12_code_n81 (x1 : Int32) (x2 : Int32) : Nat → Gr → Int32 → Int32 → Option (Int32 × Gr)
  | 0, _, _, _ => none
  | n + 1, S0, x3, x4 => if ((2 * x1) - 1) ≤ x4 then (if x2 = 0 then (some (x3, S0)) else (rd' (S0.2 48) 24 (x4 - 1) fun v16 => some (v16, S0))) else ((f_X12_rarest S0 x4).bind fun u17 => rd' (S0.2 47) 24 u17 fun v18 => ck' 24 x4 (lt' (sA S0 47 (Int32.toNatClampNeg x4) v18) fun S0_19 => rd' (S0_19.2 48) 24 u17 fun v20 => ck' 24 x4 (lt' (sA S0_19 48 (Int32.toNatClampNeg x4) (v20 + 1)) fun S0_21 => ck' 24 u17 (lt' (sA S0_21 47 (Int32.toNatClampNeg u17) 0) fun S0_22 => (f_X12_rarest S0_22 x4).bind fun u23 => rd' (S0_22.2 47) 24 x4 fun v24 => rd' (S0_22.2 47) 24 u23 fun v25 => ck' 24 x4 (lt' (sA S0_22 47 (Int32.toNatClampNeg x4) (v24 + v25)) fun S0_26 => rd' (S0_26.2 48) 24 x4 fun v27 => rd' (S0_26.2 48) 24 u23 fun v28 => (f_X12_max v27 (v28 + 1)).bind fun u29 => ck' 24 x4 (lt' (sA S0_26 48 (Int32.toNatClampNeg x4) u29) fun S0_30 => ck' 24 u23 (lt' (sA S0_30 47 (Int32.toNatClampNeg u23) 0) fun S0_31 => rd' (S0_31.2 47) 24 x4 fun v32 => lt' ((x3 + v32)) fun v33 => lt' ((x4 + 1)) fun v34 => f_X12_code_n81 x1 x2 n S0_31 v33 v34)))))))
def f_X12_code_n36 (x1 : Int32) (x2 : Int32) : Nat → Gr → Int32 → Option (Int32 × Gr)
  | 0, _, _ => none
  | n + 1, S0, x3 => if x1 ≤ x3 then (f_X12_code_n81 x1 x2 fu S0 0 x1) else ((f_X12_octet S0 x3).bind fun u8 => ck' 24 x3 (lt' (sA S0 47 (Int32.toNatClampNeg x3) u8) fun S0_9 => ck' 24 x3 (lt' (sA S0_9 48 (Int32.toNatClampNeg x3) 0) fun S0_10 => (f_X12_octet S0_10 x3).bind fun u11 => if u11 = 0 then (some ((-3), S0_10)) else (lt' (x3 + 1) fun v13 => f_X12_code_n36 x1 x2 n S0_10 v13))))
def f_X12_code (S0 : Gr) (x1 : Int32) (x2 : Int32) : Option (Int32 × Gr) := (f_X12_in x1 2 12).bind fun u1 => if u1 = 0 then (some ((-1), S0)) else ((f_X12_in x2 0 1).bind fun u3 => if u3 = 0 then (some ((-1), S0)) else (if x1 ≤ (S0.1 8) then (lt' (sI S0 8 0) fun S0_6 => f_X12_code_n36 x1 x2 fu S0_6 0) else (some ((-1), S0))))
set_option maxHeartbeats 4000000 in
set_option maxRecDepth 100000 in
theorem c_X12_code (l : Launch) (E : Ec) (q0 : Nat → Nat) (sz : Nat) (S0 : Gr) (x1 : Int32) (x2 : Int32) (Rv : Int32 × Gr) (h : f_X12_code S0 x1 x2 = some Rv) : Met l yX12_code (wsM (.code yX12_code cX12_code 7 (some .int))) ({ frames := 1, cells := 0, slots := 0, locals := 23 } : Room) (va_Pc [.ref (q0 0), .int x1, .int x2] (ctP E (cw_X12 E q0 S0) sz)) (ctI E (cw_X12 E q0 S0) (cw_X12 E q0 Rv.2) sz Rv.1) 0 0 (va_A (cw_X12 E q0 S0) sz) := by
  refine ct_metI (by decide) (Nat.le_of_ble_eq_true rfl) ?_
  intro p e s m ar below meth c A QM hx hb hml hown hg X hP hD hS RET ls hl
  have hown : s.vm.findClass RX12 = some m.cls := hown
  have hl : lv_has ls 7 [(0, .ref (q0 0)), (1, .int x1), (2, .int x2)] := hl
  have RT : ∀ (v : Int32) (S0 : Gr) (H : Heap) (locs : List Loc) (ls : Array Slot) (pc : Nat), some (v, S0) = some Rv → narrow .int (.int v) = .int v → va_P E.1 vwCl (cw_X12 E q0 S0) H → va_D A (cw_X12 E q0 S0) → va_S A s.heap H locs → decode cX12_code pc = .ok (.ireturn, 1) → W p l e ({ frames := 1, cells := 0, slots := 0, locals := 23 } : Room) s m ar below meth c H locs 0 0 QM (F0 m pc ls [.int v]) := by
    intro v S0 H locs ls pc e hn hP hD hS d
    obtain rfl := sm_e e
    exact RET H locs pc ls hn hP hD hS d
  clear RET
  have N81 : ∀ (n : Nat) (S0 : Gr) (x3 : Int32) (x4 : Int32) (H : Heap) (locs : List Loc) (ls : Array Slot), f_X12_code_n81 x1 x2 n S0 x3 x4 = some Rv → va_P E.1 vwCl (cw_X12 E q0 S0) H → va_D A (cw_X12 E q0 S0) → va_S A s.heap H locs → lv_has ls 7 [(0, .ref (q0 0)), (1, .int x1), (2, .int x2), (3, .int x3), (4, .int x4)] → W p l e ({ frames := 1, cells := 0, slots := 0, locals := 23 } : Room) s m ar below meth c H locs 0 0 QM (F0 m 81 ls []) := by
    intro n
    induction n with
    | zero => intro S0 x3 x4 H locs ls h; exact nn_el h
    | succ n ih =>
      intro S0 x3 x4 H locs ls h hP hD hS hl
      refine lv_iload hx hb dX12_code_81 (lv_at hl 4 rfl) ?_
      refine lv_iconst (v := 2) hx hb dX12_code_83 (by decide) ?_
      refine lv_iload_n hx hb dX12_code_84 rfl (lv_at hl 1 rfl) ?_
      refine lv_imul hx hb dX12_code_85 ?_
      refine lv_iconst (v := 1) hx hb dX12_code_86 (by decide) ?_
      refine lv_isub hx hb dX12_code_87 ?_
      refine lv_icmp_ge (tgt := 220) hx hb dX12_code_88 (by decide) (fun c14 => ?_) (fun c14 => ?_)
      · have h := it_t h c14
        refine lv_iload_n hx hb dX12_code_220 rfl (lv_at hl 2 rfl) ?_
        refine lv_if_ne (tgt := 228) hx hb dX12_code_221 (by decide) (fun c15 => ?_) (fun c15 => ?_)
        · have h := it_f h c15
          refine lv_aload_n hx hb dX12_code_228 rfl (lv_at hl 0 rfl) ?_
          refine va_get (D := E.1) (ci := 11) (v := .ref (q0 29)) (C := RX12) (T := TX12) (N := 57) hx hb hg in_X12 hown X.1 hP 0 rfl rfl 48 (by decide) (hg _ wf_X12_95) (fun _ h9 => h9) rfl dX12_code_229 ?_
          refine lv_iload hx hb dX12_code_232 (lv_at hl 4 rfl) ?_
          refine lv_iconst (v := 1) hx hb dX12_code_234 (by decide) ?_
          refine lv_isub hx hb dX12_code_235 ?_
          obtain ⟨hi, v16, ev16, h⟩ := rd_el h
          refine va_iald hx hb X.1 hP 29 0 rfl rfl hi dX12_code_236 ?_
          refine lv_top' ev16 ?_
          exact RT v16 S0 _ _ _ _ h rfl hP hD hS dX12_code_237
        · have h := it_t h c15
          refine lv_iload_n hx hb dX12_code_224 rfl (lv_at hl 3 rfl) ?_
          refine lv_goto (tgt := 237) hx hb dX12_code_225 (by decide) ?_
          exact RT x3 S0 _ _ _ _ h rfl hP hD hS dX12_code_237
      · have h := it_f h c14
        refine lv_aload_n hx hb dX12_code_91 rfl (lv_at hl 0 rfl) ?_
        refine lv_iload hx hb dX12_code_92 (lv_at hl 4 rfl) ?_
        obtain ⟨u17, hc, h⟩ := bd_el h
        refine ct_iA (w1 := cw_X12 E q0 S0) X hP hD hS (va_runV (C := RX12) (As := [.int x4]) (rest := []) ⟨hx, hb, hml, hown, hg⟩ (c_X12_rarest l E q0 H.size S0 x4 u17 hc) (cwV 1 hg (gwV wm_X12_396 wi_X12_rarest wsl_X12_rarest wini_X12 wco_X12_rarest) rfl rfl rfl (by decide +kernel) ⟨Nat.le_of_ble_eq_true rfl, Nat.le_of_ble_eq_true rfl⟩) ⟨ct_blind, ct_rv X.1 hP 0 rfl rfl, ct_preA X hP hD hS _⟩ rfl rfl hl.1 rfl (lv_room (Nat.le_of_ble_eq_true rfl)) dX12_code_94 ⟨Nat.zero_le _, Nat.zero_le _⟩) (fun H locs hP hD hS => ?_)
        refine lv_istore (lv' := [(5, .int u17), (0, .ref (q0 0)), (1, .int x1), (2, .int x2), (3, .int x3), (4, .int x4)]) hx hb dX12_code_97 hl (by decide) rfl (fun ls hl => ?_)
        refine lv_aload_n hx hb dX12_code_99 rfl (lv_at hl 1 rfl) ?_
        refine va_get (D := E.1) (ci := 11) (v := .ref (q0 28)) (C := RX12) (T := TX12) (N := 57) hx hb hg in_X12 hown X.1 hP 0 rfl rfl 47 (by decide) (hg _ wf_X12_92) (fun _ h9 => h9) rfl dX12_code_100 ?_
        refine lv_iload hx hb dX12_code_103 (lv_at hl 5 rfl) ?_
        refine lv_aload_n hx hb dX12_code_105 rfl (lv_at hl 1 rfl) ?_
        refine va_get (D := E.1) (ci := 11) (v := .ref (q0 28)) (C := RX12) (T := TX12) (N := 57) hx hb hg in_X12 hown X.1 hP 0 rfl rfl 47 (by decide) (hg _ wf_X12_92) (fun _ h9 => h9) rfl dX12_code_106 ?_
        refine lv_iload hx hb dX12_code_109 (lv_at hl 0 rfl) ?_
        obtain ⟨hi, v18, ev18, h⟩ := rd_el h
        refine va_iald hx hb X.1 hP 28 0 rfl rfl hi dX12_code_111 ?_
        refine lv_top' ev18 ?_
        obtain ⟨hi, h⟩ := ck_el h
        obtain ⟨S0_19, eS, h⟩ := lt_el h
        refine va_iast hx hb X.1 hP hD hS 28 0 rfl rfl hi dX12_code_112 (fun H locs hP hD hS => ?_)
        have hP : va_P E.1 vwCl (cw_X12 E q0 S0_19) H := by rw [eS]; exact hP
        have hD : va_D A (cw_X12 E q0 S0_19) := by rw [eS]; exact hD
        clear eS
        refine lv_aload_n hx hb dX12_code_113 rfl (lv_at hl 1 rfl) ?_
        refine va_get (D := E.1) (ci := 11) (v := .ref (q0 29)) (C := RX12) (T := TX12) (N := 57) hx hb hg in_X12 hown X.1 hP 0 rfl rfl 48 (by decide) (hg _ wf_X12_95) (fun _ h9 => h9) rfl dX12_code_114 ?_
        refine lv_iload hx hb dX12_code_117 (lv_at hl 5 rfl) ?_
        refine lv_aload_n hx hb dX12_code_119 rfl (lv_at hl 1 rfl) ?_
        refine va_get (D := E.1) (ci := 11) (v := .ref (q0 29)) (C := RX12) (T := TX12) (N := 57) hx hb hg in_X12 hown X.1 hP 0 rfl rfl 48 (by decide) (hg _ wf_X12_95) (fun _ h9 => h9) rfl dX12_code_120 ?_
        refine lv_iload hx hb dX12_code_123 (lv_at hl 0 rfl) ?_
        obtain ⟨hi, v20, ev20, h⟩ := rd_el h
        refine va_iald hx hb X.1 hP 29 0 rfl rfl hi dX12_code_125 ?_
        refine lv_top' ev20 ?_
        refine lv_iconst (v := 1) hx hb dX12_code_126 (by decide) ?_
        refine lv_iadd hx hb dX12_code_127 ?_
        obtain ⟨hi, h⟩ := ck_el h
        obtain ⟨S0_21, eS, h⟩ := lt_el h
        refine va_iast hx hb X.1 hP hD hS 29 0 rfl rfl hi dX12_code_128 (fun H locs hP hD hS => ?_)
        have hP : va_P E.1 vwCl (cw_X12 E q0 S0_21) H := by rw [eS]; exact hP
        have hD : va_D A (cw_X12 E q0 S0_21) := by rw [eS]; exact hD
        clear eS
        refine lv_aload_n hx hb dX12_code_129 rfl (lv_at hl 1 rfl) ?_
        refine va_get (D := E.1) (ci := 11) (v := .ref (q0 28)) (C := RX12) (T := TX12) (N := 57) hx hb hg in_X12 hown X.1 hP 0 rfl rfl 47 (by decide) (hg _ wf_X12_92) (fun _ h9 => h9) rfl dX12_code_130 ?_
        refine lv_iload hx hb dX12_code_133 (lv_at hl 0 rfl) ?_
        refine lv_iconst (v := 0) hx hb dX12_code_135 (by decide) ?_
        obtain ⟨hi, h⟩ := ck_el h
        obtain ⟨S0_22, eS, h⟩ := lt_el h
        refine va_iast hx hb X.1 hP hD hS 28 0 rfl rfl hi dX12_code_136 (fun H locs hP hD hS => ?_)
        have hP : va_P E.1 vwCl (cw_X12 E q0 S0_22) H := by rw [eS]; exact hP
        have hD : va_D A (cw_X12 E q0 S0_22) := by rw [eS]; exact hD
        clear eS
        refine lv_aload_n hx hb dX12_code_137 rfl (lv_at hl 1 rfl) ?_
        refine lv_iload hx hb dX12_code_138 (lv_at hl 5 rfl) ?_
        obtain ⟨u23, hc, h⟩ := bd_el h
        refine ct_iA (w1 := cw_X12 E q0 S0_22) X hP hD hS (va_runV (C := RX12) (As := [.int x4]) (rest := []) ⟨hx, hb, hml, hown, hg⟩ (c_X12_rarest l E q0 H.size S0_22 x4 u23 hc) (cwV 1 hg (gwV wm_X12_396 wi_X12_rarest wsl_X12_rarest wini_X12 wco_X12_rarest) rfl rfl rfl (by decide +kernel) ⟨Nat.le_of_ble_eq_true rfl, Nat.le_of_ble_eq_true rfl⟩) ⟨ct_blind, ct_rv X.1 hP 0 rfl rfl, ct_preA X hP hD hS _⟩ rfl rfl hl.1 rfl (lv_room (Nat.le_of_ble_eq_true rfl)) dX12_code_140 ⟨Nat.zero_le _, Nat.zero_le _⟩) (fun H locs hP hD hS => ?_)
        refine lv_istore (lv' := [(6, .int u23), (5, .int u17), (0, .ref (q0 0)), (1, .int x1), (2, .int x2), (3, .int x3), (4, .int x4)]) hx hb dX12_code_143 hl (by decide) rfl (fun ls hl => ?_)
        refine lv_aload_n hx hb dX12_code_145 rfl (lv_at hl 2 rfl) ?_
        refine va_get (D := E.1) (ci := 11) (v := .ref (q0 28)) (C := RX12) (T := TX12) (N := 57) hx hb hg in_X12 hown X.1 hP 0 rfl rfl 47 (by decide) (hg _ wf_X12_92) (fun _ h9 => h9) rfl dX12_code_146 ?_
        refine lv_iload hx hb dX12_code_149 (lv_at hl 6 rfl) ?_
        refine lv_aload_n hx hb dX12_code_151 rfl (lv_at hl 2 rfl) ?_
        refine va_get (D := E.1) (ci := 11) (v := .ref (q0 28)) (C := RX12) (T := TX12) (N := 57) hx hb hg in_X12 hown X.1 hP 0 rfl rfl 47 (by decide) (hg _ wf_X12_92) (fun _ h9 => h9) rfl dX12_code_152 ?_
        refine lv_iload hx hb dX12_code_155 (lv_at hl 6 rfl) ?_
        obtain ⟨hi, v24, ev24, h⟩ := rd_el h
        refine va_iald hx hb X.1 hP 28 0 rfl rfl hi dX12_code_157 ?_
        refine lv_top' ev24 ?_
        refine lv_aload_n hx hb dX12_code_158 rfl (lv_at hl 2 rfl) ?_
        refine va_get (D := E.1) (ci := 11) (v := .ref (q0 28)) (C := RX12) (T := TX12) (N := 57) hx hb hg in_X12 hown X.1 hP 0 rfl rfl 47 (by decide) (hg _ wf_X12_92) (fun _ h9 => h9) rfl dX12_code_159 ?_
        refine lv_iload hx hb dX12_code_162 (lv_at hl 0 rfl) ?_
        obtain ⟨hi, v25, ev25, h⟩ := rd_el h
        refine va_iald hx hb X.1 hP 28 0 rfl rfl hi dX12_code_164 ?_
        refine lv_top' ev25 ?_
        refine lv_iadd hx hb dX12_code_165 ?_
        obtain ⟨hi, h⟩ := ck_el h
        obtain ⟨S0_26, eS, h⟩ := lt_el h
        refine va_iast hx hb X.1 hP hD hS 28 0 rfl rfl hi dX12_code_166 (fun H locs hP hD hS => ?_)
        have hP : va_P E.1 vwCl (cw_X12 E q0 S0_26) H := by rw [eS]; exact hP
        have hD : va_D A (cw_X12 E q0 S0_26) := by rw [eS]; exact hD
        clear eS
        refine lv_aload_n hx hb dX12_code_167 rfl (lv_at hl 2 rfl) ?_
        refine va_get (D := E.1) (ci := 11) (v := .ref (q0 29)) (C := RX12) (T := TX12) (N := 57) hx hb hg in_X12 hown X.1 hP 0 rfl rfl 48 (by decide) (hg _ wf_X12_95) (fun _ h9 => h9) rfl dX12_code_168 ?_
        refine lv_iload hx hb dX12_code_171 (lv_at hl 6 rfl) ?_
        refine lv_aload_n hx hb dX12_code_173 rfl (lv_at hl 2 rfl) ?_
        refine va_get (D := E.1) (ci := 11) (v := .ref (q0 29)) (C := RX12) (T := TX12) (N := 57) hx hb hg in_X12 hown X.1 hP 0 rfl rfl 48 (by decide) (hg _ wf_X12_95) (fun _ h9 => h9) rfl dX12_code_174 ?_
        refine lv_iload hx hb dX12_code_177 (lv_at hl 6 rfl) ?_
        obtain ⟨hi, v27, ev27, h⟩ := rd_el h
        refine va_iald hx hb X.1 hP 29 0 rfl rfl hi dX12_code_179 ?_
        refine lv_top' ev27 ?_
        refine lv_aload_n hx hb dX12_code_180 rfl (lv_at hl 2 rfl) ?_
        refine va_get (D := E.1) (ci := 11) (v := .ref (q0 29)) (C := RX12) (T := TX12) (N := 57) hx hb hg in_X12 hown X.1 hP 0 rfl rfl 48 (by decide) (hg _ wf_X12_95) (fun _ h9 => h9) rfl dX12_code_181 ?_
        refine lv_iload hx hb dX12_code_184 (lv_at hl 0 rfl) ?_
        obtain ⟨hi, v28, ev28, h⟩ := rd_el h
        refine va_iald hx hb X.1 hP 29 0 rfl rfl hi dX12_code_186 ?_
        refine lv_top' ev28 ?_
        refine lv_iconst (v := 1) hx hb dX12_code_187 (by decide) ?_
        refine lv_iadd hx hb dX12_code_188 ?_
        obtain ⟨u29, hc, h⟩ := bd_el h
        refine ct_iN X hP hD hS (va_runS (As := [.int v27, .int (v28 + 1)]) (rest := [.int x4, .ref (q0 29)]) ⟨hx, hb, hml, hown, hg⟩ (c_X12_max l E  H.size v27 (v28 + 1) u29 hc) (va_cwS 2 hg (gwS wm_X12_129 wst_X12_max wini_X12 wco_X12_max) rfl rfl rfl (by decide +kernel) ⟨Nat.le_of_ble_eq_true rfl, Nat.le_of_ble_eq_true rfl⟩) ⟨ct_blind, ct_preN X hS _⟩ rfl rfl hl.1 rfl (lv_room (Nat.le_of_ble_eq_true rfl)) dX12_code_189 ⟨Nat.zero_le _, Nat.zero_le _⟩) (fun H locs hP hD hS => ?_)
        obtain ⟨hi, h⟩ := ck_el h
        obtain ⟨S0_30, eS, h⟩ := lt_el h
        refine va_iast hx hb X.1 hP hD hS 29 0 rfl rfl hi dX12_code_192 (fun H locs hP hD hS => ?_)
        have hP : va_P E.1 vwCl (cw_X12 E q0 S0_30) H := by rw [eS]; exact hP
        have hD : va_D A (cw_X12 E q0 S0_30) := by rw [eS]; exact hD
        clear eS
        refine lv_aload_n hx hb dX12_code_193 rfl (lv_at hl 2 rfl) ?_
        refine va_get (D := E.1) (ci := 11) (v := .ref (q0 28)) (C := RX12) (T := TX12) (N := 57) hx hb hg in_X12 hown X.1 hP 0 rfl rfl 47 (by decide) (hg _ wf_X12_92) (fun _ h9 => h9) rfl dX12_code_194 ?_
        refine lv_iload hx hb dX12_code_197 (lv_at hl 0 rfl) ?_
        refine lv_iconst (v := 0) hx hb dX12_code_199 (by decide) ?_
        obtain ⟨hi, h⟩ := ck_el h
        obtain ⟨S0_31, eS, h⟩ := lt_el h
        refine va_iast hx hb X.1 hP hD hS 28 0 rfl rfl hi dX12_code_200 (fun H locs hP hD hS => ?_)
        have hP : va_P E.1 vwCl (cw_X12 E q0 S0_31) H := by rw [eS]; exact hP
        have hD : va_D A (cw_X12 E q0 S0_31) := by rw [eS]; exact hD
        clear eS
        refine lv_iload_n hx hb dX12_code_201 rfl (lv_at hl 5 rfl) ?_
        refine lv_aload_n hx hb dX12_code_202 rfl (lv_at hl 2 rfl) ?_
        refine va_get (D := E.1) (ci := 11) (v := .ref (q0 28)) (C := RX12) (T := TX12) (N := 57) hx hb hg in_X12 hown X.1 hP 0 rfl rfl 47 (by decide) (hg _ wf_X12_92) (fun _ h9 => h9) rfl dX12_code_203 ?_
        refine lv_iload hx hb dX12_code_206 (lv_at hl 6 rfl) ?_
        obtain ⟨hi, v32, ev32, h⟩ := rd_el h
        refine va_iald hx hb X.1 hP 28 0 rfl rfl hi dX12_code_208 ?_
        refine lv_top' ev32 ?_
        refine lv_iadd hx hb dX12_code_209 ?_
        obtain ⟨v33, ev33, h⟩ := lt_el h
        refine lv_top' ev33 ?_
        refine lv_istore_n (lv' := [(3, .int v33), (6, .int u23), (5, .int u17), (0, .ref (q0 0)), (1, .int x1), (2, .int x2), (4, .int x4)]) hx hb dX12_code_210 rfl hl (by decide) rfl (fun ls hl => ?_)
        refine lv_iload hx hb dX12_code_211 (lv_at hl 6 rfl) ?_
        refine lv_iconst (v := 1) hx hb dX12_code_213 (by decide) ?_
        refine lv_iadd hx hb dX12_code_214 ?_
        obtain ⟨v34, ev34, h⟩ := lt_el h
        refine lv_top' ev34 ?_
        refine lv_istore (lv' := [(4, .int v34), (3, .int v33), (6, .int u23), (5, .int u17), (0, .ref (q0 0)), (1, .int x1), (2, .int x2)]) hx hb dX12_code_215 hl (by decide) rfl (fun ls hl => ?_)
        refine lv_goto (tgt := 81) hx hb dX12_code_217 (by decide) ?_
        exact ih S0_31 v33 v34 _ _ _ h hP hD hS (lv_sub hl [4, 5, 6, 1, 0] rfl)
  have N36 : ∀ (n : Nat) (S0 : Gr) (x3 : Int32) (H : Heap) (locs : List Loc) (ls : Array Slot), f_X12_code_n36 x1 x2 n S0 x3 = some Rv → va_P E.1 vwCl (cw_X12 E q0 S0) H → va_D A (cw_X12 E q0 S0) → va_S A s.heap H locs → lv_has ls 7 [(0, .ref (q0 0)), (1, .int x1), (2, .int x2), (3, .int x3)] → W p l e ({ frames := 1, cells := 0, slots := 0, locals := 23 } : Room) s m ar below meth c H locs 0 0 QM (F0 m 36 ls []) := by
    intro n
    induction n with
    | zero => intro S0 x3 H locs ls h; exact nn_el h
    | succ n ih =>
      intro S0 x3 H locs ls h hP hD hS hl
      refine lv_iload_n hx hb dX12_code_36 rfl (lv_at hl 3 rfl) ?_
      refine lv_iload_n hx hb dX12_code_37 rfl (lv_at hl 1 rfl) ?_
      refine lv_icmp_ge (tgt := 76) hx hb dX12_code_38 (by decide) (fun c7 => ?_) (fun c7 => ?_)
      · have h := it_t h c7
        refine lv_iconst (v := 0) hx hb dX12_code_76 (by decide) ?_
        refine lv_istore_n (lv' := [(3, .int 0), (0, .ref (q0 0)), (1, .int x1), (2, .int x2)]) hx hb dX12_code_77 rfl hl (by decide) rfl (fun ls hl => ?_)
        refine lv_iload_n hx hb dX12_code_78 rfl (lv_at hl 2 rfl) ?_
        refine lv_istore (lv' := [(4, .int x1), (3, .int 0), (0, .ref (q0 0)), (1, .int x1), (2, .int x2)]) hx hb dX12_code_79 hl (by decide) rfl (fun ls hl => ?_)
        exact N81 fu S0 0 x1 _ _ _ h hP hD hS (lv_sub hl [2, 3, 4, 1, 0] rfl)
      · have h := it_f h c7
        refine lv_aload_n hx hb dX12_code_41 rfl (lv_at hl 0 rfl) ?_
        refine va_get (D := E.1) (ci := 11) (v := .ref (q0 28)) (C := RX12) (T := TX12) (N := 57) hx hb hg in_X12 hown X.1 hP 0 rfl rfl 47 (by decide) (hg _ wf_X12_92) (fun _ h9 => h9) rfl dX12_code_42 ?_
        refine lv_iload_n hx hb dX12_code_45 rfl (lv_at hl 3 rfl) ?_
        refine lv_aload_n hx hb dX12_code_46 rfl (lv_at hl 0 rfl) ?_
        refine lv_iload_n hx hb dX12_code_47 rfl (lv_at hl 3 rfl) ?_
        obtain ⟨u8, hc, h⟩ := bd_el h
        refine ct_iA (w1 := cw_X12 E q0 S0) X hP hD hS (va_runV (C := RX12) (As := [.int x3]) (rest := [.int x3, .ref (q0 28)]) ⟨hx, hb, hml, hown, hg⟩ (c_X12_octet l E q0 H.size S0 x3 u8 hc) (cwV 1 hg (gwV wm_X12_351 wi_X12_octet wsl_X12_octet wini_X12 wco_X12_octet) rfl rfl rfl (by decide +kernel) ⟨Nat.le_of_ble_eq_true rfl, Nat.le_of_ble_eq_true rfl⟩) ⟨ct_blind, ct_rv X.1 hP 0 rfl rfl, ct_preA X hP hD hS _⟩ rfl rfl hl.1 rfl (lv_room (Nat.le_of_ble_eq_true rfl)) dX12_code_48 ⟨Nat.zero_le _, Nat.zero_le _⟩) (fun H locs hP hD hS => ?_)
        obtain ⟨hi, h⟩ := ck_el h
        obtain ⟨S0_9, eS, h⟩ := lt_el h
        refine va_iast hx hb X.1 hP hD hS 28 0 rfl rfl hi dX12_code_51 (fun H locs hP hD hS => ?_)
        have hP : va_P E.1 vwCl (cw_X12 E q0 S0_9) H := by rw [eS]; exact hP
        have hD : va_D A (cw_X12 E q0 S0_9) := by rw [eS]; exact hD
        clear eS
        refine lv_aload_n hx hb dX12_code_52 rfl (lv_at hl 0 rfl) ?_
        refine va_get (D := E.1) (ci := 11) (v := .ref (q0 29)) (C := RX12) (T := TX12) (N := 57) hx hb hg in_X12 hown X.1 hP 0 rfl rfl 48 (by decide) (hg _ wf_X12_95) (fun _ h9 => h9) rfl dX12_code_53 ?_
        refine lv_iload_n hx hb dX12_code_56 rfl (lv_at hl 3 rfl) ?_
        refine lv_iconst (v := 0) hx hb dX12_code_57 (by decide) ?_
        obtain ⟨hi, h⟩ := ck_el h
        obtain ⟨S0_10, eS, h⟩ := lt_el h
        refine va_iast hx hb X.1 hP hD hS 29 0 rfl rfl hi dX12_code_58 (fun H locs hP hD hS => ?_)
        have hP : va_P E.1 vwCl (cw_X12 E q0 S0_10) H := by rw [eS]; exact hP
        have hD : va_D A (cw_X12 E q0 S0_10) := by rw [eS]; exact hD
        clear eS
        refine lv_aload_n hx hb dX12_code_59 rfl (lv_at hl 0 rfl) ?_
        refine lv_iload_n hx hb dX12_code_60 rfl (lv_at hl 3 rfl) ?_
        obtain ⟨u11, hc, h⟩ := bd_el h
        refine ct_iA (w1 := cw_X12 E q0 S0_10) X hP hD hS (va_runV (C := RX12) (As := [.int x3]) (rest := []) ⟨hx, hb, hml, hown, hg⟩ (c_X12_octet l E q0 H.size S0_10 x3 u11 hc) (cwV 1 hg (gwV wm_X12_351 wi_X12_octet wsl_X12_octet wini_X12 wco_X12_octet) rfl rfl rfl (by decide +kernel) ⟨Nat.le_of_ble_eq_true rfl, Nat.le_of_ble_eq_true rfl⟩) ⟨ct_blind, ct_rv X.1 hP 0 rfl rfl, ct_preA X hP hD hS _⟩ rfl rfl hl.1 rfl (lv_room (Nat.le_of_ble_eq_true rfl)) dX12_code_61 ⟨Nat.zero_le _, Nat.zero_le _⟩) (fun H locs hP hD hS => ?_)
        refine lv_if_ne (tgt := 70) hx hb dX12_code_64 (by decide) (fun c12 => ?_) (fun c12 => ?_)
        · have h := it_f h c12
          obtain ⟨v13, ev13, h⟩ := lt_el h
          refine lv_iinc (v := v13) (lv' := [(3, .int v13), (0, .ref (q0 0)), (1, .int x1), (2, .int x2)]) hx hb dX12_code_70 hl (k := 3) rfl (by rw [ev13]; rfl) (by decide) rfl (fun ls hl => ?_)
          refine lv_goto (tgt := 36) hx hb dX12_code_73 (by decide) ?_
          exact ih S0_10 v13 _ _ _ h hP hD hS (lv_sub hl [1, 2, 3, 0] rfl)
        · have h := it_t h c12
          refine lv_bipush (v := (-3)) hx hb dX12_code_67 (by decide) ?_
          exact RT (-3) S0_10 _ _ _ _ h rfl hP hD hS dX12_code_69
  obtain ⟨H, eH⟩ : ∃ z, z = s.heap := ⟨_, rfl⟩
  rw [← eH]
  have hP : va_P E.1 vwCl (cw_X12 E q0 S0) H := by rw [eH]; exact hP
  have hS : va_S A s.heap H [] := by rw [eH]; exact hS
  clear eH
  obtain ⟨locs, el⟩ : ∃ z : List Loc, z = [] := ⟨_, rfl⟩
  rw [← el] at hS ⊢
  clear el
  refine lv_iload_n hx hb dX12_code_0 rfl (lv_at hl 1 rfl) ?_
  refine lv_iconst (v := 2) hx hb dX12_code_1 (by decide) ?_
  refine lv_bipush (v := 12) hx hb dX12_code_2 (by decide) ?_
  obtain ⟨u1, hc, h⟩ := bd_el h
  refine ct_iN X hP hD hS (va_runS (As := [.int x1, .int 2, .int 12]) (rest := []) ⟨hx, hb, hml, hown, hg⟩ (c_X12_in l E  H.size x1 2 12 u1 hc) (va_cwS 3 hg (gwS wm_X12_110 wst_X12_in wini_X12 wco_X12_in) rfl rfl rfl (by decide +kernel) ⟨Nat.le_of_ble_eq_true rfl, Nat.le_of_ble_eq_true rfl⟩) ⟨ct_blind, ct_preN X hS _⟩ rfl rfl hl.1 rfl (lv_room (Nat.le_of_ble_eq_true rfl)) dX12_code_4 ⟨Nat.zero_le _, Nat.zero_le _⟩) (fun H locs hP hD hS => ?_)
  refine lv_if_eq (tgt := 27) hx hb dX12_code_7 (by decide) (fun c2 => ?_) (fun c2 => ?_)
  · have h := it_t h c2
    refine lv_iconst (v := (-1)) hx hb dX12_code_27 (by decide) ?_
    exact RT (-1) S0 _ _ _ _ h rfl hP hD hS dX12_code_28
  · have h := it_f h c2
    refine lv_iload_n hx hb dX12_code_10 rfl (lv_at hl 2 rfl) ?_
    refine lv_iconst (v := 0) hx hb dX12_code_11 (by decide) ?_
    refine lv_iconst (v := 1) hx hb dX12_code_12 (by decide) ?_
    obtain ⟨u3, hc, h⟩ := bd_el h
    refine ct_iN X hP hD hS (va_runS (As := [.int x2, .int 0, .int 1]) (rest := []) ⟨hx, hb, hml, hown, hg⟩ (c_X12_in l E  H.size x2 0 1 u3 hc) (va_cwS 3 hg (gwS wm_X12_110 wst_X12_in wini_X12 wco_X12_in) rfl rfl rfl (by decide +kernel) ⟨Nat.le_of_ble_eq_true rfl, Nat.le_of_ble_eq_true rfl⟩) ⟨ct_blind, ct_preN X hS _⟩ rfl rfl hl.1 rfl (lv_room (Nat.le_of_ble_eq_true rfl)) dX12_code_13 ⟨Nat.zero_le _, Nat.zero_le _⟩) (fun H locs hP hD hS => ?_)
    refine lv_if_eq (tgt := 27) hx hb dX12_code_16 (by decide) (fun c4 => ?_) (fun c4 => ?_)
    · have h := it_t h c4
      refine lv_iconst (v := (-1)) hx hb dX12_code_27 (by decide) ?_
      exact RT (-1) S0 _ _ _ _ h rfl hP hD hS dX12_code_28
    · have h := it_f h c4
      refine lv_iload_n hx hb dX12_code_19 rfl (lv_at hl 1 rfl) ?_
      refine lv_aload_n hx hb dX12_code_20 rfl (lv_at hl 0 rfl) ?_
      refine va_get (D := E.1) (ci := 11) (v := .int (S0.1 8)) (C := RX12) (T := TX12) (N := 57) hx hb hg in_X12 hown X.1 hP 0 rfl rfl 8 (by decide) (hg _ wf_X12_143) (fun _ h9 => h9) rfl dX12_code_21 ?_
      refine lv_icmp_le (tgt := 29) hx hb dX12_code_24 (by decide) (fun c5 => ?_) (fun c5 => ?_)
      · have h := it_t h c5
        refine lv_aload_n hx hb dX12_code_29 rfl (lv_at hl 0 rfl) ?_
        refine lv_iconst (v := 0) hx hb dX12_code_30 (by decide) ?_
        obtain ⟨S0_6, eS, h⟩ := lt_el h
        refine va_put (D := E.1) (ci := 11) (v := .int 0) (ty := .int) (C := RX12) (T := TX12) (N := 57) hx hb hg in_X12 tyX12 tyX12_ok nmX12 hown X.1 hP hD hS 0 rfl rfl 8 (by decide) (hg _ wf_X12_143) (fun _ h9 => h9) rfl (by decide +kernel) rfl rfl (Nat.le_of_ble_eq_true rfl) dX12_code_31 (fun H locs hP hD hS => ?_)
        have hP : va_P E.1 vwCl (cw_X12 E q0 S0_6) H := by rw [eS]; exact hP
        have hD : va_D A (cw_X12 E q0 S0_6) := by rw [eS]; exact hD
        clear eS
        refine lv_iconst (v := 0) hx hb dX12_code_34 (by decide) ?_
        refine lv_istore_n (lv' := [(3, .int 0), (0, .ref (q0 0)), (1, .int x1), (2, .int x2)]) hx hb dX12_code_35 rfl hl (by decide) rfl (fun ls hl => ?_)
        exact N36 fu S0_6 0 _ _ _ h hP hD hS (lv_sub hl [1, 2, 3, 0] rfl)
      · have h := it_f h c5
        refine lv_iconst (v := (-1)) hx hb dX12_code_27 (by decide) ?_
        exact RT (-1) S0 _ _ _ _ h rfl hP hD hS dX12_code_28
theorem dX12_crawlsTo_0 : decode cX12_crawlsTo 0 = .ok (.aload_n 0, 1) := by decide +kernel
theorem dX12_crawlsTo_1 : decode cX12_crawlsTo 1 = .ok (.getfield 98, 3) := by decide +kernel
theorem dX12_crawlsTo_4 : decode cX12_crawlsTo 4 = .ok (.iload_n 2, 1) := by decide +kernel
theorem dX12_crawlsTo_5 : decode cX12_crawlsTo 5 = .ok (.iaload, 1) := by decide +kernel
theorem dX12_crawlsTo_6 : decode cX12_crawlsTo 6 = .ok (.iconst (-1), 1) := by decide +kernel
theorem dX12_crawlsTo_7 : decode cX12_crawlsTo 7 = .ok (.if_icmp .eq 4, 3) := by decide +kernel
theorem dX12_crawlsTo_10 : decode cX12_crawlsTo 10 = .ok (.return_, 1) := by decide +kernel
theorem dX12_crawlsTo_11 : decode cX12_crawlsTo 11 = .ok (.aload_n 0, 1) := by decide +kernel
theorem dX12_crawlsTo_12 : decode cX12_crawlsTo 12 = .ok (.getfield 98, 3) := by decide +kernel
theorem dX12_crawlsTo_15 : decode cX12_crawlsTo 15 = .ok (.iload_n 2, 1) := by decide +kernel
theorem dX12_crawlsTo_16 : decode cX12_crawlsTo 16 = .ok (.aload_n 0, 1) := by decide +kernel
theorem dX12_crawlsTo_17 : decode cX12_crawlsTo 17 = .ok (.getfield 98, 3) := by decide +kernel
theorem dX12_crawlsTo_20 : decode cX12_crawlsTo 20 = .ok (.iload_n 1, 1) := by decide +kernel
theorem dX12_crawlsTo_21 : decode cX12_crawlsTo 21 = .ok (.iaload, 1) := by decide +kernel
theorem dX12_crawlsTo_22 : decode cX12_crawlsTo 22 = .ok (.iconst 1, 1) := by decide +kernel
theorem dX12_crawlsTo_23 : decode cX12_crawlsTo 23 = .ok (.iadd, 1) := by decide +kernel
theorem dX12_crawlsTo_24 : decode cX12_crawlsTo 24 = .ok (.iastore, 1) := by decide +kernel
theorem dX12_crawlsTo_25 : decode cX12_crawlsTo 25 = .ok (.aload_n 0, 1) := by decide +kernel
theorem dX12_crawlsTo_26 : decode cX12_crawlsTo 26 = .ok (.getfield 101, 3) := by decide +kernel
theorem dX12_crawlsTo_29 : decode cX12_crawlsTo 29 = .ok (.aload_n 0, 1) := by decide +kernel
theorem dX12_crawlsTo_30 : decode cX12_crawlsTo 30 = .ok (.getfield 399, 3) := by decide +kernel
theorem dX12_crawlsTo_33 : decode cX12_crawlsTo 33 = .ok (.iload_n 2, 1) := by decide +kernel
theorem dX12_crawlsTo_34 : decode cX12_crawlsTo 34 = .ok (.iastore, 1) := by decide +kernel
theorem dX12_crawlsTo_35 : decode cX12_crawlsTo 35 = .ok (.aload_n 0, 1) := by decide +kernel
theorem dX12_crawlsTo_36 : decode cX12_crawlsTo 36 = .ok (.aload_n 0, 1) := by decide +kernel
theorem dX12_crawlsTo_37 : decode cX12_crawlsTo 37 = .ok (.getfield 399, 3) := by decide +kernel
theorem dX12_crawlsTo_40 : decode cX12_crawlsTo 40 = .ok (.iconst 1, 1) := by decide +kernel
theorem dX12_crawlsTo_41 : decode cX12_crawlsTo 41 = .ok (.iadd, 1) := by decide +kernel
theorem dX12_crawlsTo_42 : decode cX12_crawlsTo 42 = .ok (.putfield 399, 3) := by decide +kernel
theorem dX12_crawlsTo_45 : decode cX12_crawlsTo 45 = .ok (.return_, 1) := by decide +kernel
def f_X12_crawlsTo (S0 : Gr) (x1 : Int32) (x2 : Int32) : Option (Gr) := rd' (S0.2 49) 65 x2 fun v1 => if v1 = (-1) then (rd' (S0.2 49) 65 x1 fun v3 => ck' 65 x2 (lt' (sA S0 49 (Int32.toNatClampNeg x2) (v3 + 1)) fun S0_4 => ck' 65 (S0_4.1 51) (lt' (sA S0_4 50 (Int32.toNatClampNeg (S0_4.1 51)) x2) fun S0_5 => lt' (sI S0_5 51 ((S0_5.1 51) + 1)) fun S0_6 => some S0_6))) else (some S0)
set_option maxHeartbeats 4000000 in
set_option maxRecDepth 100000 in
theorem c_X12_crawlsTo (l : Launch) (E : Ec) (q0 : Nat → Nat) (sz : Nat) (S0 : Gr) (x1 : Int32) (x2 : Int32) (Rv : Gr) (h : f_X12_crawlsTo S0 x1 x2 = some Rv) : Met l yX12_crawlsTo (wsM (.code yX12_crawlsTo cX12_crawlsTo 3 none)) ({ frames := 0, cells := 0, slots := 0, locals := 0 } : Room) (va_Pc [.ref (q0 0), .int x1, .int x2] (ctP E (cw_X12 E q0 S0) sz)) (ctV E (cw_X12 E q0 S0) (cw_X12 E q0 Rv) sz) 0 0 (va_A (cw_X12 E q0 S0) sz) := by
  refine ct_metV (by decide) (Nat.le_of_ble_eq_true rfl) ?_
  intro p e s m ar below meth c A QM hx hb hml hown hg X hP hD hS RET ls hl
  have hown : s.vm.findClass RX12 = some m.cls := hown
  have hl : lv_has ls 3 [(0, .ref (q0 0)), (1, .int x1), (2, .int x2)] := hl
  have RT : ∀ (S0 : Gr) (H : Heap) (locs : List Loc) (ls : Array Slot) (pc : Nat), some S0 = some Rv → va_P E.1 vwCl (cw_X12 E q0 S0) H → va_D A (cw_X12 E q0 S0) → va_S A s.heap H locs → decode cX12_crawlsTo pc = .ok (.return_, 1) → W p l e ({ frames := 0, cells := 0, slots := 0, locals := 0 } : Room) s m ar below meth c H locs 0 0 QM (F0 m pc ls []) := by
    intro S0 H locs ls pc e hP hD hS d
    obtain rfl := sm_e e
    exact RET H locs pc ls hP hD hS d
  clear RET
  obtain ⟨H, eH⟩ : ∃ z, z = s.heap := ⟨_, rfl⟩
  rw [← eH]
  have hP : va_P E.1 vwCl (cw_X12 E q0 S0) H := by rw [eH]; exact hP
  have hS : va_S A s.heap H [] := by rw [eH]; exact hS
  clear eH
  obtain ⟨locs, el⟩ : ∃ z : List Loc, z = [] := ⟨_, rfl⟩
  rw [← el] at hS ⊢
  clear el
  refine lv_aload_n hx hb dX12_crawlsTo_0 rfl (lv_at hl 0 rfl) ?_
  refine va_get (D := E.1) (ci := 11) (v := .ref (q0 30)) (C := RX12) (T := TX12) (N := 57) hx hb hg in_X12 hown X.1 hP 0 rfl rfl 49 (by decide) (hg _ wf_X12_98) (fun _ h9 => h9) rfl dX12_crawlsTo_1 ?_
  refine lv_iload_n hx hb dX12_crawlsTo_4 rfl (lv_at hl 2 rfl) ?_
  obtain ⟨hi, v1, ev1, h⟩ := rd_el h
  refine va_iald hx hb X.1 hP 30 0 rfl rfl hi dX12_crawlsTo_5 ?_
  refine lv_top' ev1 ?_
  refine lv_iconst (v := (-1)) hx hb dX12_crawlsTo_6 (by decide) ?_
  refine lv_icmp_eq (tgt := 11) hx hb dX12_crawlsTo_7 (by decide) (fun c2 => ?_) (fun c2 => ?_)
  · have h := it_t h c2
    refine lv_aload_n hx hb dX12_crawlsTo_11 rfl (lv_at hl 0 rfl) ?_
    refine va_get (D := E.1) (ci := 11) (v := .ref (q0 30)) (C := RX12) (T := TX12) (N := 57) hx hb hg in_X12 hown X.1 hP 0 rfl rfl 49 (by decide) (hg _ wf_X12_98) (fun _ h9 => h9) rfl dX12_crawlsTo_12 ?_
    refine lv_iload_n hx hb dX12_crawlsTo_15 rfl (lv_at hl 2 rfl) ?_
    refine lv_aload_n hx hb dX12_crawlsTo_16 rfl (lv_at hl 0 rfl) ?_
    refine va_get (D := E.1) (ci := 11) (v := .ref (q0 30)) (C := RX12) (T := TX12) (N := 57) hx hb hg in_X12 hown X.1 hP 0 rfl rfl 49 (by decide) (hg _ wf_X12_98) (fun _ h9 => h9) rfl dX12_crawlsTo_17 ?_
    refine lv_iload_n hx hb dX12_crawlsTo_20 rfl (lv_at hl 1 rfl) ?_
    obtain ⟨hi, v3, ev3, h⟩ := rd_el h
    refine va_iald hx hb X.1 hP 30 0 rfl rfl hi dX12_crawlsTo_21 ?_
    refine lv_top' ev3 ?_
    refine lv_iconst (v := 1) hx hb dX12_crawlsTo_22 (by decide) ?_
    refine lv_iadd hx hb dX12_crawlsTo_23 ?_
    obtain ⟨hi, h⟩ := ck_el h
    obtain ⟨S0_4, eS, h⟩ := lt_el h
    refine va_iast hx hb X.1 hP hD hS 30 0 rfl rfl hi dX12_crawlsTo_24 (fun H locs hP hD hS => ?_)
    have hP : va_P E.1 vwCl (cw_X12 E q0 S0_4) H := by rw [eS]; exact hP
    have hD : va_D A (cw_X12 E q0 S0_4) := by rw [eS]; exact hD
    clear eS
    refine lv_aload_n hx hb dX12_crawlsTo_25 rfl (lv_at hl 0 rfl) ?_
    refine va_get (D := E.1) (ci := 11) (v := .ref (q0 31)) (C := RX12) (T := TX12) (N := 57) hx hb hg in_X12 hown X.1 hP 0 rfl rfl 50 (by decide) (hg _ wf_X12_101) (fun _ h9 => h9) rfl dX12_crawlsTo_26 ?_
    refine lv_aload_n hx hb dX12_crawlsTo_29 rfl (lv_at hl 0 rfl) ?_
    refine va_get (D := E.1) (ci := 11) (v := .int (S0_4.1 51)) (C := RX12) (T := TX12) (N := 57) hx hb hg in_X12 hown X.1 hP 0 rfl rfl 51 (by decide) (hg _ wf_X12_399) (fun _ h9 => h9) rfl dX12_crawlsTo_30 ?_
    refine lv_iload_n hx hb dX12_crawlsTo_33 rfl (lv_at hl 2 rfl) ?_
    obtain ⟨hi, h⟩ := ck_el h
    obtain ⟨S0_5, eS, h⟩ := lt_el h
    refine va_iast hx hb X.1 hP hD hS 31 0 rfl rfl hi dX12_crawlsTo_34 (fun H locs hP hD hS => ?_)
    have hP : va_P E.1 vwCl (cw_X12 E q0 S0_5) H := by rw [eS]; exact hP
    have hD : va_D A (cw_X12 E q0 S0_5) := by rw [eS]; exact hD
    clear eS
    refine lv_aload_n hx hb dX12_crawlsTo_35 rfl (lv_at hl 0 rfl) ?_
    refine lv_aload_n hx hb dX12_crawlsTo_36 rfl (lv_at hl 0 rfl) ?_
    refine va_get (D := E.1) (ci := 11) (v := .int (S0_5.1 51)) (C := RX12) (T := TX12) (N := 57) hx hb hg in_X12 hown X.1 hP 0 rfl rfl 51 (by decide) (hg _ wf_X12_399) (fun _ h9 => h9) rfl dX12_crawlsTo_37 ?_
    refine lv_iconst (v := 1) hx hb dX12_crawlsTo_40 (by decide) ?_
    refine lv_iadd hx hb dX12_crawlsTo_41 ?_
    obtain ⟨S0_6, eS, h⟩ := lt_el h
    refine va_put (D := E.1) (ci := 11) (v := .int ((S0_5.1 51) + 1)) (ty := .int) (C := RX12) (T := TX12) (N := 57) hx hb hg in_X12 tyX12 tyX12_ok nmX12 hown X.1 hP hD hS 0 rfl rfl 51 (by decide) (hg _ wf_X12_399) (fun _ h9 => h9) rfl (by decide +kernel) rfl rfl (Nat.le_of_ble_eq_true rfl) dX12_crawlsTo_42 (fun H locs hP hD hS => ?_)
    have hP : va_P E.1 vwCl (cw_X12 E q0 S0_6) H := by rw [eS]; exact hP
    have hD : va_D A (cw_X12 E q0 S0_6) := by rw [eS]; exact hD
    clear eS
    exact RT S0_6 _ _ _ _ h hP hD hS dX12_crawlsTo_45
  · have h := it_f h c2
    exact RT S0 _ _ _ _ h hP hD hS dX12_crawlsTo_10
theorem dX12_crawlsFrom_0 : decode cX12_crawlsFrom 0 = .ok (.iload_n 1, 1) := by decide +kernel
theorem dX12_crawlsFrom_1 : decode cX12_crawlsFrom 1 = .ok (.iconst 1, 1) := by decide +kernel
theorem dX12_crawlsFrom_2 : decode cX12_crawlsFrom 2 = .ok (.isub, 1) := by decide +kernel
theorem dX12_crawlsFrom_3 : decode cX12_crawlsFrom 3 = .ok (.bipush 8, 2) := by decide +kernel
theorem dX12_crawlsFrom_5 : decode cX12_crawlsFrom 5 = .ok (.idiv, 1) := by decide +kernel
theorem dX12_crawlsFrom_6 : decode cX12_crawlsFrom 6 = .ok (.istore_n 3, 1) := by decide +kernel
theorem dX12_crawlsFrom_7 : decode cX12_crawlsFrom 7 = .ok (.iload_n 1, 1) := by decide +kernel
theorem dX12_crawlsFrom_8 : decode cX12_crawlsFrom 8 = .ok (.iconst 1, 1) := by decide +kernel
theorem dX12_crawlsFrom_9 : decode cX12_crawlsFrom 9 = .ok (.isub, 1) := by decide +kernel
theorem dX12_crawlsFrom_10 : decode cX12_crawlsFrom 10 = .ok (.bipush 8, 2) := by decide +kernel
theorem dX12_crawlsFrom_12 : decode cX12_crawlsFrom 12 = .ok (.irem, 1) := by decide +kernel
theorem dX12_crawlsFrom_13 : decode cX12_crawlsFrom 13 = .ok (.istore 4, 2) := by decide +kernel
theorem dX12_crawlsFrom_15 : decode cX12_crawlsFrom 15 = .ok (.iload 4, 2) := by decide +kernel
theorem dX12_crawlsFrom_17 : decode cX12_crawlsFrom 17 = .ok (.bipush 7, 2) := by decide +kernel
theorem dX12_crawlsFrom_19 : decode cX12_crawlsFrom 19 = .ok (.iadd, 1) := by decide +kernel
theorem dX12_crawlsFrom_20 : decode cX12_crawlsFrom 20 = .ok (.bipush 8, 2) := by decide +kernel
theorem dX12_crawlsFrom_22 : decode cX12_crawlsFrom 22 = .ok (.irem, 1) := by decide +kernel
theorem dX12_crawlsFrom_23 : decode cX12_crawlsFrom 23 = .ok (.istore 5, 2) := by decide +kernel
theorem dX12_crawlsFrom_25 : decode cX12_crawlsFrom 25 = .ok (.aload_n 0, 1) := by decide +kernel
theorem dX12_crawlsFrom_26 : decode cX12_crawlsFrom 26 = .ok (.iconst 2, 1) := by decide +kernel
theorem dX12_crawlsFrom_27 : decode cX12_crawlsFrom 27 = .ok (.iload_n 3, 1) := by decide +kernel
theorem dX12_crawlsFrom_28 : decode cX12_crawlsFrom 28 = .ok (.imul, 1) := by decide +kernel
theorem dX12_crawlsFrom_29 : decode cX12_crawlsFrom 29 = .ok (.invokevirtual 351, 3) := by decide +kernel
theorem dX12_crawlsFrom_32 : decode cX12_crawlsFrom 32 = .ok (.iload 4, 2) := by decide +kernel
theorem dX12_crawlsFrom_34 : decode cX12_crawlsFrom 34 = .ok (.invokestatic 118, 3) := by decide +kernel
theorem dX12_crawlsFrom_37 : decode cX12_crawlsFrom 37 = .ok (.ifCond .ne 20, 3) := by decide +kernel
theorem dX12_crawlsFrom_40 : decode cX12_crawlsFrom 40 = .ok (.aload_n 0, 1) := by decide +kernel
theorem dX12_crawlsFrom_41 : decode cX12_crawlsFrom 41 = .ok (.iload_n 1, 1) := by decide +kernel
theorem dX12_crawlsFrom_42 : decode cX12_crawlsFrom 42 = .ok (.iload_n 3, 1) := by decide +kernel
theorem dX12_crawlsFrom_43 : decode cX12_crawlsFrom 43 = .ok (.ifCond .ne 7, 3) := by decide +kernel
theorem dX12_crawlsFrom_46 : decode cX12_crawlsFrom 46 = .ok (.iconst 0, 1) := by decide +kernel
theorem dX12_crawlsFrom_47 : decode cX12_crawlsFrom 47 = .ok (.goto 7, 3) := by decide +kernel
theorem dX12_crawlsFrom_50 : decode cX12_crawlsFrom 50 = .ok (.iload_n 1, 1) := by decide +kernel
theorem dX12_crawlsFrom_51 : decode cX12_crawlsFrom 51 = .ok (.bipush 8, 2) := by decide +kernel
theorem dX12_crawlsFrom_53 : decode cX12_crawlsFrom 53 = .ok (.isub, 1) := by decide +kernel
theorem dX12_crawlsFrom_54 : decode cX12_crawlsFrom 54 = .ok (.invokevirtual 402, 3) := by decide +kernel
theorem dX12_crawlsFrom_57 : decode cX12_crawlsFrom 57 = .ok (.iload_n 3, 1) := by decide +kernel
theorem dX12_crawlsFrom_58 : decode cX12_crawlsFrom 58 = .ok (.iconst 1, 1) := by decide +kernel
theorem dX12_crawlsFrom_59 : decode cX12_crawlsFrom 59 = .ok (.iadd, 1) := by decide +kernel
theorem dX12_crawlsFrom_60 : decode cX12_crawlsFrom 60 = .ok (.iload_n 2, 1) := by decide +kernel
theorem dX12_crawlsFrom_61 : decode cX12_crawlsFrom 61 = .ok (.if_icmp .ge 29, 3) := by decide +kernel
theorem dX12_crawlsFrom_64 : decode cX12_crawlsFrom 64 = .ok (.aload_n 0, 1) := by decide +kernel
theorem dX12_crawlsFrom_65 : decode cX12_crawlsFrom 65 = .ok (.iconst 2, 1) := by decide +kernel
theorem dX12_crawlsFrom_66 : decode cX12_crawlsFrom 66 = .ok (.iload_n 3, 1) := by decide +kernel
theorem dX12_crawlsFrom_67 : decode cX12_crawlsFrom 67 = .ok (.imul, 1) := by decide +kernel
theorem dX12_crawlsFrom_68 : decode cX12_crawlsFrom 68 = .ok (.iconst 2, 1) := by decide +kernel
theorem dX12_crawlsFrom_69 : decode cX12_crawlsFrom 69 = .ok (.iadd, 1) := by decide +kernel
theorem dX12_crawlsFrom_70 : decode cX12_crawlsFrom 70 = .ok (.invokevirtual 351, 3) := by decide +kernel
theorem dX12_crawlsFrom_73 : decode cX12_crawlsFrom 73 = .ok (.iload 4, 2) := by decide +kernel
theorem dX12_crawlsFrom_75 : decode cX12_crawlsFrom 75 = .ok (.invokestatic 118, 3) := by decide +kernel
theorem dX12_crawlsFrom_78 : decode cX12_crawlsFrom 78 = .ok (.ifCond .ne 12, 3) := by decide +kernel
theorem dX12_crawlsFrom_81 : decode cX12_crawlsFrom 81 = .ok (.aload_n 0, 1) := by decide +kernel
theorem dX12_crawlsFrom_82 : decode cX12_crawlsFrom 82 = .ok (.iload_n 1, 1) := by decide +kernel
theorem dX12_crawlsFrom_83 : decode cX12_crawlsFrom 83 = .ok (.iload_n 1, 1) := by decide +kernel
theorem dX12_crawlsFrom_84 : decode cX12_crawlsFrom 84 = .ok (.bipush 8, 2) := by decide +kernel
theorem dX12_crawlsFrom_86 : decode cX12_crawlsFrom 86 = .ok (.iadd, 1) := by decide +kernel
theorem dX12_crawlsFrom_87 : decode cX12_crawlsFrom 87 = .ok (.invokevirtual 402, 3) := by decide +kernel
theorem dX12_crawlsFrom_90 : decode cX12_crawlsFrom 90 = .ok (.aload_n 0, 1) := by decide +kernel
theorem dX12_crawlsFrom_91 : decode cX12_crawlsFrom 91 = .ok (.iconst 2, 1) := by decide +kernel
theorem dX12_crawlsFrom_92 : decode cX12_crawlsFrom 92 = .ok (.iload_n 3, 1) := by decide +kernel
theorem dX12_crawlsFrom_93 : decode cX12_crawlsFrom 93 = .ok (.imul, 1) := by decide +kernel
theorem dX12_crawlsFrom_94 : decode cX12_crawlsFrom 94 = .ok (.iconst 1, 1) := by decide +kernel
theorem dX12_crawlsFrom_95 : decode cX12_crawlsFrom 95 = .ok (.iadd, 1) := by decide +kernel
theorem dX12_crawlsFrom_96 : decode cX12_crawlsFrom 96 = .ok (.invokevirtual 351, 3) := by decide +kernel
theorem dX12_crawlsFrom_99 : decode cX12_crawlsFrom 99 = .ok (.iload 4, 2) := by decide +kernel
theorem dX12_crawlsFrom_101 : decode cX12_crawlsFrom 101 = .ok (.invokestatic 118, 3) := by decide +kernel
theorem dX12_crawlsFrom_104 : decode cX12_crawlsFrom 104 = .ok (.ifCond .ne 22, 3) := by decide +kernel
theorem dX12_crawlsFrom_107 : decode cX12_crawlsFrom 107 = .ok (.aload_n 0, 1) := by decide +kernel
theorem dX12_crawlsFrom_108 : decode cX12_crawlsFrom 108 = .ok (.iload_n 1, 1) := by decide +kernel
theorem dX12_crawlsFrom_109 : decode cX12_crawlsFrom 109 = .ok (.iconst 1, 1) := by decide +kernel
theorem dX12_crawlsFrom_110 : decode cX12_crawlsFrom 110 = .ok (.bipush 8, 2) := by decide +kernel
theorem dX12_crawlsFrom_112 : decode cX12_crawlsFrom 112 = .ok (.iload_n 3, 1) := by decide +kernel
theorem dX12_crawlsFrom_113 : decode cX12_crawlsFrom 113 = .ok (.imul, 1) := by decide +kernel
theorem dX12_crawlsFrom_114 : decode cX12_crawlsFrom 114 = .ok (.iadd, 1) := by decide +kernel
theorem dX12_crawlsFrom_115 : decode cX12_crawlsFrom 115 = .ok (.iload 4, 2) := by decide +kernel
theorem dX12_crawlsFrom_117 : decode cX12_crawlsFrom 117 = .ok (.iconst 1, 1) := by decide +kernel
theorem dX12_crawlsFrom_118 : decode cX12_crawlsFrom 118 = .ok (.iadd, 1) := by decide +kernel
theorem dX12_crawlsFrom_119 : decode cX12_crawlsFrom 119 = .ok (.bipush 8, 2) := by decide +kernel
theorem dX12_crawlsFrom_121 : decode cX12_crawlsFrom 121 = .ok (.irem, 1) := by decide +kernel
theorem dX12_crawlsFrom_122 : decode cX12_crawlsFrom 122 = .ok (.iadd, 1) := by decide +kernel
theorem dX12_crawlsFrom_123 : decode cX12_crawlsFrom 123 = .ok (.invokevirtual 402, 3) := by decide +kernel
theorem dX12_crawlsFrom_126 : decode cX12_crawlsFrom 126 = .ok (.aload_n 0, 1) := by decide +kernel
theorem dX12_crawlsFrom_127 : decode cX12_crawlsFrom 127 = .ok (.iconst 2, 1) := by decide +kernel
theorem dX12_crawlsFrom_128 : decode cX12_crawlsFrom 128 = .ok (.iload_n 3, 1) := by decide +kernel
theorem dX12_crawlsFrom_129 : decode cX12_crawlsFrom 129 = .ok (.imul, 1) := by decide +kernel
theorem dX12_crawlsFrom_130 : decode cX12_crawlsFrom 130 = .ok (.iconst 1, 1) := by decide +kernel
theorem dX12_crawlsFrom_131 : decode cX12_crawlsFrom 131 = .ok (.iadd, 1) := by decide +kernel
theorem dX12_crawlsFrom_132 : decode cX12_crawlsFrom 132 = .ok (.invokevirtual 351, 3) := by decide +kernel
theorem dX12_crawlsFrom_135 : decode cX12_crawlsFrom 135 = .ok (.iload 5, 2) := by decide +kernel
theorem dX12_crawlsFrom_137 : decode cX12_crawlsFrom 137 = .ok (.invokestatic 118, 3) := by decide +kernel
theorem dX12_crawlsFrom_140 : decode cX12_crawlsFrom 140 = .ok (.ifCond .ne 17, 3) := by decide +kernel
theorem dX12_crawlsFrom_143 : decode cX12_crawlsFrom 143 = .ok (.aload_n 0, 1) := by decide +kernel
theorem dX12_crawlsFrom_144 : decode cX12_crawlsFrom 144 = .ok (.iload_n 1, 1) := by decide +kernel
theorem dX12_crawlsFrom_145 : decode cX12_crawlsFrom 145 = .ok (.iconst 1, 1) := by decide +kernel
theorem dX12_crawlsFrom_146 : decode cX12_crawlsFrom 146 = .ok (.bipush 8, 2) := by decide +kernel
theorem dX12_crawlsFrom_148 : decode cX12_crawlsFrom 148 = .ok (.iload_n 3, 1) := by decide +kernel
theorem dX12_crawlsFrom_149 : decode cX12_crawlsFrom 149 = .ok (.imul, 1) := by decide +kernel
theorem dX12_crawlsFrom_150 : decode cX12_crawlsFrom 150 = .ok (.iadd, 1) := by decide +kernel
theorem dX12_crawlsFrom_151 : decode cX12_crawlsFrom 151 = .ok (.iload 5, 2) := by decide +kernel
theorem dX12_crawlsFrom_153 : decode cX12_crawlsFrom 153 = .ok (.iadd, 1) := by decide +kernel
theorem dX12_crawlsFrom_154 : decode cX12_crawlsFrom 154 = .ok (.invokevirtual 402, 3) := by decide +kernel
theorem dX12_crawlsFrom_157 : decode cX12_crawlsFrom 157 = .ok (.return_, 1) := by decide +kernel
def f_X12_crawlsFrom_n126 (x1 : Int32) (x2 : Int32) (S0 : Gr) (x3 : Int32) (x5 : Int32) : Option (Gr) := (f_X12_octet S0 ((2 * x3) + 1)).bind fun u20 => (f_X12_has u20 x5).bind fun u21 => if u21 = 0 then ((f_X12_crawlsTo S0 x1 ((1 + (8 * x3)) + x5)).bind fun u23 => some u23) else (some S0)
def f_X12_crawlsFrom_n90 (x1 : Int32) (x2 : Int32) (S0 : Gr) (x3 : Int32) (x4 : Int32) (x5 : Int32) : Option (Gr) := (f_X12_octet S0 ((2 * x3) + 1)).bind fun u15 => (f_X12_has u15 x4).bind fun u16 => if u16 = 0 then (lt' ((x4 + 1) - (x4 + 1) / 8 * 8) fun v18 => (f_X12_crawlsTo S0 x1 ((1 + (8 * x3)) + v18)).bind fun u19 => f_X12_crawlsFrom_n126 x1 x2 u19 x3 x5) else (f_X12_crawlsFrom_n126 x1 x2 S0 x3 x5)
def f_X12_crawlsFrom_n57 (x1 : Int32) (x2 : Int32) (S0 : Gr) (x3 : Int32) (x4 : Int32) (x5 : Int32) : Option (Gr) := if x2 ≤ (x3 + 1) then (f_X12_crawlsFrom_n90 x1 x2 S0 x3 x4 x5) else ((f_X12_octet S0 ((2 * x3) + 2)).bind fun u11 => (f_X12_has u11 x4).bind fun u12 => if u12 = 0 then ((f_X12_crawlsTo S0 x1 (x1 + 8)).bind fun u14 => f_X12_crawlsFrom_n90 x1 x2 u14 x3 x4 x5) else (f_X12_crawlsFrom_n90 x1 x2 S0 x3 x4 x5))
def f_X12_crawlsFrom (S0 : Gr) (x1 : Int32) (x2 : Int32) : Option (Gr) := lt' ((x1 - 1) / 8) fun v1 => lt' ((x1 - 1) - (x1 - 1) / 8 * 8) fun v2 => lt' ((v2 + 7) - (v2 + 7) / 8 * 8) fun v3 => (f_X12_octet S0 (2 * v1)).bind fun u4 => (f_X12_has u4 v2).bind fun u5 => if u5 = 0 then (if v1 = 0 then ((f_X12_crawlsTo S0 x1 0).bind fun u9 => f_X12_crawlsFrom_n57 x1 x2 u9 v1 v2 v3) else ((f_X12_crawlsTo S0 x1 (x1 - 8)).bind fun u8 => f_X12_crawlsFrom_n57 x1 x2 u8 v1 v2 v3)) else (f_X12_crawlsFrom_n57 x1 x2 S0 v1 v2 v3)
set_option maxHeartbeats 4000000 in
set_option maxRecDepth 100000 in
theorem c_X12_crawlsFrom (l : Launch) (E : Ec) (q0 : Nat → Nat) (sz : Nat) (S0 : Gr) (x1 : Int32) (x2 : Int32) (Rv : Gr) (h : f_X12_crawlsFrom S0 x1 x2 = some Rv) : Met l yX12_crawlsFrom (wsM (.code yX12_crawlsFrom cX12_crawlsFrom 6 none)) ({ frames := 1, cells := 0, slots := 0, locals := 22 } : Room) (va_Pc [.ref (q0 0), .int x1, .int x2] (ctP E (cw_X12 E q0 S0) sz)) (ctV E (cw_X12 E q0 S0) (cw_X12 E q0 Rv) sz) 0 0 (va_A (cw_X12 E q0 S0) sz) := by
  refine ct_metV (by decide) (Nat.le_of_ble_eq_true rfl) ?_
  intro p e s m ar below meth c A QM hx hb hml hown hg X hP hD hS RET ls hl
  have hown : s.vm.findClass RX12 = some m.cls := hown
  have hl : lv_has ls 6 [(0, .ref (q0 0)), (1, .int x1), (2, .int x2)] := hl
  have RT : ∀ (S0 : Gr) (H : Heap) (locs : List Loc) (ls : Array Slot) (pc : Nat), some S0 = some Rv → va_P E.1 vwCl (cw_X12 E q0 S0) H → va_D A (cw_X12 E q0 S0) → va_S A s.heap H locs → decode cX12_crawlsFrom pc = .ok (.return_, 1) → W p l e ({ frames := 1, cells := 0, slots := 0, locals := 22 } : Room) s m ar below meth c H locs 0 0 QM (F0 m pc ls []) := by
    intro S0 H locs ls pc e hP hD hS d
    obtain rfl := sm_e e
    exact RET H locs pc ls hP hD hS d
  clear RET
  have N126 : ∀ (S0 : Gr) (x3 : Int32) (x5 : Int32) (H : Heap) (locs : List Loc) (ls : Array Slot), f_X12_crawlsFrom_n126 x1 x2 S0 x3 x5 = some Rv → va_P E.1 vwCl (cw_X12 E q0 S0) H → va_D A (cw_X12 E q0 S0) → va_S A s.heap H locs → lv_has ls 6 [(0, .ref (q0 0)), (1, .int x1), (3, .int x3), (5, .int x5)] → W p l e ({ frames := 1, cells := 0, slots := 0, locals := 22 } : Room) s m ar below meth c H locs 0 0 QM (F0 m 126 ls []) := by
    intro S0 x3 x5 H locs ls h hP hD hS hl
    refine lv_aload_n hx hb dX12_crawlsFrom_126 rfl (lv_at hl 0 rfl) ?_
    refine lv_iconst (v := 2) hx hb dX12_crawlsFrom_127 (by decide) ?_
    refine lv_iload_n hx hb dX12_crawlsFrom_128 rfl (lv_at hl 2 rfl) ?_
    refine lv_imul hx hb dX12_crawlsFrom_129 ?_
    refine lv_iconst (v := 1) hx hb dX12_crawlsFrom_130 (by decide) ?_
    refine lv_iadd hx hb dX12_crawlsFrom_131 ?_
    obtain ⟨u20, hc, h⟩ := bd_el h
    refine ct_iA (w1 := cw_X12 E q0 S0) X hP hD hS (va_runV (C := RX12) (As := [.int ((2 * x3) + 1)]) (rest := []) ⟨hx, hb, hml, hown, hg⟩ (c_X12_octet l E q0 H.size S0 ((2 * x3) + 1) u20 hc) (cwV 1 hg (gwV wm_X12_351 wi_X12_octet wsl_X12_octet wini_X12 wco_X12_octet) rfl rfl rfl (by decide +kernel) ⟨Nat.le_of_ble_eq_true rfl, Nat.le_of_ble_eq_true rfl⟩) ⟨ct_blind, ct_rv X.1 hP 0 rfl rfl, ct_preA X hP hD hS _⟩ rfl rfl hl.1 rfl (lv_room (Nat.le_of_ble_eq_true rfl)) dX12_crawlsFrom_132 ⟨Nat.zero_le _, Nat.zero_le _⟩) (fun H locs hP hD hS => ?_)
    refine lv_iload hx hb dX12_crawlsFrom_135 (lv_at hl 3 rfl) ?_
    obtain ⟨u21, hc, h⟩ := bd_el h
    refine ct_iN X hP hD hS (va_runS (As := [.int u20, .int x5]) (rest := []) ⟨hx, hb, hml, hown, hg⟩ (c_X12_has l E  H.size u20 x5 u21 hc) (va_cwS 2 hg (gwS wm_X12_118 wst_X12_has wini_X12 wco_X12_has) rfl rfl rfl (by decide +kernel) ⟨Nat.le_of_ble_eq_true rfl, Nat.le_of_ble_eq_true rfl⟩) ⟨ct_blind, ct_preN X hS _⟩ rfl rfl hl.1 rfl (lv_room (Nat.le_of_ble_eq_true rfl)) dX12_crawlsFrom_137 ⟨Nat.zero_le _, Nat.zero_le _⟩) (fun H locs hP hD hS => ?_)
    refine lv_if_ne (tgt := 157) hx hb dX12_crawlsFrom_140 (by decide) (fun c22 => ?_) (fun c22 => ?_)
    · have h := it_f h c22
      exact RT S0 _ _ _ _ h hP hD hS dX12_crawlsFrom_157
    · have h := it_t h c22
      refine lv_aload_n hx hb dX12_crawlsFrom_143 rfl (lv_at hl 0 rfl) ?_
      refine lv_iload_n hx hb dX12_crawlsFrom_144 rfl (lv_at hl 1 rfl) ?_
      refine lv_iconst (v := 1) hx hb dX12_crawlsFrom_145 (by decide) ?_
      refine lv_bipush (v := 8) hx hb dX12_crawlsFrom_146 (by decide) ?_
      refine lv_iload_n hx hb dX12_crawlsFrom_148 rfl (lv_at hl 2 rfl) ?_
      refine lv_imul hx hb dX12_crawlsFrom_149 ?_
      refine lv_iadd hx hb dX12_crawlsFrom_150 ?_
      refine lv_iload hx hb dX12_crawlsFrom_151 (lv_at hl 3 rfl) ?_
      refine lv_iadd hx hb dX12_crawlsFrom_153 ?_
      obtain ⟨u23, hc, h⟩ := bd_el h
      refine ct_vA (w1 := cw_X12 E q0 u23) X hP hD hS (va_runV (C := RX12) (As := [.int x1, .int ((1 + (8 * x3)) + x5)]) (rest := []) ⟨hx, hb, hml, hown, hg⟩ (c_X12_crawlsTo l E q0 H.size S0 x1 ((1 + (8 * x3)) + x5) u23 hc) (cwV 2 hg (gwV wm_X12_402 wi_X12_crawlsTo wsl_X12_crawlsTo wini_X12 wco_X12_crawlsTo) rfl rfl rfl (by decide +kernel) ⟨Nat.le_of_ble_eq_true rfl, Nat.le_of_ble_eq_true rfl⟩) ⟨ct_blind, ct_rv X.1 hP 0 rfl rfl, ct_preA X hP hD hS _⟩ rfl rfl hl.1 rfl (lv_room (Nat.le_of_ble_eq_true rfl)) dX12_crawlsFrom_154 ⟨Nat.zero_le _, Nat.zero_le _⟩) (fun H locs hP hD hS => ?_)
      exact RT u23 _ _ _ _ h hP hD hS dX12_crawlsFrom_157
  have N90 : ∀ (S0 : Gr) (x3 : Int32) (x4 : Int32) (x5 : Int32) (H : Heap) (locs : List Loc) (ls : Array Slot), f_X12_crawlsFrom_n90 x1 x2 S0 x3 x4 x5 = some Rv → va_P E.1 vwCl (cw_X12 E q0 S0) H → va_D A (cw_X12 E q0 S0) → va_S A s.heap H locs → lv_has ls 6 [(0, .ref (q0 0)), (1, .int x1), (3, .int x3), (4, .int x4), (5, .int x5)] → W p l e ({ frames := 1, cells := 0, slots := 0, locals := 22 } : Room) s m ar below meth c H locs 0 0 QM (F0 m 90 ls []) := by
    intro S0 x3 x4 x5 H locs ls h hP hD hS hl
    refine lv_aload_n hx hb dX12_crawlsFrom_90 rfl (lv_at hl 0 rfl) ?_
    refine lv_iconst (v := 2) hx hb dX12_crawlsFrom_91 (by decide) ?_
    refine lv_iload_n hx hb dX12_crawlsFrom_92 rfl (lv_at hl 2 rfl) ?_
    refine lv_imul hx hb dX12_crawlsFrom_93 ?_
    refine lv_iconst (v := 1) hx hb dX12_crawlsFrom_94 (by decide) ?_
    refine lv_iadd hx hb dX12_crawlsFrom_95 ?_
    obtain ⟨u15, hc, h⟩ := bd_el h
    refine ct_iA (w1 := cw_X12 E q0 S0) X hP hD hS (va_runV (C := RX12) (As := [.int ((2 * x3) + 1)]) (rest := []) ⟨hx, hb, hml, hown, hg⟩ (c_X12_octet l E q0 H.size S0 ((2 * x3) + 1) u15 hc) (cwV 1 hg (gwV wm_X12_351 wi_X12_octet wsl_X12_octet wini_X12 wco_X12_octet) rfl rfl rfl (by decide +kernel) ⟨Nat.le_of_ble_eq_true rfl, Nat.le_of_ble_eq_true rfl⟩) ⟨ct_blind, ct_rv X.1 hP 0 rfl rfl, ct_preA X hP hD hS _⟩ rfl rfl hl.1 rfl (lv_room (Nat.le_of_ble_eq_true rfl)) dX12_crawlsFrom_96 ⟨Nat.zero_le _, Nat.zero_le _⟩) (fun H locs hP hD hS => ?_)
    refine lv_iload hx hb dX12_crawlsFrom_99 (lv_at hl 3 rfl) ?_
    obtain ⟨u16, hc, h⟩ := bd_el h
    refine ct_iN X hP hD hS (va_runS (As := [.int u15, .int x4]) (rest := []) ⟨hx, hb, hml, hown, hg⟩ (c_X12_has l E  H.size u15 x4 u16 hc) (va_cwS 2 hg (gwS wm_X12_118 wst_X12_has wini_X12 wco_X12_has) rfl rfl rfl (by decide +kernel) ⟨Nat.le_of_ble_eq_true rfl, Nat.le_of_ble_eq_true rfl⟩) ⟨ct_blind, ct_preN X hS _⟩ rfl rfl hl.1 rfl (lv_room (Nat.le_of_ble_eq_true rfl)) dX12_crawlsFrom_101 ⟨Nat.zero_le _, Nat.zero_le _⟩) (fun H locs hP hD hS => ?_)
    refine lv_if_ne (tgt := 126) hx hb dX12_crawlsFrom_104 (by decide) (fun c17 => ?_) (fun c17 => ?_)
    · have h := it_f h c17
      exact N126  S0 x3 x5 _ _ _ h hP hD hS (lv_sub hl [0, 1, 2, 4] rfl)
    · have h := it_t h c17
      refine lv_aload_n hx hb dX12_crawlsFrom_107 rfl (lv_at hl 0 rfl) ?_
      refine lv_iload_n hx hb dX12_crawlsFrom_108 rfl (lv_at hl 1 rfl) ?_
      refine lv_iconst (v := 1) hx hb dX12_crawlsFrom_109 (by decide) ?_
      refine lv_bipush (v := 8) hx hb dX12_crawlsFrom_110 (by decide) ?_
      refine lv_iload_n hx hb dX12_crawlsFrom_112 rfl (lv_at hl 2 rfl) ?_
      refine lv_imul hx hb dX12_crawlsFrom_113 ?_
      refine lv_iadd hx hb dX12_crawlsFrom_114 ?_
      refine lv_iload hx hb dX12_crawlsFrom_115 (lv_at hl 3 rfl) ?_
      refine lv_iconst (v := 1) hx hb dX12_crawlsFrom_117 (by decide) ?_
      refine lv_iadd hx hb dX12_crawlsFrom_118 ?_
      refine lv_bipush (v := 8) hx hb dX12_crawlsFrom_119 (by decide) ?_
      refine lv_irem hx hb dX12_crawlsFrom_121 (by decide) ?_
      obtain ⟨v18, ev18, h⟩ := lt_el h
      refine lv_top' ev18 ?_
      refine lv_iadd hx hb dX12_crawlsFrom_122 ?_
      obtain ⟨u19, hc, h⟩ := bd_el h
      refine ct_vA (w1 := cw_X12 E q0 u19) X hP hD hS (va_runV (C := RX12) (As := [.int x1, .int ((1 + (8 * x3)) + v18)]) (rest := []) ⟨hx, hb, hml, hown, hg⟩ (c_X12_crawlsTo l E q0 H.size S0 x1 ((1 + (8 * x3)) + v18) u19 hc) (cwV 2 hg (gwV wm_X12_402 wi_X12_crawlsTo wsl_X12_crawlsTo wini_X12 wco_X12_crawlsTo) rfl rfl rfl (by decide +kernel) ⟨Nat.le_of_ble_eq_true rfl, Nat.le_of_ble_eq_true rfl⟩) ⟨ct_blind, ct_rv X.1 hP 0 rfl rfl, ct_preA X hP hD hS _⟩ rfl rfl hl.1 rfl (lv_room (Nat.le_of_ble_eq_true rfl)) dX12_crawlsFrom_123 ⟨Nat.zero_le _, Nat.zero_le _⟩) (fun H locs hP hD hS => ?_)
      exact N126  u19 x3 x5 _ _ _ h hP hD hS (lv_sub hl [0, 1, 2, 4] rfl)
  have N57 : ∀ (S0 : Gr) (x3 : Int32) (x4 : Int32) (x5 : Int32) (H : Heap) (locs : List Loc) (ls : Array Slot), f_X12_crawlsFrom_n57 x1 x2 S0 x3 x4 x5 = some Rv → va_P E.1 vwCl (cw_X12 E q0 S0) H → va_D A (cw_X12 E q0 S0) → va_S A s.heap H locs → lv_has ls 6 [(0, .ref (q0 0)), (1, .int x1), (2, .int x2), (3, .int x3), (4, .int x4), (5, .int x5)] → W p l e ({ frames := 1, cells := 0, slots := 0, locals := 22 } : Room) s m ar below meth c H locs 0 0 QM (F0 m 57 ls []) := by
    intro S0 x3 x4 x5 H locs ls h hP hD hS hl
    refine lv_iload_n hx hb dX12_crawlsFrom_57 rfl (lv_at hl 3 rfl) ?_
    refine lv_iconst (v := 1) hx hb dX12_crawlsFrom_58 (by decide) ?_
    refine lv_iadd hx hb dX12_crawlsFrom_59 ?_
    refine lv_iload_n hx hb dX12_crawlsFrom_60 rfl (lv_at hl 2 rfl) ?_
    refine lv_icmp_ge (tgt := 90) hx hb dX12_crawlsFrom_61 (by decide) (fun c10 => ?_) (fun c10 => ?_)
    · have h := it_t h c10
      exact N90  S0 x3 x4 x5 _ _ _ h hP hD hS (lv_sub hl [0, 1, 3, 4, 5] rfl)
    · have h := it_f h c10
      refine lv_aload_n hx hb dX12_crawlsFrom_64 rfl (lv_at hl 0 rfl) ?_
      refine lv_iconst (v := 2) hx hb dX12_crawlsFrom_65 (by decide) ?_
      refine lv_iload_n hx hb dX12_crawlsFrom_66 rfl (lv_at hl 3 rfl) ?_
      refine lv_imul hx hb dX12_crawlsFrom_67 ?_
      refine lv_iconst (v := 2) hx hb dX12_crawlsFrom_68 (by decide) ?_
      refine lv_iadd hx hb dX12_crawlsFrom_69 ?_
      obtain ⟨u11, hc, h⟩ := bd_el h
      refine ct_iA (w1 := cw_X12 E q0 S0) X hP hD hS (va_runV (C := RX12) (As := [.int ((2 * x3) + 2)]) (rest := []) ⟨hx, hb, hml, hown, hg⟩ (c_X12_octet l E q0 H.size S0 ((2 * x3) + 2) u11 hc) (cwV 1 hg (gwV wm_X12_351 wi_X12_octet wsl_X12_octet wini_X12 wco_X12_octet) rfl rfl rfl (by decide +kernel) ⟨Nat.le_of_ble_eq_true rfl, Nat.le_of_ble_eq_true rfl⟩) ⟨ct_blind, ct_rv X.1 hP 0 rfl rfl, ct_preA X hP hD hS _⟩ rfl rfl hl.1 rfl (lv_room (Nat.le_of_ble_eq_true rfl)) dX12_crawlsFrom_70 ⟨Nat.zero_le _, Nat.zero_le _⟩) (fun H locs hP hD hS => ?_)
      refine lv_iload hx hb dX12_crawlsFrom_73 (lv_at hl 4 rfl) ?_
      obtain ⟨u12, hc, h⟩ := bd_el h
      refine ct_iN X hP hD hS (va_runS (As := [.int u11, .int x4]) (rest := []) ⟨hx, hb, hml, hown, hg⟩ (c_X12_has l E  H.size u11 x4 u12 hc) (va_cwS 2 hg (gwS wm_X12_118 wst_X12_has wini_X12 wco_X12_has) rfl rfl rfl (by decide +kernel) ⟨Nat.le_of_ble_eq_true rfl, Nat.le_of_ble_eq_true rfl⟩) ⟨ct_blind, ct_preN X hS _⟩ rfl rfl hl.1 rfl (lv_room (Nat.le_of_ble_eq_true rfl)) dX12_crawlsFrom_75 ⟨Nat.zero_le _, Nat.zero_le _⟩) (fun H locs hP hD hS => ?_)
      refine lv_if_ne (tgt := 90) hx hb dX12_crawlsFrom_78 (by decide) (fun c13 => ?_) (fun c13 => ?_)
      · have h := it_f h c13
        exact N90  S0 x3 x4 x5 _ _ _ h hP hD hS (lv_sub hl [0, 1, 3, 4, 5] rfl)
      · have h := it_t h c13
        refine lv_aload_n hx hb dX12_crawlsFrom_81 rfl (lv_at hl 0 rfl) ?_
        refine lv_iload_n hx hb dX12_crawlsFrom_82 rfl (lv_at hl 1 rfl) ?_
        refine lv_iload_n hx hb dX12_crawlsFrom_83 rfl (lv_at hl 1 rfl) ?_
        refine lv_bipush (v := 8) hx hb dX12_crawlsFrom_84 (by decide) ?_
        refine lv_iadd hx hb dX12_crawlsFrom_86 ?_
        obtain ⟨u14, hc, h⟩ := bd_el h
        refine ct_vA (w1 := cw_X12 E q0 u14) X hP hD hS (va_runV (C := RX12) (As := [.int x1, .int (x1 + 8)]) (rest := []) ⟨hx, hb, hml, hown, hg⟩ (c_X12_crawlsTo l E q0 H.size S0 x1 (x1 + 8) u14 hc) (cwV 2 hg (gwV wm_X12_402 wi_X12_crawlsTo wsl_X12_crawlsTo wini_X12 wco_X12_crawlsTo) rfl rfl rfl (by decide +kernel) ⟨Nat.le_of_ble_eq_true rfl, Nat.le_of_ble_eq_true rfl⟩) ⟨ct_blind, ct_rv X.1 hP 0 rfl rfl, ct_preA X hP hD hS _⟩ rfl rfl hl.1 rfl (lv_room (Nat.le_of_ble_eq_true rfl)) dX12_crawlsFrom_87 ⟨Nat.zero_le _, Nat.zero_le _⟩) (fun H locs hP hD hS => ?_)
        exact N90  u14 x3 x4 x5 _ _ _ h hP hD hS (lv_sub hl [0, 1, 3, 4, 5] rfl)
  obtain ⟨H, eH⟩ : ∃ z, z = s.heap := ⟨_, rfl⟩
  rw [← eH]
  have hP : va_P E.1 vwCl (cw_X12 E q0 S0) H := by rw [eH]; exact hP
  have hS : va_S A s.heap H [] := by rw [eH]; exact hS
  clear eH
  obtain ⟨locs, el⟩ : ∃ z : List Loc, z = [] := ⟨_, rfl⟩
  rw [← el] at hS ⊢
  clear el
  refine lv_iload_n hx hb dX12_crawlsFrom_0 rfl (lv_at hl 1 rfl) ?_
  refine lv_iconst (v := 1) hx hb dX12_crawlsFrom_1 (by decide) ?_
  refine lv_isub hx hb dX12_crawlsFrom_2 ?_
  refine lv_bipush (v := 8) hx hb dX12_crawlsFrom_3 (by decide) ?_
  refine lv_idiv hx hb dX12_crawlsFrom_5 (by decide) ?_
  obtain ⟨v1, ev1, h⟩ := lt_el h
  refine lv_top' ev1 ?_
  refine lv_istore_n (lv' := [(3, .int v1), (0, .ref (q0 0)), (1, .int x1), (2, .int x2)]) hx hb dX12_crawlsFrom_6 rfl hl (by decide) rfl (fun ls hl => ?_)
  refine lv_iload_n hx hb dX12_crawlsFrom_7 rfl (lv_at hl 2 rfl) ?_
  refine lv_iconst (v := 1) hx hb dX12_crawlsFrom_8 (by decide) ?_
  refine lv_isub hx hb dX12_crawlsFrom_9 ?_
  refine lv_bipush (v := 8) hx hb dX12_crawlsFrom_10 (by decide) ?_
  refine lv_irem hx hb dX12_crawlsFrom_12 (by decide) ?_
  obtain ⟨v2, ev2, h⟩ := lt_el h
  refine lv_top' ev2 ?_
  refine lv_istore (lv' := [(4, .int v2), (3, .int v1), (0, .ref (q0 0)), (1, .int x1), (2, .int x2)]) hx hb dX12_crawlsFrom_13 hl (by decide) rfl (fun ls hl => ?_)
  refine lv_iload hx hb dX12_crawlsFrom_15 (lv_at hl 0 rfl) ?_
  refine lv_bipush (v := 7) hx hb dX12_crawlsFrom_17 (by decide) ?_
  refine lv_iadd hx hb dX12_crawlsFrom_19 ?_
  refine lv_bipush (v := 8) hx hb dX12_crawlsFrom_20 (by decide) ?_
  refine lv_irem hx hb dX12_crawlsFrom_22 (by decide) ?_
  obtain ⟨v3, ev3, h⟩ := lt_el h
  refine lv_top' ev3 ?_
  refine lv_istore (lv' := [(5, .int v3), (4, .int v2), (3, .int v1), (0, .ref (q0 0)), (1, .int x1), (2, .int x2)]) hx hb dX12_crawlsFrom_23 hl (by decide) rfl (fun ls hl => ?_)
  refine lv_aload_n hx hb dX12_crawlsFrom_25 rfl (lv_at hl 3 rfl) ?_
  refine lv_iconst (v := 2) hx hb dX12_crawlsFrom_26 (by decide) ?_
  refine lv_iload_n hx hb dX12_crawlsFrom_27 rfl (lv_at hl 2 rfl) ?_
  refine lv_imul hx hb dX12_crawlsFrom_28 ?_
  obtain ⟨u4, hc, h⟩ := bd_el h
  refine ct_iA (w1 := cw_X12 E q0 S0) X hP hD hS (va_runV (C := RX12) (As := [.int (2 * v1)]) (rest := []) ⟨hx, hb, hml, hown, hg⟩ (c_X12_octet l E q0 H.size S0 (2 * v1) u4 hc) (cwV 1 hg (gwV wm_X12_351 wi_X12_octet wsl_X12_octet wini_X12 wco_X12_octet) rfl rfl rfl (by decide +kernel) ⟨Nat.le_of_ble_eq_true rfl, Nat.le_of_ble_eq_true rfl⟩) ⟨ct_blind, ct_rv X.1 hP 0 rfl rfl, ct_preA X hP hD hS _⟩ rfl rfl hl.1 rfl (lv_room (Nat.le_of_ble_eq_true rfl)) dX12_crawlsFrom_29 ⟨Nat.zero_le _, Nat.zero_le _⟩) (fun H locs hP hD hS => ?_)
  refine lv_iload hx hb dX12_crawlsFrom_32 (lv_at hl 1 rfl) ?_
  obtain ⟨u5, hc, h⟩ := bd_el h
  refine ct_iN X hP hD hS (va_runS (As := [.int u4, .int v2]) (rest := []) ⟨hx, hb, hml, hown, hg⟩ (c_X12_has l E  H.size u4 v2 u5 hc) (va_cwS 2 hg (gwS wm_X12_118 wst_X12_has wini_X12 wco_X12_has) rfl rfl rfl (by decide +kernel) ⟨Nat.le_of_ble_eq_true rfl, Nat.le_of_ble_eq_true rfl⟩) ⟨ct_blind, ct_preN X hS _⟩ rfl rfl hl.1 rfl (lv_room (Nat.le_of_ble_eq_true rfl)) dX12_crawlsFrom_34 ⟨Nat.zero_le _, Nat.zero_le _⟩) (fun H locs hP hD hS => ?_)
  refine lv_if_ne (tgt := 57) hx hb dX12_crawlsFrom_37 (by decide) (fun c6 => ?_) (fun c6 => ?_)
  · have h := it_f h c6
    exact N57  S0 v1 v2 v3 _ _ _ h hP hD hS (lv_sub hl [3, 4, 5, 2, 1, 0] rfl)
  · have h := it_t h c6
    refine lv_aload_n hx hb dX12_crawlsFrom_40 rfl (lv_at hl 3 rfl) ?_
    refine lv_iload_n hx hb dX12_crawlsFrom_41 rfl (lv_at hl 4 rfl) ?_
    refine lv_iload_n hx hb dX12_crawlsFrom_42 rfl (lv_at hl 2 rfl) ?_
    refine lv_if_ne (tgt := 50) hx hb dX12_crawlsFrom_43 (by decide) (fun c7 => ?_) (fun c7 => ?_)
    · have h := it_f h c7
      refine lv_iload_n hx hb dX12_crawlsFrom_50 rfl (lv_at hl 4 rfl) ?_
      refine lv_bipush (v := 8) hx hb dX12_crawlsFrom_51 (by decide) ?_
      refine lv_isub hx hb dX12_crawlsFrom_53 ?_
      obtain ⟨u8, hc, h⟩ := bd_el h
      refine ct_vA (w1 := cw_X12 E q0 u8) X hP hD hS (va_runV (C := RX12) (As := [.int x1, .int (x1 - 8)]) (rest := []) ⟨hx, hb, hml, hown, hg⟩ (c_X12_crawlsTo l E q0 H.size S0 x1 (x1 - 8) u8 hc) (cwV 2 hg (gwV wm_X12_402 wi_X12_crawlsTo wsl_X12_crawlsTo wini_X12 wco_X12_crawlsTo) rfl rfl rfl (by decide +kernel) ⟨Nat.le_of_ble_eq_true rfl, Nat.le_of_ble_eq_true rfl⟩) ⟨ct_blind, ct_rv X.1 hP 0 rfl rfl, ct_preA X hP hD hS _⟩ rfl rfl hl.1 rfl (lv_room (Nat.le_of_ble_eq_true rfl)) dX12_crawlsFrom_54 ⟨Nat.zero_le _, Nat.zero_le _⟩) (fun H locs hP hD hS => ?_)
      exact N57  u8 v1 v2 v3 _ _ _ h hP hD hS (lv_sub hl [3, 4, 5, 2, 1, 0] rfl)
    · have h := it_t h c7
      refine lv_iconst (v := 0) hx hb dX12_crawlsFrom_46 (by decide) ?_
      refine lv_goto (tgt := 54) hx hb dX12_crawlsFrom_47 (by decide) ?_
      obtain ⟨u9, hc, h⟩ := bd_el h
      refine ct_vA (w1 := cw_X12 E q0 u9) X hP hD hS (va_runV (C := RX12) (As := [.int x1, .int 0]) (rest := []) ⟨hx, hb, hml, hown, hg⟩ (c_X12_crawlsTo l E q0 H.size S0 x1 0 u9 hc) (cwV 2 hg (gwV wm_X12_402 wi_X12_crawlsTo wsl_X12_crawlsTo wini_X12 wco_X12_crawlsTo) rfl rfl rfl (by decide +kernel) ⟨Nat.le_of_ble_eq_true rfl, Nat.le_of_ble_eq_true rfl⟩) ⟨ct_blind, ct_rv X.1 hP 0 rfl rfl, ct_preA X hP hD hS _⟩ rfl rfl hl.1 rfl (lv_room (Nat.le_of_ble_eq_true rfl)) dX12_crawlsFrom_54 ⟨Nat.zero_le _, Nat.zero_le _⟩) (fun H locs hP hD hS => ?_)
      exact N57  u9 v1 v2 v3 _ _ _ h hP hD hS (lv_sub hl [3, 4, 5, 2, 1, 0] rfl)
theorem dX12_orNone_0 : decode cX12_orNone 0 = .ok (.iload_n 0, 1) := by decide +kernel
theorem dX12_orNone_1 : decode cX12_orNone 1 = .ok (.iconst (-1), 1) := by decide +kernel
theorem dX12_orNone_2 : decode cX12_orNone 2 = .ok (.if_icmp .ne 8, 3) := by decide +kernel
theorem dX12_orNone_5 : decode cX12_orNone 5 = .ok (.bipush (-2), 2) := by decide +kernel
theorem dX12_orNone_7 : decode cX12_orNone 7 = .ok (.goto 4, 3) := by decide +kernel
theorem dX12_orNone_10 : decode cX12_orNone 10 = .ok (.iload_n 0, 1) := by decide +kernel
theorem dX12_orNone_11 : decode cX12_orNone 11 = .ok (.ireturn, 1) := by decide +kernel
def f_X12_orNone (x0 : Int32) : Option (Int32) := if x0 = (-1) then (some (-2)) else (some x0)
set_option maxHeartbeats 4000000 in
set_option maxRecDepth 100000 in
theorem c_X12_orNone (l : Launch) (E : Ec) (sz : Nat) (x0 : Int32) (Rv : Int32) (h : f_X12_orNone x0 = some Rv) : Met l yX12_orNone (wsM (.code yX12_orNone cX12_orNone 1 (some .int))) ({ frames := 0, cells := 0, slots := 0, locals := 0 } : Room) (va_Pc [.int x0] (ctP E ([]) sz)) (ctI E ([]) ([]) sz Rv) 0 0 (va_A ([]) sz) := by
  refine ct_metI (by decide) (Nat.le_of_ble_eq_true rfl) ?_
  intro p e s m ar below meth c A QM hx hb hml hown hg X hP hD hS RET ls hl
  have hown : s.vm.findClass RX12 = some m.cls := hown
  have hl : lv_has ls 1 [(0, .int x0)] := hl
  have RT : ∀ (v : Int32) (H : Heap) (locs : List Loc) (ls : Array Slot) (pc : Nat), some v = some Rv → narrow .int (.int v) = .int v → va_P E.1 vwCl ([]) H → va_D A ([]) → va_S A s.heap H locs → decode cX12_orNone pc = .ok (.ireturn, 1) → W p l e ({ frames := 0, cells := 0, slots := 0, locals := 0 } : Room) s m ar below meth c H locs 0 0 QM (F0 m pc ls [.int v]) := by
    intro v H locs ls pc e hn hP hD hS d
    obtain rfl := sm_e e
    exact RET H locs pc ls hn hP hD hS d
  clear RET
  obtain ⟨H, eH⟩ : ∃ z, z = s.heap := ⟨_, rfl⟩
  rw [← eH]
  have hP : va_P E.1 vwCl ([]) H := by rw [eH]; exact hP
  have hS : va_S A s.heap H [] := by rw [eH]; exact hS
  clear eH
  obtain ⟨locs, el⟩ : ∃ z : List Loc, z = [] := ⟨_, rfl⟩
  rw [← el] at hS ⊢
  clear el
  refine lv_iload_n hx hb dX12_orNone_0 rfl (lv_at hl 0 rfl) ?_
  refine lv_iconst (v := (-1)) hx hb dX12_orNone_1 (by decide) ?_
  refine lv_icmp_ne (tgt := 10) hx hb dX12_orNone_2 (by decide) (fun c1 => ?_) (fun c1 => ?_)
  · have h := it_f h c1
    refine lv_iload_n hx hb dX12_orNone_10 rfl (lv_at hl 0 rfl) ?_
    exact RT x0 _ _ _ _ h rfl hP hD hS dX12_orNone_11
  · have h := it_t h c1
    refine lv_bipush (v := (-2)) hx hb dX12_orNone_5 (by decide) ?_
    refine lv_goto (tgt := 11) hx hb dX12_orNone_7 (by decide) ?_
    exact RT (-2) _ _ _ _ h rfl hP hD hS dX12_orNone_11
theorem dX12_crawls_0 : decode cX12_crawls 0 = .ok (.iload_n 1, 1) := by decide +kernel
theorem dX12_crawls_1 : decode cX12_crawls 1 = .ok (.iconst 1, 1) := by decide +kernel
theorem dX12_crawls_2 : decode cX12_crawls 2 = .ok (.bipush 8, 2) := by decide +kernel
theorem dX12_crawls_4 : decode cX12_crawls 4 = .ok (.invokestatic 110, 3) := by decide +kernel
theorem dX12_crawls_7 : decode cX12_crawls 7 = .ok (.ifCond .eq 34, 3) := by decide +kernel
theorem dX12_crawls_10 : decode cX12_crawls 10 = .ok (.iload_n 2, 1) := by decide +kernel
theorem dX12_crawls_11 : decode cX12_crawls 11 = .ok (.iconst 0, 1) := by decide +kernel
theorem dX12_crawls_12 : decode cX12_crawls 12 = .ok (.iload_n 1, 1) := by decide +kernel
theorem dX12_crawls_13 : decode cX12_crawls 13 = .ok (.iconst 1, 1) := by decide +kernel
theorem dX12_crawls_14 : decode cX12_crawls 14 = .ok (.isub, 1) := by decide +kernel
theorem dX12_crawls_15 : decode cX12_crawls 15 = .ok (.invokestatic 110, 3) := by decide +kernel
theorem dX12_crawls_18 : decode cX12_crawls 18 = .ok (.ifCond .eq 23, 3) := by decide +kernel
theorem dX12_crawls_21 : decode cX12_crawls 21 = .ok (.iload_n 3, 1) := by decide +kernel
theorem dX12_crawls_22 : decode cX12_crawls 22 = .ok (.iconst 0, 1) := by decide +kernel
theorem dX12_crawls_23 : decode cX12_crawls 23 = .ok (.bipush 7, 2) := by decide +kernel
theorem dX12_crawls_25 : decode cX12_crawls 25 = .ok (.invokestatic 110, 3) := by decide +kernel
theorem dX12_crawls_28 : decode cX12_crawls 28 = .ok (.ifCond .eq 13, 3) := by decide +kernel
theorem dX12_crawls_31 : decode cX12_crawls 31 = .ok (.iconst 2, 1) := by decide +kernel
theorem dX12_crawls_32 : decode cX12_crawls 32 = .ok (.iload_n 1, 1) := by decide +kernel
theorem dX12_crawls_33 : decode cX12_crawls 33 = .ok (.imul, 1) := by decide +kernel
theorem dX12_crawls_34 : decode cX12_crawls 34 = .ok (.aload_n 0, 1) := by decide +kernel
theorem dX12_crawls_35 : decode cX12_crawls 35 = .ok (.getfield 143, 3) := by decide +kernel
theorem dX12_crawls_38 : decode cX12_crawls 38 = .ok (.if_icmp .le 5, 3) := by decide +kernel
theorem dX12_crawls_41 : decode cX12_crawls 41 = .ok (.iconst (-1), 1) := by decide +kernel
theorem dX12_crawls_42 : decode cX12_crawls 42 = .ok (.ireturn, 1) := by decide +kernel
theorem dX12_crawls_43 : decode cX12_crawls 43 = .ok (.aload_n 0, 1) := by decide +kernel
theorem dX12_crawls_44 : decode cX12_crawls 44 = .ok (.iconst 0, 1) := by decide +kernel
theorem dX12_crawls_45 : decode cX12_crawls 45 = .ok (.putfield 143, 3) := by decide +kernel
theorem dX12_crawls_48 : decode cX12_crawls 48 = .ok (.iconst 0, 1) := by decide +kernel
theorem dX12_crawls_49 : decode cX12_crawls 49 = .ok (.istore 4, 2) := by decide +kernel
theorem dX12_crawls_51 : decode cX12_crawls 51 = .ok (.iload 4, 2) := by decide +kernel
theorem dX12_crawls_53 : decode cX12_crawls 53 = .ok (.bipush 65, 2) := by decide +kernel
theorem dX12_crawls_55 : decode cX12_crawls 55 = .ok (.if_icmp .ge 17, 3) := by decide +kernel
theorem dX12_crawls_58 : decode cX12_crawls 58 = .ok (.aload_n 0, 1) := by decide +kernel
theorem dX12_crawls_59 : decode cX12_crawls 59 = .ok (.getfield 98, 3) := by decide +kernel
theorem dX12_crawls_62 : decode cX12_crawls 62 = .ok (.iload 4, 2) := by decide +kernel
theorem dX12_crawls_64 : decode cX12_crawls 64 = .ok (.iconst (-1), 1) := by decide +kernel
theorem dX12_crawls_65 : decode cX12_crawls 65 = .ok (.iastore, 1) := by decide +kernel
theorem dX12_crawls_66 : decode cX12_crawls 66 = .ok (.iinc 4 1, 3) := by decide +kernel
theorem dX12_crawls_69 : decode cX12_crawls 69 = .ok (.goto (-18), 3) := by decide +kernel
theorem dX12_crawls_72 : decode cX12_crawls 72 = .ok (.aload_n 0, 1) := by decide +kernel
theorem dX12_crawls_73 : decode cX12_crawls 73 = .ok (.getfield 98, 3) := by decide +kernel
theorem dX12_crawls_76 : decode cX12_crawls 76 = .ok (.iconst 0, 1) := by decide +kernel
theorem dX12_crawls_77 : decode cX12_crawls 77 = .ok (.iconst 0, 1) := by decide +kernel
theorem dX12_crawls_78 : decode cX12_crawls 78 = .ok (.iastore, 1) := by decide +kernel
theorem dX12_crawls_79 : decode cX12_crawls 79 = .ok (.aload_n 0, 1) := by decide +kernel
theorem dX12_crawls_80 : decode cX12_crawls 80 = .ok (.iconst 0, 1) := by decide +kernel
theorem dX12_crawls_81 : decode cX12_crawls 81 = .ok (.putfield 399, 3) := by decide +kernel
theorem dX12_crawls_84 : decode cX12_crawls 84 = .ok (.iconst 0, 1) := by decide +kernel
theorem dX12_crawls_85 : decode cX12_crawls 85 = .ok (.istore 4, 2) := by decide +kernel
theorem dX12_crawls_87 : decode cX12_crawls 87 = .ok (.iload 4, 2) := by decide +kernel
theorem dX12_crawls_89 : decode cX12_crawls 89 = .ok (.bipush 8, 2) := by decide +kernel
theorem dX12_crawls_91 : decode cX12_crawls 91 = .ok (.if_icmp .ge 31, 3) := by decide +kernel
theorem dX12_crawls_94 : decode cX12_crawls 94 = .ok (.aload_n 0, 1) := by decide +kernel
theorem dX12_crawls_95 : decode cX12_crawls 95 = .ok (.iconst 0, 1) := by decide +kernel
theorem dX12_crawls_96 : decode cX12_crawls 96 = .ok (.invokevirtual 351, 3) := by decide +kernel
theorem dX12_crawls_99 : decode cX12_crawls 99 = .ok (.iload 4, 2) := by decide +kernel
theorem dX12_crawls_101 : decode cX12_crawls 101 = .ok (.invokestatic 118, 3) := by decide +kernel
theorem dX12_crawls_104 : decode cX12_crawls 104 = .ok (.ifCond .ne 12, 3) := by decide +kernel
theorem dX12_crawls_107 : decode cX12_crawls 107 = .ok (.aload_n 0, 1) := by decide +kernel
theorem dX12_crawls_108 : decode cX12_crawls 108 = .ok (.iconst 0, 1) := by decide +kernel
theorem dX12_crawls_109 : decode cX12_crawls 109 = .ok (.iconst 1, 1) := by decide +kernel
theorem dX12_crawls_110 : decode cX12_crawls 110 = .ok (.iload 4, 2) := by decide +kernel
theorem dX12_crawls_112 : decode cX12_crawls 112 = .ok (.iadd, 1) := by decide +kernel
theorem dX12_crawls_113 : decode cX12_crawls 113 = .ok (.invokevirtual 402, 3) := by decide +kernel
theorem dX12_crawls_116 : decode cX12_crawls 116 = .ok (.iinc 4 1, 3) := by decide +kernel
theorem dX12_crawls_119 : decode cX12_crawls 119 = .ok (.goto (-32), 3) := by decide +kernel
theorem dX12_crawls_122 : decode cX12_crawls 122 = .ok (.iconst 0, 1) := by decide +kernel
theorem dX12_crawls_123 : decode cX12_crawls 123 = .ok (.istore 4, 2) := by decide +kernel
theorem dX12_crawls_125 : decode cX12_crawls 125 = .ok (.iload 4, 2) := by decide +kernel
theorem dX12_crawls_127 : decode cX12_crawls 127 = .ok (.aload_n 0, 1) := by decide +kernel
theorem dX12_crawls_128 : decode cX12_crawls 128 = .ok (.getfield 399, 3) := by decide +kernel
theorem dX12_crawls_131 : decode cX12_crawls 131 = .ok (.if_icmp .ge 31, 3) := by decide +kernel
theorem dX12_crawls_134 : decode cX12_crawls 134 = .ok (.aload_n 0, 1) := by decide +kernel
theorem dX12_crawls_135 : decode cX12_crawls 135 = .ok (.getfield 101, 3) := by decide +kernel
theorem dX12_crawls_138 : decode cX12_crawls 138 = .ok (.iload 4, 2) := by decide +kernel
theorem dX12_crawls_140 : decode cX12_crawls 140 = .ok (.iaload, 1) := by decide +kernel
theorem dX12_crawls_141 : decode cX12_crawls 141 = .ok (.ifCond .eq 15, 3) := by decide +kernel
theorem dX12_crawls_144 : decode cX12_crawls 144 = .ok (.aload_n 0, 1) := by decide +kernel
theorem dX12_crawls_145 : decode cX12_crawls 145 = .ok (.aload_n 0, 1) := by decide +kernel
theorem dX12_crawls_146 : decode cX12_crawls 146 = .ok (.getfield 101, 3) := by decide +kernel
theorem dX12_crawls_149 : decode cX12_crawls 149 = .ok (.iload 4, 2) := by decide +kernel
theorem dX12_crawls_151 : decode cX12_crawls 151 = .ok (.iaload, 1) := by decide +kernel
theorem dX12_crawls_152 : decode cX12_crawls 152 = .ok (.iload_n 1, 1) := by decide +kernel
theorem dX12_crawls_153 : decode cX12_crawls 153 = .ok (.invokevirtual 405, 3) := by decide +kernel
theorem dX12_crawls_156 : decode cX12_crawls 156 = .ok (.iinc 4 1, 3) := by decide +kernel
theorem dX12_crawls_159 : decode cX12_crawls 159 = .ok (.goto (-34), 3) := by decide +kernel
theorem dX12_crawls_162 : decode cX12_crawls 162 = .ok (.aload_n 0, 1) := by decide +kernel
theorem dX12_crawls_163 : decode cX12_crawls 163 = .ok (.getfield 98, 3) := by decide +kernel
theorem dX12_crawls_166 : decode cX12_crawls 166 = .ok (.iconst 1, 1) := by decide +kernel
theorem dX12_crawls_167 : decode cX12_crawls 167 = .ok (.bipush 8, 2) := by decide +kernel
theorem dX12_crawls_169 : decode cX12_crawls 169 = .ok (.iload_n 2, 1) := by decide +kernel
theorem dX12_crawls_170 : decode cX12_crawls 170 = .ok (.imul, 1) := by decide +kernel
theorem dX12_crawls_171 : decode cX12_crawls 171 = .ok (.iadd, 1) := by decide +kernel
theorem dX12_crawls_172 : decode cX12_crawls 172 = .ok (.iload_n 3, 1) := by decide +kernel
theorem dX12_crawls_173 : decode cX12_crawls 173 = .ok (.iadd, 1) := by decide +kernel
theorem dX12_crawls_174 : decode cX12_crawls 174 = .ok (.iaload, 1) := by decide +kernel
theorem dX12_crawls_175 : decode cX12_crawls 175 = .ok (.invokestatic 345, 3) := by decide +kernel
theorem dX12_crawls_178 : decode cX12_crawls 178 = .ok (.ireturn, 1) := by decide +kernel
def f_X12_crawls_n125 (x1 : Int32) (x2 : Int32) (x3 : Int32) : Nat → Gr → Int32 → Option (Int32 × Gr)
  | 0, _, _ => none
  | n + 1, S0, x4 => if (S0.1 51) ≤ x4 then (rd' (S0.2 49) 65 ((1 + (8 * x2)) + x3) fun v22 => (f_X12_orNone v22).bind fun u23 => some (u23, S0)) else (rd' (S0.2 50) 65 x4 fun v24 => if v24 = 0 then (lt' (x4 + 1) fun v26 => f_X12_crawls_n125 x1 x2 x3 n S0 v26) else (rd' (S0.2 50) 65 x4 fun v27 => (f_X12_crawlsFrom S0 v27 x1).bind fun u28 => lt' (x4 + 1) fun v29 => f_X12_crawls_n125 x1 x2 x3 n u28 v29))
def f_X12_crawls_n87 (x1 : Int32) (x2 : Int32) (x3 : Int32) : Nat → Gr → Int32 → Option (Int32 × Gr)
  | 0, _, _ => none
  | n + 1, S0, x4 => if 8 ≤ x4 then (f_X12_crawls_n125 x1 x2 x3 fu S0 0) else ((f_X12_octet S0 0).bind fun u15 => (f_X12_has u15 x4).bind fun u16 => if u16 = 0 then ((f_X12_crawlsTo S0 0 (1 + x4)).bind fun u19 => lt' (x4 + 1) fun v20 => f_X12_crawls_n87 x1 x2 x3 n u19 v20) else (lt' (x4 + 1) fun v18 => f_X12_crawls_n87 x1 x2 x3 n S0 v18))
def f_X12_crawls_n51 (x1 : Int32) (x2 : Int32) (x3 : Int32) : Nat → Gr → Int32 → Option (Int32 × Gr)
  | 0, _, _ => none
  | n + 1, S0, x4 => if 65 ≤ x4 then (ck' 65 0 (lt' (sA S0 49 (Int32.toNatClampNeg 0) 0) fun S0_10 => lt' (sI S0_10 51 0) fun S0_11 => f_X12_crawls_n87 x1 x2 x3 fu S0_11 0)) else (ck' 65 x4 (lt' (sA S0 49 (Int32.toNatClampNeg x4) (-1)) fun S0_12 => lt' (x4 + 1) fun v13 => f_X12_crawls_n51 x1 x2 x3 n S0_12 v13))
def f_X12_crawls (S0 : Gr) (x1 : Int32) (x2 : Int32) (x3 : Int32) : Option (Int32 × Gr) := (f_X12_in x1 1 8).bind fun u1 => if u1 = 0 then (some ((-1), S0)) else ((f_X12_in x2 0 (x1 - 1)).bind fun u3 => if u3 = 0 then (some ((-1), S0)) else ((f_X12_in x3 0 7).bind fun u5 => if u5 = 0 then (some ((-1), S0)) else (if (2 * x1) ≤ (S0.1 8) then (lt' (sI S0 8 0) fun S0_8 => f_X12_crawls_n51 x1 x2 x3 fu S0_8 0) else (some ((-1), S0)))))
set_option maxHeartbeats 4000000 in
set_option maxRecDepth 100000 in
theorem c_X12_crawls (l : Launch) (E : Ec) (q0 : Nat → Nat) (sz : Nat) (S0 : Gr) (x1 : Int32) (x2 : Int32) (x3 : Int32) (Rv : Int32 × Gr) (h : f_X12_crawls S0 x1 x2 x3 = some Rv) : Met l yX12_crawls (wsM (.code yX12_crawls cX12_crawls 5 (some .int))) ({ frames := 2, cells := 0, slots := 0, locals := 47 } : Room) (va_Pc [.ref (q0 0), .int x1, .int x2, .int x3] (ctP E (cw_X12 E q0 S0) sz)) (ctI E (cw_X12 E q0 S0) (cw_X12 E q0 Rv.2) sz Rv.1) 0 0 (va_A (cw_X12 E q0 S0) sz) := by
  refine ct_metI (by decide) (Nat.le_of_ble_eq_true rfl) ?_
  intro p e s m ar below meth c A QM hx hb hml hown hg X hP hD hS RET ls hl
  have hown : s.vm.findClass RX12 = some m.cls := hown
  have hl : lv_has ls 5 [(0, .ref (q0 0)), (1, .int x1), (2, .int x2), (3, .int x3)] := hl
  have RT : ∀ (v : Int32) (S0 : Gr) (H : Heap) (locs : List Loc) (ls : Array Slot) (pc : Nat), some (v, S0) = some Rv → narrow .int (.int v) = .int v → va_P E.1 vwCl (cw_X12 E q0 S0) H → va_D A (cw_X12 E q0 S0) → va_S A s.heap H locs → decode cX12_crawls pc = .ok (.ireturn, 1) → W p l e ({ frames := 2, cells := 0, slots := 0, locals := 47 } : Room) s m ar below meth c H locs 0 0 QM (F0 m pc ls [.int v]) := by
    intro v S0 H locs ls pc e hn hP hD hS d
    obtain rfl := sm_e e
    exact RET H locs pc ls hn hP hD hS d
  clear RET
  have N125 : ∀ (n : Nat) (S0 : Gr) (x4 : Int32) (H : Heap) (locs : List Loc) (ls : Array Slot), f_X12_crawls_n125 x1 x2 x3 n S0 x4 = some Rv → va_P E.1 vwCl (cw_X12 E q0 S0) H → va_D A (cw_X12 E q0 S0) → va_S A s.heap H locs → lv_has ls 5 [(0, .ref (q0 0)), (1, .int x1), (2, .int x2), (3, .int x3), (4, .int x4)] → W p l e ({ frames := 2, cells := 0, slots := 0, locals := 47 } : Room) s m ar below meth c H locs 0 0 QM (F0 m 125 ls []) := by
    intro n
    induction n with
    | zero => intro S0 x4 H locs ls h; exact nn_el h
    | succ n ih =>
      intro S0 x4 H locs ls h hP hD hS hl
      refine lv_iload hx hb dX12_crawls_125 (lv_at hl 4 rfl) ?_
      refine lv_aload_n hx hb dX12_crawls_127 rfl (lv_at hl 0 rfl) ?_
      refine va_get (D := E.1) (ci := 11) (v := .int (S0.1 51)) (C := RX12) (T := TX12) (N := 57) hx hb hg in_X12 hown X.1 hP 0 rfl rfl 51 (by decide) (hg _ wf_X12_399) (fun _ h9 => h9) rfl dX12_crawls_128 ?_
      refine lv_icmp_ge (tgt := 162) hx hb dX12_crawls_131 (by decide) (fun c21 => ?_) (fun c21 => ?_)
      · have h := it_t h c21
        refine lv_aload_n hx hb dX12_crawls_162 rfl (lv_at hl 0 rfl) ?_
        refine va_get (D := E.1) (ci := 11) (v := .ref (q0 30)) (C := RX12) (T := TX12) (N := 57) hx hb hg in_X12 hown X.1 hP 0 rfl rfl 49 (by decide) (hg _ wf_X12_98) (fun _ h9 => h9) rfl dX12_crawls_163 ?_
        refine lv_iconst (v := 1) hx hb dX12_crawls_166 (by decide) ?_
        refine lv_bipush (v := 8) hx hb dX12_crawls_167 (by decide) ?_
        refine lv_iload_n hx hb dX12_crawls_169 rfl (lv_at hl 2 rfl) ?_
        refine lv_imul hx hb dX12_crawls_170 ?_
        refine lv_iadd hx hb dX12_crawls_171 ?_
        refine lv_iload_n hx hb dX12_crawls_172 rfl (lv_at hl 3 rfl) ?_
        refine lv_iadd hx hb dX12_crawls_173 ?_
        obtain ⟨hi, v22, ev22, h⟩ := rd_el h
        refine va_iald hx hb X.1 hP 30 0 rfl rfl hi dX12_crawls_174 ?_
        refine lv_top' ev22 ?_
        obtain ⟨u23, hc, h⟩ := bd_el h
        refine ct_iN X hP hD hS (va_runS (As := [.int v22]) (rest := []) ⟨hx, hb, hml, hown, hg⟩ (c_X12_orNone l E  H.size v22 u23 hc) (va_cwS 1 hg (gwS wm_X12_345 wst_X12_orNone wini_X12 wco_X12_orNone) rfl rfl rfl (by decide +kernel) ⟨Nat.le_of_ble_eq_true rfl, Nat.le_of_ble_eq_true rfl⟩) ⟨ct_blind, ct_preN X hS _⟩ rfl rfl hl.1 rfl (lv_room (Nat.le_of_ble_eq_true rfl)) dX12_crawls_175 ⟨Nat.zero_le _, Nat.zero_le _⟩) (fun H locs hP hD hS => ?_)
        exact RT u23 S0 _ _ _ _ h rfl hP hD hS dX12_crawls_178
      · have h := it_f h c21
        refine lv_aload_n hx hb dX12_crawls_134 rfl (lv_at hl 0 rfl) ?_
        refine va_get (D := E.1) (ci := 11) (v := .ref (q0 31)) (C := RX12) (T := TX12) (N := 57) hx hb hg in_X12 hown X.1 hP 0 rfl rfl 50 (by decide) (hg _ wf_X12_101) (fun _ h9 => h9) rfl dX12_crawls_135 ?_
        refine lv_iload hx hb dX12_crawls_138 (lv_at hl 4 rfl) ?_
        obtain ⟨hi, v24, ev24, h⟩ := rd_el h
        refine va_iald hx hb X.1 hP 31 0 rfl rfl hi dX12_crawls_140 ?_
        refine lv_top' ev24 ?_
        refine lv_if_eq (tgt := 156) hx hb dX12_crawls_141 (by decide) (fun c25 => ?_) (fun c25 => ?_)
        · have h := it_t h c25
          obtain ⟨v26, ev26, h⟩ := lt_el h
          refine lv_iinc (v := v26) (lv' := [(4, .int v26), (0, .ref (q0 0)), (1, .int x1), (2, .int x2), (3, .int x3)]) hx hb dX12_crawls_156 hl (k := 4) rfl (by rw [ev26]; rfl) (by decide) rfl (fun ls hl => ?_)
          refine lv_goto (tgt := 125) hx hb dX12_crawls_159 (by decide) ?_
          exact ih S0 v26 _ _ _ h hP hD hS (lv_sub hl [1, 2, 3, 4, 0] rfl)
        · have h := it_f h c25
          refine lv_aload_n hx hb dX12_crawls_144 rfl (lv_at hl 0 rfl) ?_
          refine lv_aload_n hx hb dX12_crawls_145 rfl (lv_at hl 0 rfl) ?_
          refine va_get (D := E.1) (ci := 11) (v := .ref (q0 31)) (C := RX12) (T := TX12) (N := 57) hx hb hg in_X12 hown X.1 hP 0 rfl rfl 50 (by decide) (hg _ wf_X12_101) (fun _ h9 => h9) rfl dX12_crawls_146 ?_
          refine lv_iload hx hb dX12_crawls_149 (lv_at hl 4 rfl) ?_
          obtain ⟨hi, v27, ev27, h⟩ := rd_el h
          refine va_iald hx hb X.1 hP 31 0 rfl rfl hi dX12_crawls_151 ?_
          refine lv_top' ev27 ?_
          refine lv_iload_n hx hb dX12_crawls_152 rfl (lv_at hl 1 rfl) ?_
          obtain ⟨u28, hc, h⟩ := bd_el h
          refine ct_vA (w1 := cw_X12 E q0 u28) X hP hD hS (va_runV (C := RX12) (As := [.int v27, .int x1]) (rest := []) ⟨hx, hb, hml, hown, hg⟩ (c_X12_crawlsFrom l E q0 H.size S0 v27 x1 u28 hc) (cwV 2 hg (gwV wm_X12_405 wi_X12_crawlsFrom wsl_X12_crawlsFrom wini_X12 wco_X12_crawlsFrom) rfl rfl rfl (by decide +kernel) ⟨Nat.le_of_ble_eq_true rfl, Nat.le_of_ble_eq_true rfl⟩) ⟨ct_blind, ct_rv X.1 hP 0 rfl rfl, ct_preA X hP hD hS _⟩ rfl rfl hl.1 rfl (lv_room (Nat.le_of_ble_eq_true rfl)) dX12_crawls_153 ⟨Nat.zero_le _, Nat.zero_le _⟩) (fun H locs hP hD hS => ?_)
          obtain ⟨v29, ev29, h⟩ := lt_el h
          refine lv_iinc (v := v29) (lv' := [(4, .int v29), (0, .ref (q0 0)), (1, .int x1), (2, .int x2), (3, .int x3)]) hx hb dX12_crawls_156 hl (k := 4) rfl (by rw [ev29]; rfl) (by decide) rfl (fun ls hl => ?_)
          refine lv_goto (tgt := 125) hx hb dX12_crawls_159 (by decide) ?_
          exact ih u28 v29 _ _ _ h hP hD hS (lv_sub hl [1, 2, 3, 4, 0] rfl)
  have N87 : ∀ (n : Nat) (S0 : Gr) (x4 : Int32) (H : Heap) (locs : List Loc) (ls : Array Slot), f_X12_crawls_n87 x1 x2 x3 n S0 x4 = some Rv → va_P E.1 vwCl (cw_X12 E q0 S0) H → va_D A (cw_X12 E q0 S0) → va_S A s.heap H locs → lv_has ls 5 [(0, .ref (q0 0)), (1, .int x1), (2, .int x2), (3, .int x3), (4, .int x4)] → W p l e ({ frames := 2, cells := 0, slots := 0, locals := 47 } : Room) s m ar below meth c H locs 0 0 QM (F0 m 87 ls []) := by
    intro n
    induction n with
    | zero => intro S0 x4 H locs ls h; exact nn_el h
    | succ n ih =>
      intro S0 x4 H locs ls h hP hD hS hl
      refine lv_iload hx hb dX12_crawls_87 (lv_at hl 4 rfl) ?_
      refine lv_bipush (v := 8) hx hb dX12_crawls_89 (by decide) ?_
      refine lv_icmp_ge (tgt := 122) hx hb dX12_crawls_91 (by decide) (fun c14 => ?_) (fun c14 => ?_)
      · have h := it_t h c14
        refine lv_iconst (v := 0) hx hb dX12_crawls_122 (by decide) ?_
        refine lv_istore (lv' := [(4, .int 0), (0, .ref (q0 0)), (1, .int x1), (2, .int x2), (3, .int x3)]) hx hb dX12_crawls_123 hl (by decide) rfl (fun ls hl => ?_)
        exact N125 fu S0 0 _ _ _ h hP hD hS (lv_sub hl [1, 2, 3, 4, 0] rfl)
      · have h := it_f h c14
        refine lv_aload_n hx hb dX12_crawls_94 rfl (lv_at hl 0 rfl) ?_
        refine lv_iconst (v := 0) hx hb dX12_crawls_95 (by decide) ?_
        obtain ⟨u15, hc, h⟩ := bd_el h
        refine ct_iA (w1 := cw_X12 E q0 S0) X hP hD hS (va_runV (C := RX12) (As := [.int 0]) (rest := []) ⟨hx, hb, hml, hown, hg⟩ (c_X12_octet l E q0 H.size S0 0 u15 hc) (cwV 1 hg (gwV wm_X12_351 wi_X12_octet wsl_X12_octet wini_X12 wco_X12_octet) rfl rfl rfl (by decide +kernel) ⟨Nat.le_of_ble_eq_true rfl, Nat.le_of_ble_eq_true rfl⟩) ⟨ct_blind, ct_rv X.1 hP 0 rfl rfl, ct_preA X hP hD hS _⟩ rfl rfl hl.1 rfl (lv_room (Nat.le_of_ble_eq_true rfl)) dX12_crawls_96 ⟨Nat.zero_le _, Nat.zero_le _⟩) (fun H locs hP hD hS => ?_)
        refine lv_iload hx hb dX12_crawls_99 (lv_at hl 4 rfl) ?_
        obtain ⟨u16, hc, h⟩ := bd_el h
        refine ct_iN X hP hD hS (va_runS (As := [.int u15, .int x4]) (rest := []) ⟨hx, hb, hml, hown, hg⟩ (c_X12_has l E  H.size u15 x4 u16 hc) (va_cwS 2 hg (gwS wm_X12_118 wst_X12_has wini_X12 wco_X12_has) rfl rfl rfl (by decide +kernel) ⟨Nat.le_of_ble_eq_true rfl, Nat.le_of_ble_eq_true rfl⟩) ⟨ct_blind, ct_preN X hS _⟩ rfl rfl hl.1 rfl (lv_room (Nat.le_of_ble_eq_true rfl)) dX12_crawls_101 ⟨Nat.zero_le _, Nat.zero_le _⟩) (fun H locs hP hD hS => ?_)
        refine lv_if_ne (tgt := 116) hx hb dX12_crawls_104 (by decide) (fun c17 => ?_) (fun c17 => ?_)
        · have h := it_f h c17
          obtain ⟨v18, ev18, h⟩ := lt_el h
          refine lv_iinc (v := v18) (lv' := [(4, .int v18), (0, .ref (q0 0)), (1, .int x1), (2, .int x2), (3, .int x3)]) hx hb dX12_crawls_116 hl (k := 4) rfl (by rw [ev18]; rfl) (by decide) rfl (fun ls hl => ?_)
          refine lv_goto (tgt := 87) hx hb dX12_crawls_119 (by decide) ?_
          exact ih S0 v18 _ _ _ h hP hD hS (lv_sub hl [1, 2, 3, 4, 0] rfl)
        · have h := it_t h c17
          refine lv_aload_n hx hb dX12_crawls_107 rfl (lv_at hl 0 rfl) ?_
          refine lv_iconst (v := 0) hx hb dX12_crawls_108 (by decide) ?_
          refine lv_iconst (v := 1) hx hb dX12_crawls_109 (by decide) ?_
          refine lv_iload hx hb dX12_crawls_110 (lv_at hl 4 rfl) ?_
          refine lv_iadd hx hb dX12_crawls_112 ?_
          obtain ⟨u19, hc, h⟩ := bd_el h
          refine ct_vA (w1 := cw_X12 E q0 u19) X hP hD hS (va_runV (C := RX12) (As := [.int 0, .int (1 + x4)]) (rest := []) ⟨hx, hb, hml, hown, hg⟩ (c_X12_crawlsTo l E q0 H.size S0 0 (1 + x4) u19 hc) (cwV 2 hg (gwV wm_X12_402 wi_X12_crawlsTo wsl_X12_crawlsTo wini_X12 wco_X12_crawlsTo) rfl rfl rfl (by decide +kernel) ⟨Nat.le_of_ble_eq_true rfl, Nat.le_of_ble_eq_true rfl⟩) ⟨ct_blind, ct_rv X.1 hP 0 rfl rfl, ct_preA X hP hD hS _⟩ rfl rfl hl.1 rfl (lv_room (Nat.le_of_ble_eq_true rfl)) dX12_crawls_113 ⟨Nat.zero_le _, Nat.zero_le _⟩) (fun H locs hP hD hS => ?_)
          obtain ⟨v20, ev20, h⟩ := lt_el h
          refine lv_iinc (v := v20) (lv' := [(4, .int v20), (0, .ref (q0 0)), (1, .int x1), (2, .int x2), (3, .int x3)]) hx hb dX12_crawls_116 hl (k := 4) rfl (by rw [ev20]; rfl) (by decide) rfl (fun ls hl => ?_)
          refine lv_goto (tgt := 87) hx hb dX12_crawls_119 (by decide) ?_
          exact ih u19 v20 _ _ _ h hP hD hS (lv_sub hl [1, 2, 3, 4, 0] rfl)
  have N51 : ∀ (n : Nat) (S0 : Gr) (x4 : Int32) (H : Heap) (locs : List Loc) (ls : Array Slot), f_X12_crawls_n51 x1 x2 x3 n S0 x4 = some Rv → va_P E.1 vwCl (cw_X12 E q0 S0) H → va_D A (cw_X12 E q0 S0) → va_S A s.heap H locs → lv_has ls 5 [(0, .ref (q0 0)), (1, .int x1), (2, .int x2), (3, .int x3), (4, .int x4)] → W p l e ({ frames := 2, cells := 0, slots := 0, locals := 47 } : Room) s m ar below meth c H locs 0 0 QM (F0 m 51 ls []) := by
    intro n
    induction n with
    | zero => intro S0 x4 H locs ls h; exact nn_el h
    | succ n ih =>
      intro S0 x4 H locs ls h hP hD hS hl
      refine lv_iload hx hb dX12_crawls_51 (lv_at hl 4 rfl) ?_
      refine lv_bipush (v := 65) hx hb dX12_crawls_53 (by decide) ?_
      refine lv_icmp_ge (tgt := 72) hx hb dX12_crawls_55 (by decide) (fun c9 => ?_) (fun c9 => ?_)
      · have h := it_t h c9
        refine lv_aload_n hx hb dX12_crawls_72 rfl (lv_at hl 0 rfl) ?_
        refine va_get (D := E.1) (ci := 11) (v := .ref (q0 30)) (C := RX12) (T := TX12) (N := 57) hx hb hg in_X12 hown X.1 hP 0 rfl rfl 49 (by decide) (hg _ wf_X12_98) (fun _ h9 => h9) rfl dX12_crawls_73 ?_
        refine lv_iconst (v := 0) hx hb dX12_crawls_76 (by decide) ?_
        refine lv_iconst (v := 0) hx hb dX12_crawls_77 (by decide) ?_
        obtain ⟨hi, h⟩ := ck_el h
        obtain ⟨S0_10, eS, h⟩ := lt_el h
        refine va_iast hx hb X.1 hP hD hS 30 0 rfl rfl hi dX12_crawls_78 (fun H locs hP hD hS => ?_)
        have hP : va_P E.1 vwCl (cw_X12 E q0 S0_10) H := by rw [eS]; exact hP
        have hD : va_D A (cw_X12 E q0 S0_10) := by rw [eS]; exact hD
        clear eS
        refine lv_aload_n hx hb dX12_crawls_79 rfl (lv_at hl 0 rfl) ?_
        refine lv_iconst (v := 0) hx hb dX12_crawls_80 (by decide) ?_
        obtain ⟨S0_11, eS, h⟩ := lt_el h
        refine va_put (D := E.1) (ci := 11) (v := .int 0) (ty := .int) (C := RX12) (T := TX12) (N := 57) hx hb hg in_X12 tyX12 tyX12_ok nmX12 hown X.1 hP hD hS 0 rfl rfl 51 (by decide) (hg _ wf_X12_399) (fun _ h9 => h9) rfl (by decide +kernel) rfl rfl (Nat.le_of_ble_eq_true rfl) dX12_crawls_81 (fun H locs hP hD hS => ?_)
        have hP : va_P E.1 vwCl (cw_X12 E q0 S0_11) H := by rw [eS]; exact hP
        have hD : va_D A (cw_X12 E q0 S0_11) := by rw [eS]; exact hD
        clear eS
        refine lv_iconst (v := 0) hx hb dX12_crawls_84 (by decide) ?_
        refine lv_istore (lv' := [(4, .int 0), (0, .ref (q0 0)), (1, .int x1), (2, .int x2), (3, .int x3)]) hx hb dX12_crawls_85 hl (by decide) rfl (fun ls hl => ?_)
        exact N87 fu S0_11 0 _ _ _ h hP hD hS (lv_sub hl [1, 2, 3, 4, 0] rfl)
      · have h := it_f h c9
        refine lv_aload_n hx hb dX12_crawls_58 rfl (lv_at hl 0 rfl) ?_
        refine va_get (D := E.1) (ci := 11) (v := .ref (q0 30)) (C := RX12) (T := TX12) (N := 57) hx hb hg in_X12 hown X.1 hP 0 rfl rfl 49 (by decide) (hg _ wf_X12_98) (fun _ h9 => h9) rfl dX12_crawls_59 ?_
        refine lv_iload hx hb dX12_crawls_62 (lv_at hl 4 rfl) ?_
        refine lv_iconst (v := (-1)) hx hb dX12_crawls_64 (by decide) ?_
        obtain ⟨hi, h⟩ := ck_el h
        obtain ⟨S0_12, eS, h⟩ := lt_el h
        refine va_iast hx hb X.1 hP hD hS 30 0 rfl rfl hi dX12_crawls_65 (fun H locs hP hD hS => ?_)
        have hP : va_P E.1 vwCl (cw_X12 E q0 S0_12) H := by rw [eS]; exact hP
        have hD : va_D A (cw_X12 E q0 S0_12) := by rw [eS]; exact hD
        clear eS
        obtain ⟨v13, ev13, h⟩ := lt_el h
        refine lv_iinc (v := v13) (lv' := [(4, .int v13), (0, .ref (q0 0)), (1, .int x1), (2, .int x2), (3, .int x3)]) hx hb dX12_crawls_66 hl (k := 4) rfl (by rw [ev13]; rfl) (by decide) rfl (fun ls hl => ?_)
        refine lv_goto (tgt := 51) hx hb dX12_crawls_69 (by decide) ?_
        exact ih S0_12 v13 _ _ _ h hP hD hS (lv_sub hl [1, 2, 3, 4, 0] rfl)
  obtain ⟨H, eH⟩ : ∃ z, z = s.heap := ⟨_, rfl⟩
  rw [← eH]
  have hP : va_P E.1 vwCl (cw_X12 E q0 S0) H := by rw [eH]; exact hP
  have hS : va_S A s.heap H [] := by rw [eH]; exact hS
  clear eH
  obtain ⟨locs, el⟩ : ∃ z : List Loc, z = [] := ⟨_, rfl⟩
  rw [← el] at hS ⊢
  clear el
  refine lv_iload_n hx hb dX12_crawls_0 rfl (lv_at hl 1 rfl) ?_
  refine lv_iconst (v := 1) hx hb dX12_crawls_1 (by decide) ?_
  refine lv_bipush (v := 8) hx hb dX12_crawls_2 (by decide) ?_
  obtain ⟨u1, hc, h⟩ := bd_el h
  refine ct_iN X hP hD hS (va_runS (As := [.int x1, .int 1, .int 8]) (rest := []) ⟨hx, hb, hml, hown, hg⟩ (c_X12_in l E  H.size x1 1 8 u1 hc) (va_cwS 3 hg (gwS wm_X12_110 wst_X12_in wini_X12 wco_X12_in) rfl rfl rfl (by decide +kernel) ⟨Nat.le_of_ble_eq_true rfl, Nat.le_of_ble_eq_true rfl⟩) ⟨ct_blind, ct_preN X hS _⟩ rfl rfl hl.1 rfl (lv_room (Nat.le_of_ble_eq_true rfl)) dX12_crawls_4 ⟨Nat.zero_le _, Nat.zero_le _⟩) (fun H locs hP hD hS => ?_)
  refine lv_if_eq (tgt := 41) hx hb dX12_crawls_7 (by decide) (fun c2 => ?_) (fun c2 => ?_)
  · have h := it_t h c2
    refine lv_iconst (v := (-1)) hx hb dX12_crawls_41 (by decide) ?_
    exact RT (-1) S0 _ _ _ _ h rfl hP hD hS dX12_crawls_42
  · have h := it_f h c2
    refine lv_iload_n hx hb dX12_crawls_10 rfl (lv_at hl 2 rfl) ?_
    refine lv_iconst (v := 0) hx hb dX12_crawls_11 (by decide) ?_
    refine lv_iload_n hx hb dX12_crawls_12 rfl (lv_at hl 1 rfl) ?_
    refine lv_iconst (v := 1) hx hb dX12_crawls_13 (by decide) ?_
    refine lv_isub hx hb dX12_crawls_14 ?_
    obtain ⟨u3, hc, h⟩ := bd_el h
    refine ct_iN X hP hD hS (va_runS (As := [.int x2, .int 0, .int (x1 - 1)]) (rest := []) ⟨hx, hb, hml, hown, hg⟩ (c_X12_in l E  H.size x2 0 (x1 - 1) u3 hc) (va_cwS 3 hg (gwS wm_X12_110 wst_X12_in wini_X12 wco_X12_in) rfl rfl rfl (by decide +kernel) ⟨Nat.le_of_ble_eq_true rfl, Nat.le_of_ble_eq_true rfl⟩) ⟨ct_blind, ct_preN X hS _⟩ rfl rfl hl.1 rfl (lv_room (Nat.le_of_ble_eq_true rfl)) dX12_crawls_15 ⟨Nat.zero_le _, Nat.zero_le _⟩) (fun H locs hP hD hS => ?_)
    refine lv_if_eq (tgt := 41) hx hb dX12_crawls_18 (by decide) (fun c4 => ?_) (fun c4 => ?_)
    · have h := it_t h c4
      refine lv_iconst (v := (-1)) hx hb dX12_crawls_41 (by decide) ?_
      exact RT (-1) S0 _ _ _ _ h rfl hP hD hS dX12_crawls_42
    · have h := it_f h c4
      refine lv_iload_n hx hb dX12_crawls_21 rfl (lv_at hl 3 rfl) ?_
      refine lv_iconst (v := 0) hx hb dX12_crawls_22 (by decide) ?_
      refine lv_bipush (v := 7) hx hb dX12_crawls_23 (by decide) ?_
      obtain ⟨u5, hc, h⟩ := bd_el h
      refine ct_iN X hP hD hS (va_runS (As := [.int x3, .int 0, .int 7]) (rest := []) ⟨hx, hb, hml, hown, hg⟩ (c_X12_in l E  H.size x3 0 7 u5 hc) (va_cwS 3 hg (gwS wm_X12_110 wst_X12_in wini_X12 wco_X12_in) rfl rfl rfl (by decide +kernel) ⟨Nat.le_of_ble_eq_true rfl, Nat.le_of_ble_eq_true rfl⟩) ⟨ct_blind, ct_preN X hS _⟩ rfl rfl hl.1 rfl (lv_room (Nat.le_of_ble_eq_true rfl)) dX12_crawls_25 ⟨Nat.zero_le _, Nat.zero_le _⟩) (fun H locs hP hD hS => ?_)
      refine lv_if_eq (tgt := 41) hx hb dX12_crawls_28 (by decide) (fun c6 => ?_) (fun c6 => ?_)
      · have h := it_t h c6
        refine lv_iconst (v := (-1)) hx hb dX12_crawls_41 (by decide) ?_
        exact RT (-1) S0 _ _ _ _ h rfl hP hD hS dX12_crawls_42
      · have h := it_f h c6
        refine lv_iconst (v := 2) hx hb dX12_crawls_31 (by decide) ?_
        refine lv_iload_n hx hb dX12_crawls_32 rfl (lv_at hl 1 rfl) ?_
        refine lv_imul hx hb dX12_crawls_33 ?_
        refine lv_aload_n hx hb dX12_crawls_34 rfl (lv_at hl 0 rfl) ?_
        refine va_get (D := E.1) (ci := 11) (v := .int (S0.1 8)) (C := RX12) (T := TX12) (N := 57) hx hb hg in_X12 hown X.1 hP 0 rfl rfl 8 (by decide) (hg _ wf_X12_143) (fun _ h9 => h9) rfl dX12_crawls_35 ?_
        refine lv_icmp_le (tgt := 43) hx hb dX12_crawls_38 (by decide) (fun c7 => ?_) (fun c7 => ?_)
        · have h := it_t h c7
          refine lv_aload_n hx hb dX12_crawls_43 rfl (lv_at hl 0 rfl) ?_
          refine lv_iconst (v := 0) hx hb dX12_crawls_44 (by decide) ?_
          obtain ⟨S0_8, eS, h⟩ := lt_el h
          refine va_put (D := E.1) (ci := 11) (v := .int 0) (ty := .int) (C := RX12) (T := TX12) (N := 57) hx hb hg in_X12 tyX12 tyX12_ok nmX12 hown X.1 hP hD hS 0 rfl rfl 8 (by decide) (hg _ wf_X12_143) (fun _ h9 => h9) rfl (by decide +kernel) rfl rfl (Nat.le_of_ble_eq_true rfl) dX12_crawls_45 (fun H locs hP hD hS => ?_)
          have hP : va_P E.1 vwCl (cw_X12 E q0 S0_8) H := by rw [eS]; exact hP
          have hD : va_D A (cw_X12 E q0 S0_8) := by rw [eS]; exact hD
          clear eS
          refine lv_iconst (v := 0) hx hb dX12_crawls_48 (by decide) ?_
          refine lv_istore (lv' := [(4, .int 0), (0, .ref (q0 0)), (1, .int x1), (2, .int x2), (3, .int x3)]) hx hb dX12_crawls_49 hl (by decide) rfl (fun ls hl => ?_)
          exact N51 fu S0_8 0 _ _ _ h hP hD hS (lv_sub hl [1, 2, 3, 4, 0] rfl)
        · have h := it_f h c7
          refine lv_iconst (v := (-1)) hx hb dX12_crawls_41 (by decide) ?_
          exact RT (-1) S0 _ _ _ _ h rfl hP hD hS dX12_crawls_42
theorem dX12_types_0 : decode cX12_types 0 = .ok (.iconst 3, 1) := by decide +kernel
theorem dX12_types_1 : decode cX12_types 1 = .ok (.istore_n 2, 1) := by decide +kernel
theorem dX12_types_2 : decode cX12_types 2 = .ok (.iload_n 2, 1) := by decide +kernel
theorem dX12_types_3 : decode cX12_types 3 = .ok (.ifCond .lt 35, 3) := by decide +kernel
theorem dX12_types_6 : decode cX12_types 6 = .ok (.aload_n 0, 1) := by decide +kernel
theorem dX12_types_7 : decode cX12_types 7 = .ok (.getfield 25, 3) := by decide +kernel
theorem dX12_types_10 : decode cX12_types 10 = .ok (.aload_n 0, 1) := by decide +kernel
theorem dX12_types_11 : decode cX12_types 11 = .ok (.getfield 143, 3) := by decide +kernel
theorem dX12_types_14 : decode cX12_types 14 = .ok (.iload_n 1, 1) := by decide +kernel
theorem dX12_types_15 : decode cX12_types 15 = .ok (.bipush 8, 2) := by decide +kernel
theorem dX12_types_17 : decode cX12_types 17 = .ok (.iload_n 2, 1) := by decide +kernel
theorem dX12_types_18 : decode cX12_types 18 = .ok (.imul, 1) := by decide +kernel
theorem dX12_types_19 : decode cX12_types 19 = .ok (.ishr, 1) := by decide +kernel
theorem dX12_types_20 : decode cX12_types 20 = .ok (.i2b, 1) := by decide +kernel
theorem dX12_types_21 : decode cX12_types 21 = .ok (.bastore, 1) := by decide +kernel
theorem dX12_types_22 : decode cX12_types 22 = .ok (.aload_n 0, 1) := by decide +kernel
theorem dX12_types_23 : decode cX12_types 23 = .ok (.aload_n 0, 1) := by decide +kernel
theorem dX12_types_24 : decode cX12_types 24 = .ok (.getfield 143, 3) := by decide +kernel
theorem dX12_types_27 : decode cX12_types 27 = .ok (.iconst 1, 1) := by decide +kernel
theorem dX12_types_28 : decode cX12_types 28 = .ok (.iadd, 1) := by decide +kernel
theorem dX12_types_29 : decode cX12_types 29 = .ok (.putfield 143, 3) := by decide +kernel
theorem dX12_types_32 : decode cX12_types 32 = .ok (.iinc 2 (-1), 3) := by decide +kernel
theorem dX12_types_35 : decode cX12_types 35 = .ok (.goto (-33), 3) := by decide +kernel
theorem dX12_types_38 : decode cX12_types 38 = .ok (.return_, 1) := by decide +kernel
def f_X12_types_n2 (x1 : Int32) : Nat → Gr → Int32 → Option (Gr)
  | 0, _, _ => none
  | n + 1, S0, x2 => if x2 < 0 then (some S0) else (lt' ((x1 >>> ((8 * x2) &&& 31)).toInt8.toInt32) fun v2 => ck' 260 (S0.1 8) (lt' (sA S0 7 (Int32.toNatClampNeg (S0.1 8)) (vp_nar .byte v2)) fun S0_3 => lt' (sI S0_3 8 ((S0_3.1 8) + 1)) fun S0_4 => lt' (x2 + (-1)) fun v5 => f_X12_types_n2 x1 n S0_4 v5))
def f_X12_types (S0 : Gr) (x1 : Int32) : Option (Gr) := f_X12_types_n2 x1 fu S0 3
set_option maxHeartbeats 4000000 in
set_option maxRecDepth 100000 in
theorem c_X12_types (l : Launch) (E : Ec) (q0 : Nat → Nat) (sz : Nat) (S0 : Gr) (x1 : Int32) (Rv : Gr) (h : f_X12_types S0 x1 = some Rv) : Met l yX12_types (wsM (.code yX12_types cX12_types 3 none)) ({ frames := 0, cells := 0, slots := 0, locals := 0 } : Room) (va_Pc [.ref (q0 0), .int x1] (ctP E (cw_X12 E q0 S0) sz)) (ctV E (cw_X12 E q0 S0) (cw_X12 E q0 Rv) sz) 0 0 (va_A (cw_X12 E q0 S0) sz) := by
  refine ct_metV (by decide) (Nat.le_of_ble_eq_true rfl) ?_
  intro p e s m ar below meth c A QM hx hb hml hown hg X hP hD hS RET ls hl
  have hown : s.vm.findClass RX12 = some m.cls := hown
  have hl : lv_has ls 3 [(0, .ref (q0 0)), (1, .int x1)] := hl
  have RT : ∀ (S0 : Gr) (H : Heap) (locs : List Loc) (ls : Array Slot) (pc : Nat), some S0 = some Rv → va_P E.1 vwCl (cw_X12 E q0 S0) H → va_D A (cw_X12 E q0 S0) → va_S A s.heap H locs → decode cX12_types pc = .ok (.return_, 1) → W p l e ({ frames := 0, cells := 0, slots := 0, locals := 0 } : Room) s m ar below meth c H locs 0 0 QM (F0 m pc ls []) := by
    intro S0 H locs ls pc e hP hD hS d
    obtain rfl := sm_e e
    exact RET H locs pc ls hP hD hS d
  clear RET
  have N2 : ∀ (n : Nat) (S0 : Gr) (x2 : Int32) (H : Heap) (locs : List Loc) (ls : Array Slot), f_X12_types_n2 x1 n S0 x2 = some Rv → va_P E.1 vwCl (cw_X12 E q0 S0) H → va_D A (cw_X12 E q0 S0) → va_S A s.heap H locs → lv_has ls 3 [(0, .ref (q0 0)), (1, .int x1), (2, .int x2)] → W p l e ({ frames := 0, cells := 0, slots := 0, locals := 0 } : Room) s m ar below meth c H locs 0 0 QM (F0 m 2 ls []) := by
    intro n
    induction n with
    | zero => intro S0 x2 H locs ls h; exact nn_el h
    | succ n ih =>
      intro S0 x2 H locs ls h hP hD hS hl
      refine lv_iload_n hx hb dX12_types_2 rfl (lv_at hl 2 rfl) ?_
      refine lv_if_lt (tgt := 38) hx hb dX12_types_3 (by decide) (fun c1 => ?_) (fun c1 => ?_)
      · have h := it_t h c1
        exact RT S0 _ _ _ _ h hP hD hS dX12_types_38
      · have h := it_f h c1
        refine lv_aload_n hx hb dX12_types_6 rfl (lv_at hl 0 rfl) ?_
        refine va_get (D := E.1) (ci := 11) (v := .ref (q0 6)) (C := RX12) (T := TX12) (N := 57) hx hb hg in_X12 hown X.1 hP 0 rfl rfl 7 (by decide) (hg _ wf_X12_25) (fun _ h9 => h9) rfl dX12_types_7 ?_
        refine lv_aload_n hx hb dX12_types_10 rfl (lv_at hl 0 rfl) ?_
        refine va_get (D := E.1) (ci := 11) (v := .int (S0.1 8)) (C := RX12) (T := TX12) (N := 57) hx hb hg in_X12 hown X.1 hP 0 rfl rfl 8 (by decide) (hg _ wf_X12_143) (fun _ h9 => h9) rfl dX12_types_11 ?_
        refine lv_iload_n hx hb dX12_types_14 rfl (lv_at hl 1 rfl) ?_
        refine lv_bipush (v := 8) hx hb dX12_types_15 (by decide) ?_
        refine lv_iload_n hx hb dX12_types_17 rfl (lv_at hl 2 rfl) ?_
        refine lv_imul hx hb dX12_types_18 ?_
        refine lv_ishr hx hb dX12_types_19 ?_
        obtain ⟨v2, ev2, h⟩ := lt_el h
        refine lv_i2b (v := v2) hx hb dX12_types_20 ev2.symm ?_
        obtain ⟨hi, h⟩ := ck_el h
        obtain ⟨S0_3, eS, h⟩ := lt_el h
        refine va_bast hx hb X.1 hP hD hS 6 2 rfl rfl hi dX12_types_21 (fun H locs hP hD hS => ?_)
        have hP : va_P E.1 vwCl (cw_X12 E q0 S0_3) H := by rw [eS]; exact hP
        have hD : va_D A (cw_X12 E q0 S0_3) := by rw [eS]; exact hD
        clear eS
        refine lv_aload_n hx hb dX12_types_22 rfl (lv_at hl 0 rfl) ?_
        refine lv_aload_n hx hb dX12_types_23 rfl (lv_at hl 0 rfl) ?_
        refine va_get (D := E.1) (ci := 11) (v := .int (S0_3.1 8)) (C := RX12) (T := TX12) (N := 57) hx hb hg in_X12 hown X.1 hP 0 rfl rfl 8 (by decide) (hg _ wf_X12_143) (fun _ h9 => h9) rfl dX12_types_24 ?_
        refine lv_iconst (v := 1) hx hb dX12_types_27 (by decide) ?_
        refine lv_iadd hx hb dX12_types_28 ?_
        obtain ⟨S0_4, eS, h⟩ := lt_el h
        refine va_put (D := E.1) (ci := 11) (v := .int ((S0_3.1 8) + 1)) (ty := .int) (C := RX12) (T := TX12) (N := 57) hx hb hg in_X12 tyX12 tyX12_ok nmX12 hown X.1 hP hD hS 0 rfl rfl 8 (by decide) (hg _ wf_X12_143) (fun _ h9 => h9) rfl (by decide +kernel) rfl rfl (Nat.le_of_ble_eq_true rfl) dX12_types_29 (fun H locs hP hD hS => ?_)
        have hP : va_P E.1 vwCl (cw_X12 E q0 S0_4) H := by rw [eS]; exact hP
        have hD : va_D A (cw_X12 E q0 S0_4) := by rw [eS]; exact hD
        clear eS
        obtain ⟨v5, ev5, h⟩ := lt_el h
        refine lv_iinc (v := v5) (lv' := [(2, .int v5), (0, .ref (q0 0)), (1, .int x1)]) hx hb dX12_types_32 hl (k := 2) rfl (by rw [ev5]; rfl) (by decide) rfl (fun ls hl => ?_)
        refine lv_goto (tgt := 2) hx hb dX12_types_35 (by decide) ?_
        exact ih S0_4 v5 _ _ _ h hP hD hS (lv_sub hl [1, 2, 0] rfl)
  obtain ⟨H, eH⟩ : ∃ z, z = s.heap := ⟨_, rfl⟩
  rw [← eH]
  have hP : va_P E.1 vwCl (cw_X12 E q0 S0) H := by rw [eH]; exact hP
  have hS : va_S A s.heap H [] := by rw [eH]; exact hS
  clear eH
  obtain ⟨locs, el⟩ : ∃ z : List Loc, z = [] := ⟨_, rfl⟩
  rw [← el] at hS ⊢
  clear el
  refine lv_iconst (v := 3) hx hb dX12_types_0 (by decide) ?_
  refine lv_istore_n (lv' := [(2, .int 3), (0, .ref (q0 0)), (1, .int x1)]) hx hb dX12_types_1 rfl hl (by decide) rfl (fun ls hl => ?_)
  exact N2 fu S0 3 _ _ _ h hP hD hS (lv_sub hl [1, 2, 0] rfl)
theorem dX12_feed_0 : decode cX12_feed 0 = .ok (.aload_n 0, 1) := by decide +kernel
theorem dX12_feed_1 : decode cX12_feed 1 = .ok (.getfield 143, 3) := by decide +kernel
theorem dX12_feed_4 : decode cX12_feed 4 = .ok (.bipush 20, 2) := by decide +kernel
theorem dX12_feed_6 : decode cX12_feed 6 = .ok (.iadd, 1) := by decide +kernel
theorem dX12_feed_7 : decode cX12_feed 7 = .ok (.sipush 260, 3) := by decide +kernel
theorem dX12_feed_10 : decode cX12_feed 10 = .ok (.if_icmp .le 5, 3) := by decide +kernel
theorem dX12_feed_13 : decode cX12_feed 13 = .ok (.iconst (-1), 1) := by decide +kernel
theorem dX12_feed_14 : decode cX12_feed 14 = .ok (.ireturn, 1) := by decide +kernel
theorem dX12_feed_15 : decode cX12_feed 15 = .ok (.aload_n 0, 1) := by decide +kernel
theorem dX12_feed_16 : decode cX12_feed 16 = .ok (.iload_n 1, 1) := by decide +kernel
theorem dX12_feed_17 : decode cX12_feed 17 = .ok (.invokevirtual 146, 3) := by decide +kernel
theorem dX12_feed_20 : decode cX12_feed 20 = .ok (.aload_n 0, 1) := by decide +kernel
theorem dX12_feed_21 : decode cX12_feed 21 = .ok (.iload_n 2, 1) := by decide +kernel
theorem dX12_feed_22 : decode cX12_feed 22 = .ok (.invokevirtual 146, 3) := by decide +kernel
theorem dX12_feed_25 : decode cX12_feed 25 = .ok (.aload_n 0, 1) := by decide +kernel
theorem dX12_feed_26 : decode cX12_feed 26 = .ok (.iload_n 3, 1) := by decide +kernel
theorem dX12_feed_27 : decode cX12_feed 27 = .ok (.invokevirtual 146, 3) := by decide +kernel
theorem dX12_feed_30 : decode cX12_feed 30 = .ok (.aload_n 0, 1) := by decide +kernel
theorem dX12_feed_31 : decode cX12_feed 31 = .ok (.iload 4, 2) := by decide +kernel
theorem dX12_feed_33 : decode cX12_feed 33 = .ok (.invokevirtual 146, 3) := by decide +kernel
theorem dX12_feed_36 : decode cX12_feed 36 = .ok (.aload_n 0, 1) := by decide +kernel
theorem dX12_feed_37 : decode cX12_feed 37 = .ok (.iload 5, 2) := by decide +kernel
theorem dX12_feed_39 : decode cX12_feed 39 = .ok (.invokevirtual 146, 3) := by decide +kernel
theorem dX12_feed_42 : decode cX12_feed 42 = .ok (.aload_n 0, 1) := by decide +kernel
theorem dX12_feed_43 : decode cX12_feed 43 = .ok (.getfield 143, 3) := by decide +kernel
theorem dX12_feed_46 : decode cX12_feed 46 = .ok (.ireturn, 1) := by decide +kernel
def f_X12_feed (S0 : Gr) (x1 : Int32) (x2 : Int32) (x3 : Int32) (x4 : Int32) (x5 : Int32) : Option (Int32 × Gr) := if ((S0.1 8) + 20) ≤ 260 then ((f_X12_types S0 x1).bind fun u2 => (f_X12_types u2 x2).bind fun u3 => (f_X12_types u3 x3).bind fun u4 => (f_X12_types u4 x4).bind fun u5 => (f_X12_types u5 x5).bind fun u6 => some ((u6.1 8), u6)) else (some ((-1), S0))
set_option maxHeartbeats 4000000 in
set_option maxRecDepth 100000 in
theorem c_X12_feed (l : Launch) (E : Ec) (q0 : Nat → Nat) (sz : Nat) (S0 : Gr) (x1 : Int32) (x2 : Int32) (x3 : Int32) (x4 : Int32) (x5 : Int32) (Rv : Int32 × Gr) (h : f_X12_feed S0 x1 x2 x3 x4 x5 = some Rv) : Met l yX12_feed (wsM (.code yX12_feed cX12_feed 6 (some .int))) ({ frames := 1, cells := 0, slots := 0, locals := 22 } : Room) (va_Pc [.ref (q0 0), .int x1, .int x2, .int x3, .int x4, .int x5] (ctP E (cw_X12 E q0 S0) sz)) (ctI E (cw_X12 E q0 S0) (cw_X12 E q0 Rv.2) sz Rv.1) 0 0 (va_A (cw_X12 E q0 S0) sz) := by
  refine ct_metI (by decide) (Nat.le_of_ble_eq_true rfl) ?_
  intro p e s m ar below meth c A QM hx hb hml hown hg X hP hD hS RET ls hl
  have hown : s.vm.findClass RX12 = some m.cls := hown
  have hl : lv_has ls 6 [(0, .ref (q0 0)), (1, .int x1), (2, .int x2), (3, .int x3), (4, .int x4), (5, .int x5)] := hl
  have RT : ∀ (v : Int32) (S0 : Gr) (H : Heap) (locs : List Loc) (ls : Array Slot) (pc : Nat), some (v, S0) = some Rv → narrow .int (.int v) = .int v → va_P E.1 vwCl (cw_X12 E q0 S0) H → va_D A (cw_X12 E q0 S0) → va_S A s.heap H locs → decode cX12_feed pc = .ok (.ireturn, 1) → W p l e ({ frames := 1, cells := 0, slots := 0, locals := 22 } : Room) s m ar below meth c H locs 0 0 QM (F0 m pc ls [.int v]) := by
    intro v S0 H locs ls pc e hn hP hD hS d
    obtain rfl := sm_e e
    exact RET H locs pc ls hn hP hD hS d
  clear RET
  obtain ⟨H, eH⟩ : ∃ z, z = s.heap := ⟨_, rfl⟩
  rw [← eH]
  have hP : va_P E.1 vwCl (cw_X12 E q0 S0) H := by rw [eH]; exact hP
  have hS : va_S A s.heap H [] := by rw [eH]; exact hS
  clear eH
  obtain ⟨locs, el⟩ : ∃ z : List Loc, z = [] := ⟨_, rfl⟩
  rw [← el] at hS ⊢
  clear el
  refine lv_aload_n hx hb dX12_feed_0 rfl (lv_at hl 0 rfl) ?_
  refine va_get (D := E.1) (ci := 11) (v := .int (S0.1 8)) (C := RX12) (T := TX12) (N := 57) hx hb hg in_X12 hown X.1 hP 0 rfl rfl 8 (by decide) (hg _ wf_X12_143) (fun _ h9 => h9) rfl dX12_feed_1 ?_
  refine lv_bipush (v := 20) hx hb dX12_feed_4 (by decide) ?_
  refine lv_iadd hx hb dX12_feed_6 ?_
  refine lv_sipush (v := 260) hx hb dX12_feed_7 (by decide) ?_
  refine lv_icmp_le (tgt := 15) hx hb dX12_feed_10 (by decide) (fun c1 => ?_) (fun c1 => ?_)
  · have h := it_t h c1
    refine lv_aload_n hx hb dX12_feed_15 rfl (lv_at hl 0 rfl) ?_
    refine lv_iload_n hx hb dX12_feed_16 rfl (lv_at hl 1 rfl) ?_
    obtain ⟨u2, hc, h⟩ := bd_el h
    refine ct_vA (w1 := cw_X12 E q0 u2) X hP hD hS (va_runV (C := RX12) (As := [.int x1]) (rest := []) ⟨hx, hb, hml, hown, hg⟩ (c_X12_types l E q0 H.size S0 x1 u2 hc) (cwV 1 hg (gwV wm_X12_146 wi_X12_types wsl_X12_types wini_X12 wco_X12_types) rfl rfl rfl (by decide +kernel) ⟨Nat.le_of_ble_eq_true rfl, Nat.le_of_ble_eq_true rfl⟩) ⟨ct_blind, ct_rv X.1 hP 0 rfl rfl, ct_preA X hP hD hS _⟩ rfl rfl hl.1 rfl (lv_room (Nat.le_of_ble_eq_true rfl)) dX12_feed_17 ⟨Nat.zero_le _, Nat.zero_le _⟩) (fun H locs hP hD hS => ?_)
    refine lv_aload_n hx hb dX12_feed_20 rfl (lv_at hl 0 rfl) ?_
    refine lv_iload_n hx hb dX12_feed_21 rfl (lv_at hl 2 rfl) ?_
    obtain ⟨u3, hc, h⟩ := bd_el h
    refine ct_vA (w1 := cw_X12 E q0 u3) X hP hD hS (va_runV (C := RX12) (As := [.int x2]) (rest := []) ⟨hx, hb, hml, hown, hg⟩ (c_X12_types l E q0 H.size u2 x2 u3 hc) (cwV 1 hg (gwV wm_X12_146 wi_X12_types wsl_X12_types wini_X12 wco_X12_types) rfl rfl rfl (by decide +kernel) ⟨Nat.le_of_ble_eq_true rfl, Nat.le_of_ble_eq_true rfl⟩) ⟨ct_blind, ct_rv X.1 hP 0 rfl rfl, ct_preA X hP hD hS _⟩ rfl rfl hl.1 rfl (lv_room (Nat.le_of_ble_eq_true rfl)) dX12_feed_22 ⟨Nat.zero_le _, Nat.zero_le _⟩) (fun H locs hP hD hS => ?_)
    refine lv_aload_n hx hb dX12_feed_25 rfl (lv_at hl 0 rfl) ?_
    refine lv_iload_n hx hb dX12_feed_26 rfl (lv_at hl 3 rfl) ?_
    obtain ⟨u4, hc, h⟩ := bd_el h
    refine ct_vA (w1 := cw_X12 E q0 u4) X hP hD hS (va_runV (C := RX12) (As := [.int x3]) (rest := []) ⟨hx, hb, hml, hown, hg⟩ (c_X12_types l E q0 H.size u3 x3 u4 hc) (cwV 1 hg (gwV wm_X12_146 wi_X12_types wsl_X12_types wini_X12 wco_X12_types) rfl rfl rfl (by decide +kernel) ⟨Nat.le_of_ble_eq_true rfl, Nat.le_of_ble_eq_true rfl⟩) ⟨ct_blind, ct_rv X.1 hP 0 rfl rfl, ct_preA X hP hD hS _⟩ rfl rfl hl.1 rfl (lv_room (Nat.le_of_ble_eq_true rfl)) dX12_feed_27 ⟨Nat.zero_le _, Nat.zero_le _⟩) (fun H locs hP hD hS => ?_)
    refine lv_aload_n hx hb dX12_feed_30 rfl (lv_at hl 0 rfl) ?_
    refine lv_iload hx hb dX12_feed_31 (lv_at hl 4 rfl) ?_
    obtain ⟨u5, hc, h⟩ := bd_el h
    refine ct_vA (w1 := cw_X12 E q0 u5) X hP hD hS (va_runV (C := RX12) (As := [.int x4]) (rest := []) ⟨hx, hb, hml, hown, hg⟩ (c_X12_types l E q0 H.size u4 x4 u5 hc) (cwV 1 hg (gwV wm_X12_146 wi_X12_types wsl_X12_types wini_X12 wco_X12_types) rfl rfl rfl (by decide +kernel) ⟨Nat.le_of_ble_eq_true rfl, Nat.le_of_ble_eq_true rfl⟩) ⟨ct_blind, ct_rv X.1 hP 0 rfl rfl, ct_preA X hP hD hS _⟩ rfl rfl hl.1 rfl (lv_room (Nat.le_of_ble_eq_true rfl)) dX12_feed_33 ⟨Nat.zero_le _, Nat.zero_le _⟩) (fun H locs hP hD hS => ?_)
    refine lv_aload_n hx hb dX12_feed_36 rfl (lv_at hl 0 rfl) ?_
    refine lv_iload hx hb dX12_feed_37 (lv_at hl 5 rfl) ?_
    obtain ⟨u6, hc, h⟩ := bd_el h
    refine ct_vA (w1 := cw_X12 E q0 u6) X hP hD hS (va_runV (C := RX12) (As := [.int x5]) (rest := []) ⟨hx, hb, hml, hown, hg⟩ (c_X12_types l E q0 H.size u5 x5 u6 hc) (cwV 1 hg (gwV wm_X12_146 wi_X12_types wsl_X12_types wini_X12 wco_X12_types) rfl rfl rfl (by decide +kernel) ⟨Nat.le_of_ble_eq_true rfl, Nat.le_of_ble_eq_true rfl⟩) ⟨ct_blind, ct_rv X.1 hP 0 rfl rfl, ct_preA X hP hD hS _⟩ rfl rfl hl.1 rfl (lv_room (Nat.le_of_ble_eq_true rfl)) dX12_feed_39 ⟨Nat.zero_le _, Nat.zero_le _⟩) (fun H locs hP hD hS => ?_)
    refine lv_aload_n hx hb dX12_feed_42 rfl (lv_at hl 0 rfl) ?_
    refine va_get (D := E.1) (ci := 11) (v := .int (u6.1 8)) (C := RX12) (T := TX12) (N := 57) hx hb hg in_X12 hown X.1 hP 0 rfl rfl 8 (by decide) (hg _ wf_X12_143) (fun _ h9 => h9) rfl dX12_feed_43 ?_
    exact RT (u6.1 8) u6 _ _ _ _ h rfl hP hD hS dX12_feed_46
  · have h := it_f h c1
    refine lv_iconst (v := (-1)) hx hb dX12_feed_13 (by decide) ?_
    exact RT (-1) S0 _ _ _ _ h rfl hP hD hS dX12_feed_14
theorem dX12_feltBy_0 : decode cX12_feltBy 0 = .ok (.aload_n 0, 1) := by decide +kernel
theorem dX12_feltBy_1 : decode cX12_feltBy 1 = .ok (.getfield 22, 3) := by decide +kernel
theorem dX12_feltBy_4 : decode cX12_feltBy 4 = .ok (.iload_n 2, 1) := by decide +kernel
theorem dX12_feltBy_5 : decode cX12_feltBy 5 = .ok (.iaload, 1) := by decide +kernel
theorem dX12_feltBy_6 : decode cX12_feltBy 6 = .ok (.aload_n 0, 1) := by decide +kernel
theorem dX12_feltBy_7 : decode cX12_feltBy 7 = .ok (.getfield 19, 3) := by decide +kernel
theorem dX12_feltBy_10 : decode cX12_feltBy 10 = .ok (.iload_n 1, 1) := by decide +kernel
theorem dX12_feltBy_11 : decode cX12_feltBy 11 = .ok (.iaload, 1) := by decide +kernel
theorem dX12_feltBy_12 : decode cX12_feltBy 12 = .ok (.aload_n 0, 1) := by decide +kernel
theorem dX12_feltBy_13 : decode cX12_feltBy 13 = .ok (.getfield 7, 3) := by decide +kernel
theorem dX12_feltBy_16 : decode cX12_feltBy 16 = .ok (.bipush 64, 2) := by decide +kernel
theorem dX12_feltBy_18 : decode cX12_feltBy 18 = .ok (.iload_n 2, 1) := by decide +kernel
theorem dX12_feltBy_19 : decode cX12_feltBy 19 = .ok (.iadd, 1) := by decide +kernel
theorem dX12_feltBy_20 : decode cX12_feltBy 20 = .ok (.iaload, 1) := by decide +kernel
theorem dX12_feltBy_21 : decode cX12_feltBy 21 = .ok (.invokestatic 294, 3) := by decide +kernel
theorem dX12_feltBy_24 : decode cX12_feltBy 24 = .ok (.isub, 1) := by decide +kernel
theorem dX12_feltBy_25 : decode cX12_feltBy 25 = .ok (.ireturn, 1) := by decide +kernel
def f_X12_feltBy (S0 : Gr) (x1 : Int32) (x2 : Int32) : Option (Int32) := rd' (S0.2 4) 8 x2 fun v1 => rd' (S0.2 3) 8 x1 fun v2 => rd' (S0.2 0) 82 (64 + x2) fun v3 => (f_X12_distance v2 v3).bind fun u4 => some (v1 - u4)
set_option maxHeartbeats 4000000 in
set_option maxRecDepth 100000 in
theorem c_X12_feltBy (l : Launch) (E : Ec) (q0 : Nat → Nat) (sz : Nat) (S0 : Gr) (x1 : Int32) (x2 : Int32) (Rv : Int32) (h : f_X12_feltBy S0 x1 x2 = some Rv) : Met l yX12_feltBy (wsM (.code yX12_feltBy cX12_feltBy 3 (some .int))) ({ frames := 2, cells := 0, slots := 0, locals := 42 } : Room) (va_Pc [.ref (q0 0), .int x1, .int x2] (ctP E (cw_X12 E q0 S0) sz)) (ctI E (cw_X12 E q0 S0) (cw_X12 E q0 S0) sz Rv) 0 0 (va_A (cw_X12 E q0 S0) sz) := by
  refine ct_metI (by decide) (Nat.le_of_ble_eq_true rfl) ?_
  intro p e s m ar below meth c A QM hx hb hml hown hg X hP hD hS RET ls hl
  have hown : s.vm.findClass RX12 = some m.cls := hown
  have hl : lv_has ls 3 [(0, .ref (q0 0)), (1, .int x1), (2, .int x2)] := hl
  have RT : ∀ (v : Int32) (H : Heap) (locs : List Loc) (ls : Array Slot) (pc : Nat), some v = some Rv → narrow .int (.int v) = .int v → va_P E.1 vwCl (cw_X12 E q0 S0) H → va_D A (cw_X12 E q0 S0) → va_S A s.heap H locs → decode cX12_feltBy pc = .ok (.ireturn, 1) → W p l e ({ frames := 2, cells := 0, slots := 0, locals := 42 } : Room) s m ar below meth c H locs 0 0 QM (F0 m pc ls [.int v]) := by
    intro v H locs ls pc e hn hP hD hS d
    obtain rfl := sm_e e
    exact RET H locs pc ls hn hP hD hS d
  clear RET
  obtain ⟨H, eH⟩ : ∃ z, z = s.heap := ⟨_, rfl⟩
  rw [← eH]
  have hP : va_P E.1 vwCl (cw_X12 E q0 S0) H := by rw [eH]; exact hP
  have hS : va_S A s.heap H [] := by rw [eH]; exact hS
  clear eH
  obtain ⟨locs, el⟩ : ∃ z : List Loc, z = [] := ⟨_, rfl⟩
  rw [← el] at hS ⊢
  clear el
  refine lv_aload_n hx hb dX12_feltBy_0 rfl (lv_at hl 0 rfl) ?_
  refine va_get (D := E.1) (ci := 11) (v := .ref (q0 5)) (C := RX12) (T := TX12) (N := 57) hx hb hg in_X12 hown X.1 hP 0 rfl rfl 4 (by decide) (hg _ wf_X12_22) (fun _ h9 => h9) rfl dX12_feltBy_1 ?_
  refine lv_iload_n hx hb dX12_feltBy_4 rfl (lv_at hl 2 rfl) ?_
  obtain ⟨hi, v1, ev1, h⟩ := rd_el h
  refine va_iald hx hb X.1 hP 5 0 rfl rfl hi dX12_feltBy_5 ?_
  refine lv_top' ev1 ?_
  refine lv_aload_n hx hb dX12_feltBy_6 rfl (lv_at hl 0 rfl) ?_
  refine va_get (D := E.1) (ci := 11) (v := .ref (q0 4)) (C := RX12) (T := TX12) (N := 57) hx hb hg in_X12 hown X.1 hP 0 rfl rfl 3 (by decide) (hg _ wf_X12_19) (fun _ h9 => h9) rfl dX12_feltBy_7 ?_
  refine lv_iload_n hx hb dX12_feltBy_10 rfl (lv_at hl 1 rfl) ?_
  obtain ⟨hi, v2, ev2, h⟩ := rd_el h
  refine va_iald hx hb X.1 hP 4 0 rfl rfl hi dX12_feltBy_11 ?_
  refine lv_top' ev2 ?_
  refine lv_aload_n hx hb dX12_feltBy_12 rfl (lv_at hl 0 rfl) ?_
  refine va_get (D := E.1) (ci := 11) (v := .ref (q0 1)) (C := RX12) (T := TX12) (N := 57) hx hb hg in_X12 hown X.1 hP 0 rfl rfl 0 (by decide) (hg _ wf_X12_7) (fun _ h9 => h9) rfl dX12_feltBy_13 ?_
  refine lv_bipush (v := 64) hx hb dX12_feltBy_16 (by decide) ?_
  refine lv_iload_n hx hb dX12_feltBy_18 rfl (lv_at hl 2 rfl) ?_
  refine lv_iadd hx hb dX12_feltBy_19 ?_
  obtain ⟨hi, v3, ev3, h⟩ := rd_el h
  refine va_iald hx hb X.1 hP 1 0 rfl rfl hi dX12_feltBy_20 ?_
  refine lv_top' ev3 ?_
  obtain ⟨u4, hc, h⟩ := bd_el h
  refine ct_iN X hP hD hS (va_runS (As := [.int v2, .int v3]) (rest := [.int v1]) ⟨hx, hb, hml, hown, hg⟩ (c_X12_distance l E  H.size v2 v3 u4 hc) (va_cwS 2 hg (gwS wm_X12_294 wst_X12_distance wini_X12 wco_X12_distance) rfl rfl rfl (by decide +kernel) ⟨Nat.le_of_ble_eq_true rfl, Nat.le_of_ble_eq_true rfl⟩) ⟨ct_blind, ct_preN X hS _⟩ rfl rfl hl.1 rfl (lv_room (Nat.le_of_ble_eq_true rfl)) dX12_feltBy_21 ⟨Nat.zero_le _, Nat.zero_le _⟩) (fun H locs hP hD hS => ?_)
  refine lv_isub hx hb dX12_feltBy_24 ?_
  exact RT (v1 - u4) _ _ _ _ h rfl hP hD hS dX12_feltBy_25
