/-! ===== Int32 by its bits: bt x i ===== -/
def bt (x : Int32) (i : Nat) : Bool := x.toBitVec.getLsbD i
theorem b_ext {x y : Int32} (h : ∀ i, i < 32 → bt x i = bt y i) : x = y := Int32.toBitVec_inj.mp (BitVec.eq_of_getLsbD_eq (fun i hi => h i hi))
theorem b_or (x y : Int32) (i : Nat) : bt (x ||| y) i = (bt x i || bt y i) := by unfold bt; rw [Int32.toBitVec_or, BitVec.getLsbD_or]
theorem b_and (x y : Int32) (i : Nat) : bt (x &&& y) i = (bt x i && bt y i) := by unfold bt; rw [Int32.toBitVec_and, BitVec.getLsbD_and]
theorem b_xor (x y : Int32) (i : Nat) : bt (x ^^^ y) i = (bt x i ^^ bt y i) := by unfold bt; rw [Int32.toBitVec_xor, BitVec.getLsbD_xor]
theorem b_big {x : Int32} {i : Nat} (h : 32 ≤ i) : bt x i = false := BitVec.getLsbD_of_ge _ _ h
theorem b_255 (i : Nat) : bt 255 i = decide (i < 8) := by
  rcases Nat.lt_or_ge i 32 with h | h
  · exact (by decide +kernel : ∀ i, i < 32 → bt 255 i = decide (i < 8)) i h
  · rw [b_big h, decide_eq_false (by omega)]
theorem b_65535 (i : Nat) : bt 65535 i = decide (i < 16) := by
  rcases Nat.lt_or_ge i 32 with h | h
  · exact (by decide +kernel : ∀ i, i < 32 → bt 65535 i = decide (i < 16)) i h
  · rw [b_big h, decide_eq_false (by omega)]
theorem b_m1 : ∀ i, i < 32 → bt (-1) i = true := by decide +kernel
theorem b_0 (i : Nat) : bt 0 i = false := BitVec.getLsbD_zero
theorem s_l : ∀ n, n < 32 → ((nI n &&& 31).toBitVec.smod 32).toNat = n := by decide +kernel
theorem s_u : ∀ n, n < 32 → (((nI n).toUInt32 &&& Int32.toUInt32 31).toBitVec % 32).toNat = n := by decide +kernel
theorem b_shl (n : Nat) (hn : n < 32) (x : Int32) {i : Nat} (hi : i < 32) : bt (x <<< (nI n &&& 31)) i = (decide (n ≤ i) && bt x (i - n)) := by
  unfold bt
  rw [Int32.toBitVec_shiftLeft]
  show (x.toBitVec <<< ((nI n &&& 31).toBitVec.smod 32).toNat).getLsbD i = _
  rw [s_l n hn, BitVec.getLsbD_shiftLeft]
  rcases Nat.lt_or_ge i n with h | h
  · simp [h, Nat.not_le.mpr h]
  · simp [hi, h, Nat.not_lt.mpr h]
theorem b_ushr (n : Nat) (hn : n < 32) (x : Int32) (i : Nat) : bt ((x.toUInt32 >>> ((nI n).toUInt32 &&& Int32.toUInt32 31)).toInt32) i = bt x (n + i) := by
  show (x.toUInt32 >>> ((nI n).toUInt32 &&& Int32.toUInt32 31)).toBitVec.getLsbD i = x.toUInt32.toBitVec.getLsbD (n + i)
  rw [UInt32.toBitVec_shiftRight]
  show (x.toUInt32.toBitVec >>> (((nI n).toUInt32 &&& Int32.toUInt32 31).toBitVec % 32).toNat).getLsbD i = _
  rw [s_u n hn, BitVec.getLsbD_ushiftRight]
theorem b_sshr (n : Nat) (hn : n < 32) (x : Int32) {i : Nat} (hi : i < 32) : bt (x >>> (nI n &&& 31)) i = if n + i < 32 then bt x (n + i) else bt x 31 := by
  unfold bt
  rw [Int32.toBitVec_shiftRight]
  show (x.toBitVec.sshiftRight ((nI n &&& 31).toBitVec.smod 32).toNat).getLsbD i = _
  rw [s_l n hn, BitVec.getLsbD_sshiftRight, BitVec.msb_eq_getLsbD_last]
  simp [hi]
theorem bp_b (x : Int32) : x.toInt8.toInt32 &&& 255 = x &&& 255 := by
  apply Int32.toBitVec_inj.mp
  rw [Int32.toBitVec_and, Int32.toBitVec_and, Int8.toBitVec_toInt32, Int32.toBitVec_toInt8]
  apply BitVec.eq_of_getLsbD_eq
  intro i hi
  rw [BitVec.getLsbD_and, BitVec.getLsbD_and]
  have hm : ∀ i < 32, 8 ≤ i → (255 : Int32).toBitVec.getLsbD i = false := by decide
  rcases Nat.lt_or_ge i 8 with z | z
  · rw [BitVec.getLsbD_signExtend, BitVec.getLsbD_signExtend, if_pos z, if_pos hi]
    simp only [z, hi, decide_true, Bool.true_and]
  · rw [hm i hi z]; simp

/-! tape, tension, fleetIs, keep -/
theorem by_sh (n : Nat) (hn : n ≤ 24) (x : Int32) : (x >>> (nI n &&& 31)) &&& 255 = us' x (nI n) &&& 255 := b_ext fun i hi => by
  unfold us'
  rw [b_and, b_and, b_255, b_sshr n (by omega) x hi, b_ushr n (by omega)]
  rcases Nat.lt_or_ge i 8 with h | h
  · rw [if_pos (by omega)]
  · rw [decide_eq_false (by omega), Bool.and_false, Bool.and_false]
theorem us_24 (x : Int32) : us' x (nI 24) &&& 255 = us' x (nI 24) := b_ext fun i hi => by
  unfold us'
  rw [b_and, b_255, b_ushr 24 (by omega)]
  rcases Nat.lt_or_ge i 8 with h | h
  · rw [decide_eq_true h, Bool.and_true]
  · rw [b_big (x := x) (i := 24 + i) (by omega), Bool.false_and]
theorem and_255 (x : Int32) : ∃ v : Int, 0 ≤ v ∧ v < 256 ∧ x &&& 255 = zI v := by
  obtain ⟨j, h1, h2⟩ := pk_andE x (m := 255) 8 rfl
  exact ⟨j, by omega, by omega, by rw [h2, zI_nI]⟩
def keepM (M M' : Gr) : Prop := (M'.1 5 = M.1 5 ∧ M'.1 6 = M.1 6 ∧ M'.1 17 = M.1 17 ∧ M'.1 54 = M.1 54 ∧ M'.1 55 = M.1 55 ∧ M'.1 56 = M.1 56) ∧ (M'.2 0 = M.2 0 ∧ M'.2 2 = M.2 2 ∧ M'.2 3 = M.2 3 ∧ M'.2 4 = M.2 4) ∧ (M'.2 24 = M.2 24 ∧ M'.2 25 = M.2 25 ∧ M'.2 26 = M.2 26 ∧ M'.2 27 = M.2 27 ∧ M'.2 28 = M.2 28)
theorem keepM.rf (M : Gr) : keepM M M := ⟨⟨rfl, rfl, rfl, rfl, rfl, rfl⟩, ⟨rfl, rfl, rfl, rfl⟩, ⟨rfl, rfl, rfl, rfl, rfl⟩⟩
theorem keepM.tr {M N O : Gr} (h : keepM M N) (k : keepM N O) : keepM M O := by
  obtain ⟨⟨a1, a2, a3, a4, a5, a6⟩, ⟨b1, b2, b3, b4⟩, ⟨c1, c2, c3, c4, c5⟩⟩ := h
  obtain ⟨⟨d1, d2, d3, d4, d5, d6⟩, ⟨e1, e2, e3, e4⟩, ⟨f1, f2, f3, f4, f5⟩⟩ := k
  exact ⟨⟨d1.trans a1, d2.trans a2, d3.trans a3, d4.trans a4, d5.trans a5, d6.trans a6⟩, ⟨e1.trans b1, e2.trans b2, e3.trans b3, e4.trans b4⟩, ⟨f1.trans c1, f2.trans c2, f3.trans c3, f4.trans c4, f5.trans c5⟩⟩
theorem Inv_keep {C C' : Nat → Gr} {M M' : Gr} (h : Inv C M) (k : keepM M M') (t : tapeOK ((C' 1).1 1) ((C' 1).2 0) (M'.1 8) (M'.2 7)) (e13 : C' 13 = C 13) (e0 : C' 0 = C 0) (e15 : C' 15 = C 15) (e11 : C' 11 = C 11) : Inv C' M' := by
  obtain ⟨h1, h2, h3, h4, h5⟩ := h
  obtain ⟨⟨a1, a2, a3, a4, a5, a6⟩, ⟨b1, b2, b3, b4⟩, ⟨c1, c2, c3, c4, c5⟩⟩ := k
  refine ⟨t, ?_, ?_, ?_, ?_⟩
  · rw [e13, a1, a2, b1]; exact h2
  · rw [e13, a1, a2, b3, b4]; exact h3
  · rw [e0, e15, a4, a5, a6, b2]; exact h4
  · rw [e11, a3, c1, c2, c3, c4, c5]; exact h5
/-- class's tape and reference's, k bytes on them -/
def tpR (T M : Gr) (k : Nat) : Prop := k ≤ 260 ∧ T.1 1 = zI k ∧ M.1 8 = zI k ∧ ∀ j : Nat, j < 260 → ∃ v : Int, 0 ≤ v ∧ v < 256 ∧ T.2 0 j = zI v ∧ M.2 7 j &&& 255 = zI v
theorem tpR.ok {T M : Gr} {k : Nat} (h : tpR T M k) : tapeOK (T.1 1) (T.2 0) (M.1 8) (M.2 7) := ⟨⟨k, h.1, h.2.1, h.2.2.1⟩, h.2.2.2⟩
theorem tpR.of {T M : Gr} (h : tapeOK (T.1 1) (T.2 0) (M.1 8) (M.2 7)) : ∃ k, tpR T M k := by
  obtain ⟨⟨k, h1, h2, h3⟩, h4⟩ := h
  exact ⟨k, h1, h2, h3, h4⟩
theorem put_e {T : Gr} {k : Nat} (hk : k < 260) (hs : T.1 1 = zI k) (c : Int32) : f_X8_put T c = some (sI (sA T 0 k c) 1 (zI ((k + 1 : Nat) : Int))) := by
  unfold f_X8_put
  rw [hs, if_neg (nle260 hk), ckN hk (by omega), clN (by omega), lt_e, lt_e]
  show some (sI (sA T 0 k c) 1 (T.1 1 + 1)) = _
  rw [hs, zs1]
theorem put_R {T M : Gr} {k : Nat} (h : tpR T M k) (hk : k < 260) (c m : Int32) (v : Int) (h1 : 0 ≤ v) (h2 : v < 256) (hc : c = zI v) (hm : m &&& 255 = zI v) : tpR (sI (sA T 0 k c) 1 (zI ((k + 1 : Nat) : Int))) (sI (sA M 7 k m) 8 (zI ((k + 1 : Nat) : Int))) (k + 1) := by
  refine ⟨by omega, rfl, rfl, fun j hj => ?_⟩
  by_cases hjk : j = k
  · subst hjk
    exact ⟨v, h1, h2, by rw [sI_2, sA_2, if_pos rfl, upd_e, if_pos rfl]; exact hc, by rw [sI_2, sA_2, if_pos rfl, upd_e, if_pos rfl]; exact hm⟩
  · obtain ⟨w, a1, a2, a3, a4⟩ := h.2.2.2 j hj
    exact ⟨w, a1, a2, by rw [sI_2, sA_2, if_pos rfl, upd_e, if_neg hjk]; exact a3, by rw [sI_2, sA_2, if_pos rfl, upd_e, if_neg hjk]; exact a4⟩
theorem typ_e {M : Gr} {k : Nat} (hk : k < 260) (hs : M.1 8 = zI k) (x : Int32) (n : Nat) (z : Int32) (hz : ¬ z < 0) : f_X12_types_n2 x (n + 1) M z = f_X12_types_n2 x n (sI (sA M 7 k ((x >>> ((8 * z) &&& 31)).toInt8.toInt32)) 8 (zI ((k + 1 : Nat) : Int))) (z + (-1)) := by
  rw [f_X12_types_n2, if_neg hz, lt_e, hs, ckN hk (by omega), clN (by omega), lt_e, lt_e, lt_e, pk_vb]
  show f_X12_types_n2 x n (sI (sA M 7 k _) 8 (M.1 8 + 1)) _ = _
  rw [hs, zs1]
theorem typ_end (M : Gr) (x : Int32) (n : Nat) : f_X12_types_n2 x (n + 1) M (-1) = some M := by
  rw [f_X12_types_n2, if_pos (by decide)]
theorem int_R {T M : Gr} {k : Nat} (h : tpR T M k) (hk : k + 4 ≤ 260) (x : Int32) : ∃ T' M', f_X8_putInt T x = some T' ∧ f_X12_types M x = some M' ∧ tpR T' M' (k + 4) ∧ keepM M M' := by
  unfold f_X8_putInt f_X12_types
  rw [show fu = 995 + 1 + 1 + 1 + 1 + 1 from rfl, typ_e (k := k) (by omega) h.2.2.1 x _ 3 (by decide)]
  obtain ⟨v3, a1, a2, a3⟩ := and_255 (us' x (nI 24))
  have h1 := put_R h (by omega) (us' x 24) ((x >>> ((8 * 3) &&& 31)).toInt8.toInt32) v3 a1 a2 ((us_24 x).symm.trans a3) (by rw [bp_b]; exact (by_sh 24 (by omega) x).trans a3)
  rw [typ_e (k := k + 1) (by omega) h1.2.2.1 x _ (3 + (-1)) (by decide)]
  obtain ⟨v2, b1, b2, b3⟩ := and_255 (us' x (nI 16))
  have h2 := put_R h1 (by omega) (us' x 16 &&& 255) ((x >>> ((8 * (3 + (-1))) &&& 31)).toInt8.toInt32) v2 b1 b2 b3 (by rw [bp_b]; exact (by_sh 16 (by omega) x).trans b3)
  rw [typ_e (k := k + 1 + 1) (by omega) h2.2.2.1 x _ (3 + (-1) + (-1)) (by decide)]
  obtain ⟨v1, c1, c2, c3⟩ := and_255 (us' x (nI 8))
  have h3 := put_R h2 (by omega) (us' x 8 &&& 255) ((x >>> ((8 * (3 + (-1) + (-1))) &&& 31)).toInt8.toInt32) v1 c1 c2 c3 (by rw [bp_b]; exact (by_sh 8 (by omega) x).trans c3)
  rw [typ_e (k := k + 1 + 1 + 1) (by omega) h3.2.2.1 x _ (3 + (-1) + (-1) + (-1)) (by decide)]
  obtain ⟨v0, d1, d2, d3⟩ := and_255 x
  have h4 := put_R h3 (by omega) (x &&& 255) ((x >>> ((8 * (3 + (-1) + (-1) + (-1))) &&& 31)).toInt8.toInt32) v0 d1 d2 d3 (by rw [bp_b, show (8 * (3 + (-1) + (-1) + (-1)) : Int32) &&& 31 = (0 : Int32) &&& 31 from by decide, sb_shr0]; exact d3)
  rw [show (3 + (-1) + (-1) + (-1) + (-1) : Int32) = -1 from by decide, typ_end]
  rw [lt_e, put_e (k := k) (by omega) h.2.1, bd_s, lt_e, put_e (k := k + 1) (by omega) h1.2.1, bd_s, lt_e, put_e (k := k + 1 + 1) (by omega) h2.2.1, bd_s, put_e (k := k + 1 + 1 + 1) (by omega) h3.2.1, bd_s]
  exact ⟨_, _, rfl, rfl, h4, ⟨⟨rfl, rfl, rfl, rfl, rfl, rfl⟩, ⟨rfl, rfl, rfl, rfl⟩, ⟨rfl, rfl, rfl, rfl, rfl⟩⟩⟩
theorem feed_ok : hp_feed Inv := by
  intro C M hI x1 x2 x3 x4 x5
  obtain ⟨k, hk⟩ := tpR.of hI.1
  have e20 : (20 : Int32) = zI 20 := rfl
  have e260 : (260 : Int32) = zI 260 := rfl
  have hk260 := hk.1
  unfold f_X11_feed f_X12_feed f_X8_hasRoomFor
  rw [hk.2.1, hk.2.2.1]
  by_cases hr : k + 20 ≤ 260
  · have c1 : ¬ (260 : Int32) < zI k + 20 := by rw [e20, e260, zI_add, zI_lt (by omega) (by omega) (by omega) (by omega)]; omega
    have c2 : zI k + 20 ≤ (260 : Int32) := by rw [e20, e260, zI_add, zI_le (by omega) (by omega) (by omega) (by omega)]; omega
    rw [if_neg c1, if_pos c2, bd_s, i10]
    obtain ⟨T1, M1, p1, q1, r1, s1⟩ := int_R hk (by omega) x1
    obtain ⟨T2, M2, p2, q2, r2, s2⟩ := int_R r1 (by omega) x2
    obtain ⟨T3, M3, p3, q3, r3, s3⟩ := int_R r2 (by omega) x3
    obtain ⟨T4, M4, p4, q4, r4, s4⟩ := int_R r3 (by omega) x4
    obtain ⟨T5, M5, p5, q5, r5, s5⟩ := int_R r4 (by omega) x5
    rw [p1, bd_s, p2, bd_s, p3, bd_s, p4, bd_s, p5, bd_s, q1, bd_s, q2, bd_s, q3, bd_s, q4, bd_s, q5, bd_s]
    refine ⟨_, _, rfl, rfl, r5.2.1.trans r5.2.2.1.symm, ?_⟩
    exact Inv_keep hI ((((s1.tr s2).tr s3).tr s4).tr s5) r5.ok rfl rfl rfl rfl
  · have c1 : (260 : Int32) < zI k + 20 := by rw [e20, e260, zI_add, zI_lt (by omega) (by omega) (by omega) (by omega)]; omega
    have c2 : ¬ zI k + 20 ≤ (260 : Int32) := by rw [e20, e260, zI_add, zI_le (by omega) (by omega) (by omega) (by omega)]; omega
    rw [if_pos c1, if_neg c2, bd_s, i00]
    exact ⟨_, _, rfl, rfl, rfl, Inv_keep hI (keepM.rf M) hI.1 rfl rfl rfl rfl⟩
