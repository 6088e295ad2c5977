/-! the pure words of the models: a group's state is its numbers by slot and its rows by slot -/
abbrev Gr : Type := (Nat → Int32) × (Nat → Nat → Int32)
def sI (S : Gr) (k : Nat) (x : Int32) : Gr := (upd S.1 k x, S.2)
def sA (S : Gr) (k i : Nat) (x : Int32) : Gr := (S.1, va_up S.2 k (upd (S.2 k) i x))
def sR (S : Gr) (k : Nat) (f : Nat → Int32) : Gr := (S.1, va_up S.2 k f)
def lt' {α β : Type} (e : α) (k : α → Option β) : Option β := k e
def rd' {β : Type} (f : Nat → Int32) (N : Nat) (i : Int32) (k : Int32 → Option β) : Option β := if i < 0 ∨ N ≤ i.toNatClampNeg then none else k (f i.toNatClampNeg)
def ck' {β : Type} (N : Nat) (i : Int32) (k : Option β) : Option β := if i < 0 ∨ N ≤ i.toNatClampNeg then none else k
def dz' {β : Type} (y : Int32) (k : Option β) : Option β := if y = 0 then none else k
theorem lt_el {α β : Type} {e : α} {k : α → Option β} {R : β} (h : lt' e k = some R) : ∃ z, z = e ∧ k z = some R := ⟨e, rfl, h⟩
theorem rd_el {β : Type} {f : Nat → Int32} {N : Nat} {i : Int32} {k : Int32 → Option β} {R : β} (h : rd' f N i k = some R) : vp_in i N ∧ ∃ z, z = f i.toNatClampNeg ∧ k z = some R := by
  unfold rd' at h
  by_cases hc : i < 0 ∨ N ≤ i.toNatClampNeg
  · rw [if_pos hc] at h; cases h
  · rw [if_neg hc] at h; exact ⟨hc, _, rfl, h⟩
theorem ck_el {β : Type} {N : Nat} {i : Int32} {k : Option β} {R : β} (h : ck' N i k = some R) : vp_in i N ∧ k = some R := by
  unfold ck' at h
  by_cases hc : i < 0 ∨ N ≤ i.toNatClampNeg
  · rw [if_pos hc] at h; cases h
  · rw [if_neg hc] at h; exact ⟨hc, h⟩
theorem dz_el {β : Type} {y : Int32} {k : Option β} {R : β} (h : dz' y k = some R) : ¬ y = 0 ∧ k = some R := by
  unfold dz' at h
  by_cases hc : y = 0
  · rw [if_pos hc] at h; cases h
  · rw [if_neg hc] at h; exact ⟨hc, h⟩
theorem bd_el {α β : Type} {x : Option α} {k : α → Option β} {R : β} (h : x.bind k = some R) : ∃ u, x = some u ∧ k u = some R := by
  cases x with
  | none => cases h
  | some u => exact ⟨u, rfl, h⟩
theorem it_t {β : Type} {c : Prop} [Decidable c] {a b : Option β} {R : β} (h : (if c then a else b) = some R) (hc : c) : a = some R := by rw [if_pos hc] at h; exact h
theorem it_f {β : Type} {c : Prop} [Decidable c] {a b : Option β} {R : β} (h : (if c then a else b) = some R) (hc : ¬ c) : b = some R := by rw [if_neg hc] at h; exact h
def zb' {β : Type} (v : Int32) (k : Option β) : Option β := if v = 0 ∨ v = 1 then k else none
theorem zb_el {β : Type} {v : Int32} {k : Option β} {R : β} (h : zb' v k = some R) : narrow .boolean (.int v) = .int v ∧ fits .boolean (.int v) = true ∧ k = some R := by
  unfold zb' at h
  by_cases hc : v = 0 ∨ v = 1
  · rw [if_pos hc] at h
    rcases hc with rfl | rfl
    · exact ⟨by decide +kernel, by decide +kernel, h⟩
    · exact ⟨by decide +kernel, by decide +kernel, h⟩
  · rw [if_neg hc] at h; cases h
def cp' {β : Type} (sp dp n : Int32) (n0 n1 : Nat) (k : Option β) : Option β := if sp < 0 ∨ dp < 0 ∨ n < 0 ∨ n0 < sp.toNatClampNeg + n.toNatClampNeg ∨ n1 < dp.toNatClampNeg + n.toNatClampNeg then none else k
theorem cp_el {β : Type} {sp dp n : Int32} {n0 n1 : Nat} {k : Option β} {R : β} (h : cp' sp dp n n0 n1 k = some R) : ¬ sp < 0 ∧ ¬ dp < 0 ∧ ¬ n < 0 ∧ sp.toNatClampNeg + n.toNatClampNeg ≤ n0 ∧ dp.toNatClampNeg + n.toNatClampNeg ≤ n1 ∧ k = some R := by
  unfold cp' at h
  by_cases hc : sp < 0 ∨ dp < 0 ∨ n < 0 ∨ n0 < sp.toNatClampNeg + n.toNatClampNeg ∨ n1 < dp.toNatClampNeg + n.toNatClampNeg
  · rw [if_pos hc] at h; cases h
  · rw [if_neg hc] at h
    simp only [not_or, Nat.not_lt] at hc
    exact ⟨hc.1, hc.2.1, hc.2.2.1, hc.2.2.2.1, hc.2.2.2.2, h⟩
def mx' (x y : Int32) : Int32 := if x < y then y else x
def mn' (x y : Int32) : Int32 := if y < x then y else x
def ab' (x : Int32) : Int32 := if 0 ≤ x then x else 0 - x
def us' (x y : Int32) : Int32 := (x.toUInt32 >>> (y.toUInt32 &&& Int32.toUInt32 31)).toInt32
def fu : Nat := 1000
theorem nn_el {β : Type} {R : β} {P : Prop} (h : (none : Option β) = some R) : P := nomatch h
theorem sm_el {β : Type} {a R : β} (h : some a = some R) : a = R := Option.some.inj h
theorem sm_e {β : Type} {a R : β} (h : some a = some R) : R = a := (Option.some.inj h).symm
/-! what every contract stands on -/
abbrev Ec : Type := va_G × (ClassId × ClassId × ClassId) × (Nat × Nat × Nat)
abbrev tys (E : Ec) : List (ClassId × FieldType) := [(E.2.1.1, .int), (E.2.1.2.1, .boolean), (E.2.1.2.2, .byte)]
def stA : Nat → Int32 := fun j => ([0, 1, 1, 1, 0, -1, -1, -1] : List Int32).getD j 0
def stB : Nat → Int32 := fun j => ([-1, -1, 0, 1, 1, 1, 0, -1] : List Int32).getD j 0
def stL : Nat → Int32 := fun j => ([112, 102, 115, 118, 100, 103, 114, 99, 104, 119] : List Int32).getD j 0
def stF (ts : Nat × Nat × Nat) (A : Nat → Prop) (U : State) (H : Heap) : Prop := (va_Z "DraughtWebs$Compass" "ACROSS" "[I" (.ref ts.1) A U H ∧ va_T .int ts.1 8 (fun j => .int (stA j)) A U H) ∧ (va_Z "DraughtWebs$Compass" "ALONG" "[I" (.ref ts.2.1) A U H ∧ va_T .int ts.2.1 8 (fun j => .int (stB j)) A U H) ∧ (va_Z "DraughtWebs$Law" "LETTERS" "[I" (.ref ts.2.2) A U H ∧ va_T .int ts.2.2 10 (fun j => .int (stL j)) A U H)
theorem stF.to {ts : Nat × Nat × Nat} {A B : Nat → Prop} {s U : State} {H0 H : Heap} (h : stF ts A s H0) (hq : ∀ a : Nat, a < H0.size → ¬ A a → H[a]? = H0[a]?) (hvm : s.vm.Alike U.vm) (hB : ∀ q, B q → A q) : stF ts B U H :=
  ⟨⟨((h.1.1.kept hq).moved hvm).narrow hB, ((h.1.2.kept hq).moved hvm).narrow hB⟩, ⟨((h.2.1.1.kept hq).moved hvm).narrow hB, ((h.2.1.2.kept hq).moved hvm).narrow hB⟩, ⟨((h.2.2.1.kept hq).moved hvm).narrow hB, ((h.2.2.2.kept hq).moved hvm).narrow hB⟩⟩
def ctP (E : Ec) (ws : va_W) (sz : Nat) (U : State) : Prop := U.heap.size = sz ∧ va_P E.1 vwCl ws U.heap ∧ va_K E.1 vwCl (tys E) U ∧ va_D (fun _ => True) ws ∧ nwOk U ∧ stF E.2.2 (va_A ws sz) U U.heap
def ctR (E : Ec) (A : Nat → Prop) (ws : va_W) (t : State) : Prop := va_P E.1 vwCl ws t.heap ∧ va_K E.1 vwCl (tys E) t ∧ va_D A ws
abbrev ctI (E : Ec) (ws ws' : va_W) (sz : Nat) (r : Int32) : Array Value → State → Outcome → State → Prop := va_Qi (fun (r2 : Int32) (_ : Unit) => r2 = r) (fun _ t => ctR E (va_A ws sz) ws' t) (va_A ws sz)
abbrev ctL (E : Ec) (ws ws' : va_W) (sz : Nat) (r : Int64) : Array Value → State → Outcome → State → Prop := va_Ql (fun (r2 : Int64) (_ : Unit) => r2 = r) (fun _ t => ctR E (va_A ws sz) ws' t) (va_A ws sz)
abbrev ctV (E : Ec) (ws ws' : va_W) (sz : Nat) : Array Value → State → Outcome → State → Prop := va_Qv (fun (_ : Unit) => True) (fun _ t => ctR E (va_A ws sz) ws' t) (va_A ws sz)
abbrev wsM (w : Cond) : List Cond := w :: gtbl
theorem gw {w : Cond} (h : w ∈ gtbl) : GoodIn gtbl (wsM w) := fun v hv => by
  have hm : v ∈ gtbl := (List.mem_cons.mp hv).elim (fun e => e ▸ h) id
  exact ⟨hm, good_of_word (gtbl_good hm)⟩
theorem gwV {own C : String} {idx : Nat} {y : MethodName} {w : Cond} (h1 : Cond.methodLink own idx y ∈ gtbl) (h2 : Cond.instanceMethod y ∈ gtbl) (h3 : Cond.selects C y y ∈ gtbl) (h4 : Cond.initialized C ∈ gtbl) (h : w ∈ gtbl) : GoodIn gtbl (wsV own idx C y (wsM w)) := fun v hv => by
  have hm : v ∈ gtbl := by
    rcases List.mem_append.mp hv with hv | hv
    · simp only [List.mem_cons, List.not_mem_nil, or_false] at hv
      rcases hv with rfl | rfl | rfl | rfl <;> assumption
    · exact (gw h v hv).1
  exact ⟨hm, good_of_word (gtbl_good hm)⟩
theorem gwS {own : String} {idx : Nat} {y : MethodName} {w : Cond} (h1 : Cond.methodLink own idx y ∈ gtbl) (h2 : Cond.static y ∈ gtbl) (h4 : Cond.initialized y.cls ∈ gtbl) (h : w ∈ gtbl) : GoodIn gtbl (va_wsS own idx y (wsM w)) := fun v hv => by
  have hm : v ∈ gtbl := by
    rcases List.mem_append.mp hv with hv | hv
    · simp only [List.mem_cons, List.not_mem_nil, or_false] at hv
      rcases hv with rfl | rfl | rfl <;> assumption
    · exact (gw h v hv).1
  exact ⟨hm, good_of_word (gtbl_good hm)⟩
theorem ct_blind {E : Ec} {av : List Value} {ws : va_W} {sz : Nat} : FrameBlind (va_Pc av (ctP E ws sz)) := fun a U g mk q => by
  obtain ⟨q0, q1, qP, qK, qD, qN, qT⟩ := q
  exact ⟨q0, q1, qP, va_K.moved (u := U) (U := U.calling g mk a) (Vm.Alike.refl U.vm) qK, qD, nwOk.same (s := U) (U := U.calling g mk a) rfl qN, stF.to (s := U) (U := U.calling g mk a) qT (fun _ _ _ => rfl) (Vm.Alike.refl U.vm) (fun _ h => h)⟩
/-- the facts of a method's start that never change -/
def ctX (E : Ec) (A : Nat → Prop) (s : State) : Prop := va_K E.1 vwCl (tys E) s ∧ nwOk s ∧ stF E.2.2 A s s.heap ∧ ∀ q : Nat, s.heap.size ≤ q → A q
theorem ct_in {ws wc : va_W} {isC : List Nat} (hC : isC.map (fun i => ws[i]?) = wc.map some) {j : Nat} {q : Nat × va_E} (h : wc[j]? = some q) : ∃ i : Nat, isC[j]? = some i ∧ ws[i]? = some q := by
  have h1 : (isC.map (fun i => ws[i]?))[j]? = some (some q) := by rw [hC]; simp [h]
  rw [List.getElem?_map] at h1
  cases hi : isC[j]? with
  | none => rw [hi] at h1; cases h1
  | some i => rw [hi] at h1; exact ⟨i, rfl, by simpa using h1⟩
theorem ct_pre {E : Ec} {A : Nat → Prop} {s : State} {H : Heap} {locs : List Loc} {ws wc : va_W} (X : ctX E A s) (hP : va_P E.1 vwCl ws H) (hD : va_D A ws) (hS : va_S A s.heap H locs) (isC : List Nat) (hn : va_nd isC = true) (hC : isC.map (fun i => ws[i]?) = wc.map some) (av : List Value) : ∀ U : State, U.heap = H → s.WarmedH U.vm → va_Pc av (ctP E wc H.size) av.toArray U := by
  intro U hU hW
  obtain ⟨hK, hN, hT, hA⟩ := X
  have hF := va_free (wc := wc) hD hS hA isC hC
  have hPc : va_P E.1 vwCl wc H := fun k q hk => by
    obtain ⟨i, -, hi⟩ := ct_in hC hk
    exact hP i q hi
  refine ⟨rfl, by rw [hU], by rw [hU]; exact hPc, va_K.moved hW.alike hK, (hD.sub isC hn hC).weaken (fun _ _ _ _ => trivial), hN.warm hW, ?_⟩
  rw [hU]
  exact hT.to (fun a h1 h2 => hS.2.1 a h1 h2) hW.alike hF
theorem ct_set : ∀ (isC : List Nat) (w1 ws : va_W) (k : Nat) (q : Nat × va_E), isC.length = w1.length → ((isC.zip w1).foldl (fun a p => a.set p.1 p.2) ws)[k]? = some q → (∃ j : Nat, isC[j]? = some k ∧ w1[j]? = some q) ∨ (k ∉ isC ∧ ws[k]? = some q) := by
  intro isC
  induction isC with
  | nil => intro w1 ws k q _ h; exact Or.inr ⟨List.not_mem_nil, h⟩
  | cons i isC ih =>
    intro w1 ws k q hl h
    cases w1 with
    | nil => cases hl
    | cons w w1 =>
      rcases ih w1 (ws.set i w) k q (Nat.succ.inj hl) h with ⟨j, h1, h2⟩ | ⟨h1, h2⟩
      · exact Or.inl ⟨j + 1, h1, h2⟩
      · by_cases hk : i = k
        · subst hk
          rw [List.getElem?_set_self' ] at h2
          cases hw : ws[i]? with
          | none => rw [hw] at h2; cases h2
          | some z => rw [hw] at h2; exact Or.inl ⟨0, rfl, by simpa using h2⟩
        · rw [List.getElem?_set_ne hk] at h2
          exact Or.inr ⟨fun hm => (List.mem_cons.mp hm).elim (fun e => hk e.symm) h1, h2⟩
theorem ct_back {E : Ec} {A : Nat → Prop} {H H1 : Heap} {ws wc w1 ws' : va_W} (hP : va_P E.1 vwCl ws H) (hD : va_D A ws) (isC : List Nat) (hC : isC.map (fun i => ws[i]?) = wc.map some) (hF : ∀ q, va_A wc H.size q → A q)
    (ha : w1.map (fun q => q.1) = wc.map (fun q => q.1)) (hw : (isC.zip w1).foldl (fun a p => a.set p.1 p.2) ws = ws')
    (hk : ∀ q : Nat, q < H.size → ¬ va_A wc H.size q → H1[q]? = H[q]?) (hP1 : va_P E.1 vwCl w1 H1) (hD1 : va_D (va_A wc H.size) w1) : va_P E.1 vwCl ws' H1 ∧ va_D A ws' := by
  subst hw
  have hlen : isC.length = w1.length := by
    have h1 := congrArg List.length hC
    have h2 := congrArg List.length ha
    simp only [List.length_map] at h1 h2
    omega
  have hadr : ∀ (j : Nat) (q : Nat × va_E), w1[j]? = some q → ∃ (i : Nat) (q' : Nat × va_E), isC[j]? = some i ∧ ws[i]? = some q' ∧ q'.1 = q.1 := by
    intro j q hq
    have h1 : (w1.map (fun q => q.1))[j]? = some q.1 := by rw [List.getElem?_map, hq]; rfl
    rw [ha, List.getElem?_map] at h1
    cases hc : wc[j]? with
    | none => rw [hc] at h1; cases h1
    | some q' =>
      rw [hc] at h1
      obtain ⟨i, hi, hi2⟩ := ct_in hC hc
      exact ⟨i, q', hi, hi2, by simpa using h1⟩
  refine ⟨?_, ?_, ?_⟩
  · intro k q h
    rcases ct_set isC w1 ws k q hlen h with ⟨j, -, h2⟩ | ⟨h1, h2⟩
    · exact hP1 j q h2
    · have hat := hP k q h2
      refine hat.kept (hk q.1 hat.lt ?_)
      rintro (⟨j, e', hj⟩ | hge)
      · obtain ⟨i, hi, hi2⟩ := ct_in hC hj
        have := hD.1 k i q (q.1, e') h2 hi2 rfl
        exact h1 (this ▸ List.mem_of_getElem? hi)
      · exact absurd hat.lt (Nat.not_lt.mpr hge)
  · intro i j p q hp hq he
    have key : ∀ (k : Nat) (q : Nat × va_E), ((isC.zip w1).foldl (fun a p => a.set p.1 p.2) ws)[k]? = some q → ∃ q', ws[k]? = some q' ∧ q'.1 = q.1 := by
      intro k q h
      rcases ct_set isC w1 ws k q hlen h with ⟨j, h1, h2⟩ | ⟨-, h2⟩
      · obtain ⟨i, q', hi, hi2, hi3⟩ := hadr j q h2
        rw [h1] at hi
        cases hi
        exact ⟨q', hi2, hi3⟩
      · exact ⟨q, h2, rfl⟩
    obtain ⟨p', hp', ep⟩ := key i p hp
    obtain ⟨q', hq', eq⟩ := key j q hq
    exact hD.1 i j p' q' hp' hq' (by rw [ep, eq, he])
  · intro k q h
    rcases ct_set isC w1 ws k q hlen h with ⟨j, -, h2⟩ | ⟨-, h2⟩
    · obtain ⟨i, q', -, hi2, hi3⟩ := hadr j q h2
      rw [← hi3]
      exact hD.2 i q' hi2
    · exact hD.2 k q h2
section CT
variable {p : Program} {l : Launch} {e : Env} {R : Room} {s : State} {m : MethodId} {args : Array Value} {below : List Frame} {meth : Method} {c : Code} {H : Heap} {locs : List Loc} {cells slots : Nat} {Q : State → Prop} {pc : Nat} {ls : Array Slot} {rest st0 : List Value}
theorem lv_top' {x y : Int32} (ey : y = x) (k : W p l e R s m args below meth c H locs cells slots Q (F0 m pc ls (.int y :: rest))) : W p l e R s m args below meth c H locs cells slots Q (F0 m pc ls (.int x :: rest)) := ey ▸ k
theorem lv_topl' {x y : Int64} (ey : y = x) (k : W p l e R s m args below meth c H locs cells slots Q (F0 m pc ls (.long y :: rest))) : W p l e R s m args below meth c H locs cells slots Q (F0 m pc ls (.long x :: rest)) := ey ▸ k
theorem ct_i {E : Ec} {A : Nat → Prop} {ws wc w1 ws' : va_W} {r : Int32} {a : Array Value} (X : ctX E A s) (hP : va_P E.1 vwCl ws H) (hD : va_D A ws) (hS : va_S A s.heap H locs) (isC : List Nat)
    (hr : va_Run p l e R s m args below meth c H locs cells slots 0 0 (F0 m pc ls st0) rest (ctI E wc w1 H.size r a) (va_A wc H.size))
    (hC : isC.map (fun i => ws[i]?) = wc.map some) (ha : w1.map (fun q => q.1) = wc.map (fun q => q.1)) (hw : (isC.zip w1).foldl (fun a p => a.set p.1 p.2) ws = ws')
    (kk : ∀ (H1 : Heap) (locs1 : List Loc), va_P E.1 vwCl ws' H1 → va_D A ws' → va_S A s.heap H1 locs1 → W p l e R s m args below meth c H1 locs1 cells slots Q (F0 m (pc + 3) ls (.int r :: rest))) :
    W p l e R s m args below meth c H locs cells slots Q (F0 m pc ls st0) := by
  have hF := va_free (wc := wc) hD hS X.2.2.2 isC hC
  refine va_calli hr hS (fun q _ h => hF q h) hF (fun r2 u t H1 locs1 ht hvm hw2 hB hz1 hk1 hS1 => ?_)
  obtain ⟨hP1, -, hD1⟩ := hB
  rw [ht] at hP1
  obtain ⟨hP2, hD2⟩ := ct_back hP hD isC hC hF ha hw hk1 hP1 hD1
  rw [hw2]
  exact kk H1 locs1 hP2 hD2 hS1
theorem ct_l {E : Ec} {A : Nat → Prop} {ws wc w1 ws' : va_W} {r : Int64} {a : Array Value} (X : ctX E A s) (hP : va_P E.1 vwCl ws H) (hD : va_D A ws) (hS : va_S A s.heap H locs) (isC : List Nat)
    (hr : va_Run p l e R s m args below meth c H locs cells slots 0 0 (F0 m pc ls st0) rest (ctL E wc w1 H.size r a) (va_A wc H.size))
    (hC : isC.map (fun i => ws[i]?) = wc.map some) (ha : w1.map (fun q => q.1) = wc.map (fun q => q.1)) (hw : (isC.zip w1).foldl (fun a p => a.set p.1 p.2) ws = ws')
    (kk : ∀ (H1 : Heap) (locs1 : List Loc), va_P E.1 vwCl ws' H1 → va_D A ws' → va_S A s.heap H1 locs1 → W p l e R s m args below meth c H1 locs1 cells slots Q (F0 m (pc + 3) ls (.long r :: rest))) :
    W p l e R s m args below meth c H locs cells slots Q (F0 m pc ls st0) := by
  have hF := va_free (wc := wc) hD hS X.2.2.2 isC hC
  refine va_calll hr hS (fun q _ h => hF q h) hF (fun r2 u t H1 locs1 ht hvm hw2 hB hz1 hk1 hS1 => ?_)
  obtain ⟨hP1, -, hD1⟩ := hB
  rw [ht] at hP1
  obtain ⟨hP2, hD2⟩ := ct_back hP hD isC hC hF ha hw hk1 hP1 hD1
  rw [hw2]
  exact kk H1 locs1 hP2 hD2 hS1
theorem ct_v {E : Ec} {A : Nat → Prop} {ws wc w1 ws' : va_W} {a : Array Value} (X : ctX E A s) (hP : va_P E.1 vwCl ws H) (hD : va_D A ws) (hS : va_S A s.heap H locs) (isC : List Nat)
    (hr : va_Run p l e R s m args below meth c H locs cells slots 0 0 (F0 m pc ls st0) rest (ctV E wc w1 H.size a) (va_A wc H.size))
    (hC : isC.map (fun i => ws[i]?) = wc.map some) (ha : w1.map (fun q => q.1) = wc.map (fun q => q.1)) (hw : (isC.zip w1).foldl (fun a p => a.set p.1 p.2) ws = ws')
    (kk : ∀ (H1 : Heap) (locs1 : List Loc), va_P E.1 vwCl ws' H1 → va_D A ws' → va_S A s.heap H1 locs1 → W p l e R s m args below meth c H1 locs1 cells slots Q (F0 m (pc + 3) ls rest)) :
    W p l e R s m args below meth c H locs cells slots Q (F0 m pc ls st0) := by
  have hF := va_free (wc := wc) hD hS X.2.2.2 isC hC
  refine va_callv hr hS (fun q _ h => hF q h) hF (fun u t H1 locs1 ht hvm hw2 hB hz1 hk1 hS1 => ?_)
  obtain ⟨hP1, -, hD1⟩ := hB
  rw [ht] at hP1
  obtain ⟨hP2, hD2⟩ := ct_back hP hD isC hC hF ha hw hk1 hP1 hD1
  exact kk H1 locs1 hP2 hD2 hS1
theorem ct_rv {E : Ec} {H : Heap} {ws : va_W} {b ci : Nat} {fs : List Value} {q : vw_C} (hK : va_K E.1 vwCl (tys E) s) (hP : va_P E.1 vwCl ws H) (k : Nat) (he : ws[k]? = some (b, .inr (ci, fs))) (hc : vwCl[ci]? = some q) : ∃ cell : Cell, H[b]? = some cell ∧ cell.vm.isStatics = false ∧ s.vm.findClass q.1 = some cell.cls := va_recv hK hP hc he
theorem ct_metI {E : Ec} {y : MethodName} {cc : ByteArray} {maxL : Nat} {ty : FieldType} {rm : Room} {av : List Value} {ws ws' : va_W} {sz : Nat} {r : Int32} (hy : plainName y.cls = true) (hlen : (lg_sl av).length ≤ maxL)
    (body : ∀ (p : Program) (e : Env) (s : State) (m : MethodId) (ar : Array Value) (below : List Frame) (meth : Method) (c : Code) (A : Nat → Prop) (QM : State → Prop), p.tables.exec = Jvm.exec → c.code = cc → c.maxLocals = maxL → s.vm.findClass y.cls = some m.cls → (∀ w ∈ gtbl, w.before ar s = true) → ctX E A s → va_P E.1 vwCl ws s.heap → va_D A ws → va_S A s.heap s.heap [] →
      (∀ (H : Heap) (locs : List Loc) (pc : Nat) (ls : Array Slot), narrow ty (.int r) = .int r → va_P E.1 vwCl ws' H → va_D A ws' → va_S A s.heap H locs → decode cc pc = .ok (.ireturn, 1) → W p l e rm s m ar below meth c H locs 0 0 QM (F0 m pc ls [.int r])) →
      ∀ ls : Array Slot, lv_has ls maxL (lv_args 0 av) → W p l e rm s m ar below meth c s.heap [] 0 0 QM (F0 m 0 ls [])) :
    Met l y (wsM (.code y cc maxL (some ty))) rm (va_Pc av (ctP E ws sz)) (ctI E ws ws' sz r) 0 0 (va_A ws sz) := by
  refine Met.ofW (cc := cc) (maxL := maxL) (ret := some ty) hy rfl ?_
  intro p e s m args below meth c s₁ B hml hv
  obtain ⟨rfl, hsz, hP, hK, hD0, hN, hT⟩ := hv
  subst hsz
  have hts := atoms_spec (ws := wsM (.code y cc maxL (some ty))) B.pre
  have hlocks := B.notSynchronized
  have hr := B.returns
  have hD := hD0.self (sz := s.heap.size)
  rw [lg_entry_eq]
  refine body p e s m _ below meth c (va_A ws s.heap.size) _ B.exec B.bytes hml (findClass_of_methodNamed B.named) (fun w hw => hts w (List.mem_cons_of_mem _ hw)) ⟨hK, hN, hT, fun q h => Or.inr h⟩ hP hD va_S.rf ?_ _ (lv_entry av (n := maxL) hlen)
  intro H locs pc ls hn hP9 hD9 hS hd
  exact W.zret B.exec B.bytes hr hn (fun t ht hW => ⟨⟨r, (), rfl, rfl, by rw [ht]; exact hP9, va_K.moved hW.alike hK, hD9⟩, hS.F ht⟩) hS.2.2 hd
theorem ct_metV {E : Ec} {y : MethodName} {cc : ByteArray} {maxL : Nat} {rm : Room} {av : List Value} {ws ws' : va_W} {sz : Nat} (hy : plainName y.cls = true) (hlen : (lg_sl av).length ≤ maxL)
    (body : ∀ (p : Program) (e : Env) (s : State) (m : MethodId) (ar : Array Value) (below : List Frame) (meth : Method) (c : Code) (A : Nat → Prop) (QM : State → Prop), p.tables.exec = Jvm.exec → c.code = cc → c.maxLocals = maxL → s.vm.findClass y.cls = some m.cls → (∀ w ∈ gtbl, w.before ar s = true) → ctX E A s → va_P E.1 vwCl ws s.heap → va_D A ws → va_S A s.heap s.heap [] →
      (∀ (H : Heap) (locs : List Loc) (pc : Nat) (ls : Array Slot), va_P E.1 vwCl ws' H → va_D A ws' → va_S A s.heap H locs → decode cc pc = .ok (.return_, 1) → W p l e rm s m ar below meth c H locs 0 0 QM (F0 m pc ls [])) →
      ∀ ls : Array Slot, lv_has ls maxL (lv_args 0 av) → W p l e rm s m ar below meth c s.heap [] 0 0 QM (F0 m 0 ls [])) :
    Met l y (wsM (.code y cc maxL none)) rm (va_Pc av (ctP E ws sz)) (ctV E ws ws' sz) 0 0 (va_A ws sz) := by
  refine Met.ofW (cc := cc) (maxL := maxL) (ret := none) hy rfl ?_
  intro p e s m args below meth c s₁ B hml hv
  obtain ⟨rfl, hsz, hP, hK, hD0, hN, hT⟩ := hv
  subst hsz
  have hts := atoms_spec (ws := wsM (.code y cc maxL none)) B.pre
  have hlocks := B.notSynchronized
  have hr := B.returns
  have hD := hD0.self (sz := s.heap.size)
  rw [lg_entry_eq]
  refine body p e s m _ below meth c (va_A ws s.heap.size) _ B.exec B.bytes hml (findClass_of_methodNamed B.named) (fun w hw => hts w (List.mem_cons_of_mem _ hw)) ⟨hK, hN, hT, fun q h => Or.inr h⟩ hP hD va_S.rf ?_ _ (lv_entry av (n := maxL) hlen)
  intro H locs pc ls hP9 hD9 hS hd
  exact W.vret B.exec B.bytes hr (fun t ht hW => ⟨⟨(), rfl, trivial, by rw [ht]; exact hP9, va_K.moved hW.alike hK, hD9⟩, hS.F ht⟩) hS.2.2 hd
theorem ct_metL {E : Ec} {y : MethodName} {cc : ByteArray} {maxL : Nat} {rm : Room} {av : List Value} {ws ws' : va_W} {sz : Nat} {r : Int64} (hy : plainName y.cls = true) (hlen : (lg_sl av).length ≤ maxL)
    (body : ∀ (p : Program) (e : Env) (s : State) (m : MethodId) (ar : Array Value) (below : List Frame) (meth : Method) (c : Code) (A : Nat → Prop) (QM : State → Prop), p.tables.exec = Jvm.exec → c.code = cc → c.maxLocals = maxL → s.vm.findClass y.cls = some m.cls → (∀ w ∈ gtbl, w.before ar s = true) → ctX E A s → va_P E.1 vwCl ws s.heap → va_D A ws → va_S A s.heap s.heap [] →
      (∀ (H : Heap) (locs : List Loc) (pc : Nat) (ls : Array Slot), va_P E.1 vwCl ws' H → va_D A ws' → va_S A s.heap H locs → decode cc pc = .ok (.lreturn, 1) → W p l e rm s m ar below meth c H locs 0 0 QM (F0 m pc ls [.long r])) →
      ∀ ls : Array Slot, lv_has ls maxL (lv_args 0 av) → W p l e rm s m ar below meth c s.heap [] 0 0 QM (F0 m 0 ls [])) :
    Met l y (wsM (.code y cc maxL (some .long))) rm (va_Pc av (ctP E ws sz)) (ctL E ws ws' sz r) 0 0 (va_A ws sz) := by
  refine Met.ofW (cc := cc) (maxL := maxL) (ret := some .long) hy rfl ?_
  intro p e s m args below meth c s₁ B hml hv
  obtain ⟨rfl, hsz, hP, hK, hD0, hN, hT⟩ := hv
  subst hsz
  have hts := atoms_spec (ws := wsM (.code y cc maxL (some .long))) B.pre
  have hlocks := B.notSynchronized
  have hr := B.returns
  have hD := hD0.self (sz := s.heap.size)
  rw [lg_entry_eq]
  refine body p e s m _ below meth c (va_A ws s.heap.size) _ B.exec B.bytes hml (findClass_of_methodNamed B.named) (fun w hw => hts w (List.mem_cons_of_mem _ hw)) ⟨hK, hN, hT, fun q h => Or.inr h⟩ hP hD va_S.rf ?_ _ (lv_entry av (n := maxL) hlen)
  intro H locs pc ls hP9 hD9 hS hd
  exact W.lret B.exec B.bytes hr (fun t ht hW => ⟨⟨r, (), rfl, rfl, by rw [ht]; exact hP9, va_K.moved hW.alike hK, hD9⟩, hS.F ht⟩) hS.2.2 hd
end CT
