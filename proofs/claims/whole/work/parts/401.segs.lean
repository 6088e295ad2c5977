/-! worlds as rows of groups: for the law's loop -/
def fl : List va_W → va_W
  | [] => []
  | [x] => x
  | x :: y :: r => x ++ fl (y :: r)
def sP (E : Ec) (gs : List va_W) (H : Heap) : Prop := ∀ (k : Nat) (g : va_W), gs[k]? = some g → va_P E.1 vwCl g H
def sD (A : Nat → Prop) (gs : List va_W) : Prop := (∀ (k : Nat) (g : va_W), gs[k]? = some g → va_D A g) ∧ ∀ (i j : Nat) (g h : va_W), i ≠ j → gs[i]? = some g → gs[j]? = some h → ∀ (a b : Nat) (p q : Nat × va_E), g[a]? = some p → h[b]? = some q → p.1 ≠ q.1
theorem fl_mem : ∀ (gs : List va_W) (k : Nat) (q : Nat × va_E), (fl gs)[k]? = some q → ∃ (i a : Nat) (g : va_W), gs[i]? = some g ∧ g[a]? = some q := by
  intro gs
  induction gs with
  | nil => intro k q h; simp [fl] at h
  | cons x r ih =>
    intro k q h
    cases r with
    | nil => exact ⟨0, k, x, rfl, h⟩
    | cons y r =>
      have h : (x ++ fl (y :: r))[k]? = some q := h
      rcases Nat.lt_or_ge k x.length with hk | hk
      · rw [List.getElem?_append_left hk] at h; exact ⟨0, k, x, rfl, h⟩
      · rw [List.getElem?_append_right hk] at h
        obtain ⟨i, a, g, h1, h2⟩ := ih _ q h
        exact ⟨i + 1, a, g, h1, h2⟩
theorem fl_in : ∀ (gs : List va_W) (i : Nat) (g : va_W) (a : Nat) (q : Nat × va_E), gs[i]? = some g → g[a]? = some q → ∃ k : Nat, (fl gs)[k]? = some q := by
  intro gs
  induction gs with
  | nil => intro i g a q h; simp at h
  | cons x r ih =>
    intro i g a q h1 h2
    cases r with
    | nil =>
      cases i with
      | zero => cases h1; exact ⟨a, h2⟩
      | succ i => simp at h1
    | cons y r =>
      cases i with
      | zero =>
        cases h1
        exact ⟨a, by show (x ++ fl (y :: r))[a]? = some q; rw [List.getElem?_append_left (List.getElem?_eq_some_iff.mp h2).1]; exact h2⟩
      | succ i =>
        obtain ⟨k, hk⟩ := ih i g a q h1 h2
        exact ⟨x.length + k, by show (x ++ fl (y :: r))[x.length + k]? = some q; rw [List.getElem?_append_right (Nat.le_add_right _ _), Nat.add_sub_cancel_left]; exact hk⟩
theorem fl_P {E : Ec} {H : Heap} {gs : List va_W} (h : sP E gs H) : va_P E.1 vwCl (fl gs) H := fun k q hk => by
  obtain ⟨i, a, g, h1, h2⟩ := fl_mem gs k q hk
  exact h i g h1 a q h2
theorem P_fl {E : Ec} {H : Heap} {gs : List va_W} (h : va_P E.1 vwCl (fl gs) H) : sP E gs H := fun i g hg a q hq => by
  obtain ⟨k, hk⟩ := fl_in gs i g a q hg hq
  exact h k q hk
theorem fl_D {A : Nat → Prop} : ∀ {gs : List va_W}, sD A gs → va_D A (fl gs) := by
  intro gs
  induction gs with
  | nil => intro _; exact ct_nilD
  | cons x r ih =>
    intro h
    cases r with
    | nil => exact h.1 0 x rfl
    | cons y r =>
      refine va_D.app (h.1 0 x rfl) (ih ⟨fun k g hk => h.1 (k + 1) g hk, fun i j g g' hn hi hj => h.2 (i + 1) (j + 1) g g' (by omega) hi hj⟩) ?_
      intro i j p q hp hq
      obtain ⟨i', a, g, h1, h2⟩ := fl_mem _ _ _ hq
      exact h.2 0 (i' + 1) x g (by omega) rfl h1 i a p q hp h2
theorem sD.same {A : Nat → Prop} {gs gs' : List va_W} (h : sD A gs) (ha : gs'.map (fun g => g.map (fun q => q.1)) = gs.map (fun g => g.map (fun q => q.1))) : sD A gs' := by
  have key : ∀ (k : Nat) (g : va_W), gs'[k]? = some g → ∃ g0, gs[k]? = some g0 ∧ g.map (fun q => q.1) = g0.map (fun q => q.1) := by
    intro k g hk
    have h1 : (gs'.map (fun g => g.map (fun q => q.1)))[k]? = some (g.map (fun q => q.1)) := by rw [List.getElem?_map, hk]; rfl
    rw [ha, List.getElem?_map] at h1
    cases hg : gs[k]? with
    | none => rw [hg] at h1; cases h1
    | some g0 => rw [hg] at h1; exact ⟨g0, rfl, (Option.some.inj h1).symm⟩
  have el : ∀ (g g0 : va_W), g.map (fun q => q.1) = g0.map (fun q => q.1) → ∀ (a : Nat) (p : Nat × va_E), g[a]? = some p → ∃ p0, g0[a]? = some p0 ∧ p0.1 = p.1 := by
    intro g g0 hm a p hp
    have h1 : (g.map (fun q => q.1))[a]? = some p.1 := by rw [List.getElem?_map, hp]; rfl
    rw [hm, List.getElem?_map] at h1
    cases hg : g0[a]? with
    | none => rw [hg] at h1; cases h1
    | some p0 => rw [hg] at h1; exact ⟨p0, rfl, by simpa using h1⟩
  refine ⟨fun k g hk => ?_, fun i j g g' hn hi hj a b p q hp hq => ?_⟩
  · obtain ⟨g0, h1, h2⟩ := key k g hk
    have hd := h.1 k g0 h1
    refine ⟨fun i j p q hp hq he => ?_, fun k q hq => ?_⟩
    · obtain ⟨p0, hp0, ep⟩ := el g g0 h2 i p hp
      obtain ⟨q0, hq0, eq⟩ := el g g0 h2 j q hq
      exact hd.1 i j p0 q0 hp0 hq0 (by rw [ep, eq, he])
    · obtain ⟨q0, hq0, eq⟩ := el g g0 h2 k q hq
      rw [← eq]; exact hd.2 k q0 hq0
  · obtain ⟨g0, h1, h2⟩ := key i g hi
    obtain ⟨g1, h3, h4⟩ := key j g' hj
    obtain ⟨p0, hp0, ep⟩ := el g g0 h2 a p hp
    obtain ⟨q0, hq0, eq⟩ := el g' g1 h4 b q hq
    rw [← ep, ← eq]
    exact h.2 i j g0 g1 hn h1 h3 a b p0 q0 hp0 hq0
theorem sg_set : ∀ (js : List Nat) (g1 gs : List va_W) (k : Nat) (q : va_W), js.length = g1.length → ((js.zip g1).foldl (fun a p => a.set p.1 p.2) gs)[k]? = some q → (∃ j : Nat, js[j]? = some k ∧ g1[j]? = some q) ∨ (k ∉ js ∧ gs[k]? = some q) := by
  intro js
  induction js with
  | nil => intro w1 ws k q _ h; exact Or.inr ⟨List.not_mem_nil, h⟩
  | cons i js ih =>
    intro w1 ws k q hl h
    cases w1 with
    | nil => cases hl
    | cons w w1 =>
      rcases ih w1 (ws.set i w) k q (Nat.succ.inj hl) h with ⟨j, h1, h2⟩ | ⟨h1, h2⟩
      · exact Or.inl ⟨j + 1, h1, h2⟩
      · by_cases hk : i = k
        · subst hk
          rw [List.getElem?_set_self'] at h2
          cases hw : ws[i]? with
          | none => rw [hw] at h2; cases h2
          | some z => rw [hw] at h2; exact Or.inl ⟨0, rfl, by simpa using h2⟩
        · rw [List.getElem?_set_ne hk] at h2
          exact Or.inr ⟨fun hm => (List.mem_cons.mp hm).elim (fun e => hk e.symm) h1, h2⟩
theorem sg_in {gs gc : List va_W} {js : List Nat} (hC : js.map (fun i => gs[i]?) = gc.map some) {j : Nat} {q : va_W} (h : gc[j]? = some q) : ∃ i : Nat, js[j]? = some i ∧ gs[i]? = some q := by
  have h1 : (js.map (fun i => gs[i]?))[j]? = some (some q) := by rw [hC]; simp [h]
  rw [List.getElem?_map] at h1
  cases hi : js[j]? with
  | none => rw [hi] at h1; cases h1
  | some i => rw [hi] at h1; exact ⟨i, rfl, by simpa using h1⟩
theorem sg_cP {E : Ec} {H : Heap} {gs gc : List va_W} (hP : sP E gs H) {js : List Nat} (hC : js.map (fun i => gs[i]?) = gc.map some) : sP E gc H := fun k g hk => by
  obtain ⟨i, -, hi⟩ := sg_in hC hk
  exact hP i g hi
theorem nd_inj : ∀ {js : List Nat}, js.Nodup → ∀ {i j k : Nat}, js[i]? = some k → js[j]? = some k → i = j := by
  intro js hn i j k hi hj
  obtain ⟨h1, e1⟩ := List.getElem?_eq_some_iff.mp hi
  obtain ⟨h2, e2⟩ := List.getElem?_eq_some_iff.mp hj
  rcases Nat.lt_trichotomy i j with h | h | h
  · exact absurd (e1.trans e2.symm) (List.pairwise_iff_getElem.mp hn i j h1 h2 h)
  · exact h
  · exact absurd (e2.trans e1.symm) (List.pairwise_iff_getElem.mp hn j i h2 h1 h)
theorem sg_cD {A : Nat → Prop} {gs gc : List va_W} (hD : sD A gs) {js : List Nat} (hn : js.Nodup) (hC : js.map (fun i => gs[i]?) = gc.map some) : sD A gc := by
  refine ⟨fun k g hk => ?_, fun i j g h hij hi hj => ?_⟩
  · obtain ⟨i, -, hi⟩ := sg_in hC hk
    exact hD.1 i g hi
  · obtain ⟨i', a1, b1⟩ := sg_in hC hi
    obtain ⟨j', a2, b2⟩ := sg_in hC hj
    exact hD.2 i' j' g h (fun e => hij (nd_inj hn a1 (e ▸ a2))) b1 b2
theorem sg_free {E : Ec} {A : Nat → Prop} {s : State} {H : Heap} {locs : List Loc} {gc : List va_W} (X : ctX E A s) (hD : sD A gc) (hS : va_S A s.heap H locs) : ∀ q, va_A (fl gc) H.size q → A q := ct_freeA X (fl_D hD) hS
theorem sg_pre {E : Ec} {A : Nat → Prop} {s : State} {H : Heap} {locs : List Loc} {gs gc : List va_W} (X : ctX E A s) (hP : sP E gs H) (hD : sD A gs) (hS : va_S A s.heap H locs) (js : List Nat) (hn : js.Nodup) (hC : js.map (fun i => gs[i]?) = gc.map some) (av : List Value) : ∀ U : State, U.heap = H → s.WarmedH U.vm → va_Pc av (ctP E (fl gc) H.size) av.toArray U :=
  ct_preA X (fl_P (sg_cP hP hC)) (fl_D (sg_cD hD hn hC)) hS av
theorem sg_back {E : Ec} {A : Nat → Prop} {H H1 : Heap} {gs gc g1 gs' : List va_W} (hP : sP E gs H) (hD : sD A gs) (js : List Nat) (hC : js.map (fun i => gs[i]?) = gc.map some)
    (ha : gs'.map (fun g => g.map (fun q => q.1)) = gs.map (fun g => g.map (fun q => q.1))) (hl : js.length = g1.length) (hw : (js.zip g1).foldl (fun a p => a.set p.1 p.2) gs = gs')
    (hk : ∀ q : Nat, q < H.size → ¬ va_A (fl gc) H.size q → H1[q]? = H[q]?) (hP1 : va_P E.1 vwCl (fl g1) H1) : sP E gs' H1 ∧ sD A gs' := by
  refine ⟨?_, hD.same ha⟩
  subst hw
  intro k g hg
  rcases sg_set js g1 gs k g hl hg with ⟨j, -, h2⟩ | ⟨h1, h2⟩
  · exact P_fl hP1 j g h2
  · intro a q hq
    have hat := hP k g h2 a q hq
    refine hat.kept (hk q.1 hat.lt ?_)
    rintro (⟨k', e', hk'⟩ | hge)
    · obtain ⟨i, a', g', hi, ha'⟩ := fl_mem gc k' _ hk'
      obtain ⟨i', hj, hi'⟩ := sg_in hC hi
      exact hD.2 k i' g g' (fun e => h1 (e ▸ List.mem_of_getElem? hj)) h2 hi' a a' q (q.1, e') hq ha' rfl
    · exact absurd hat.lt (Nat.not_lt.mpr hge)
theorem sP.perm {E : Ec} {H : Heap} {gs gs' : List va_W} (h : sP E gs H) (js : List Nat) (hC : js.map (fun i => gs[i]?) = gs'.map some) : sP E gs' H := sg_cP h hC
section CT4
variable {p : Program} {l : Launch} {e : Env} {R : Room} {s : State} {m : MethodId} {args : Array Value} {below : List Frame} {meth : Method} {c : Code} {H : Heap} {locs : List Loc} {cells slots : Nat} {Q : State → Prop} {pc : Nat} {ls : Array Slot} {rest st0 : List Value}
theorem sg_i {E : Ec} {A : Nat → Prop} {gs gc g1 gs' : List va_W} {r : Int32} {a : Array Value} (X : ctX E A s) (hP : sP E gs H) (hD : sD A gs) (hS : va_S A s.heap H locs) (js : List Nat) (hn : js.Nodup)
    (hr : va_Run p l e R s m args below meth c H locs cells slots 0 0 (F0 m pc ls st0) rest (ctI E (fl gc) (fl g1) H.size r a) (va_A (fl gc) H.size))
    (hC : js.map (fun i => gs[i]?) = gc.map some) (ha : gs'.map (fun g => g.map (fun q => q.1)) = gs.map (fun g => g.map (fun q => q.1))) (hl : js.length = g1.length) (hw : (js.zip g1).foldl (fun a p => a.set p.1 p.2) gs = gs')
    (kk : ∀ (H1 : Heap) (locs1 : List Loc), sP E gs' H1 → sD A gs' → va_S A s.heap H1 locs1 → W p l e R s m args below meth c H1 locs1 cells slots Q (F0 m (pc + 3) ls (.int r :: rest))) :
    W p l e R s m args below meth c H locs cells slots Q (F0 m pc ls st0) := by
  have hF := sg_free X (sg_cD hD hn hC) hS
  refine va_calli hr hS (fun q _ h => hF q h) hF (fun r2 u t H1 locs1 ht hvm hw2 hB hz1 hk1 hS1 => ?_)
  obtain ⟨hP1, -, -⟩ := hB
  rw [ht] at hP1
  obtain ⟨hP2, hD2⟩ := sg_back hP hD js hC ha hl hw hk1 hP1
  rw [hw2]
  exact kk H1 locs1 hP2 hD2 hS1
theorem sg_l {E : Ec} {A : Nat → Prop} {gs gc g1 gs' : List va_W} {r : Int64} {a : Array Value} (X : ctX E A s) (hP : sP E gs H) (hD : sD A gs) (hS : va_S A s.heap H locs) (js : List Nat) (hn : js.Nodup)
    (hr : va_Run p l e R s m args below meth c H locs cells slots 0 0 (F0 m pc ls st0) rest (ctL E (fl gc) (fl g1) H.size r a) (va_A (fl gc) H.size))
    (hC : js.map (fun i => gs[i]?) = gc.map some) (ha : gs'.map (fun g => g.map (fun q => q.1)) = gs.map (fun g => g.map (fun q => q.1))) (hl : js.length = g1.length) (hw : (js.zip g1).foldl (fun a p => a.set p.1 p.2) gs = gs')
    (kk : ∀ (H1 : Heap) (locs1 : List Loc), sP E gs' H1 → sD A gs' → va_S A s.heap H1 locs1 → W p l e R s m args below meth c H1 locs1 cells slots Q (F0 m (pc + 3) ls (.long r :: rest))) :
    W p l e R s m args below meth c H locs cells slots Q (F0 m pc ls st0) := by
  have hF := sg_free X (sg_cD hD hn hC) hS
  refine va_calll hr hS (fun q _ h => hF q h) hF (fun r2 u t H1 locs1 ht hvm hw2 hB hz1 hk1 hS1 => ?_)
  obtain ⟨hP1, -, -⟩ := hB
  rw [ht] at hP1
  obtain ⟨hP2, hD2⟩ := sg_back hP hD js hC ha hl hw hk1 hP1
  rw [hw2]
  exact kk H1 locs1 hP2 hD2 hS1
theorem sg_rv {E : Ec} {gs : List va_W} {b ci : Nat} {fs : List Value} {q : vw_C} (hK : va_K E.1 vwCl (tys E) s) (hP : sP E gs H) (k : Nat) {g : va_W} (hg : gs[k]? = some g) (he : g[0]? = some (b, .inr (ci, fs))) (hc : vwCl[ci]? = some q) : ∃ cell : Cell, H[b]? = some cell ∧ cell.vm.isStatics = false ∧ s.vm.findClass q.1 = some cell.cls := va_recv hK (hP k g hg) hc he
end CT4
