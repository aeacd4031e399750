/-! ===== THE LOGIC: a small world of cells by their numbers; mOk: from here the method comes to its end with Q; mCl: a call does ===== -/
/-- the cells' kinds and sizes; references; ints; longs: by the cell's number and the place -/
abbrev mi_H : Type := List (Nat × Nat) × (Nat → Nat → Option Nat) × (Nat → Nat → Int32) × (Nat → Nat → Int64)
def mi_e (base : Nat) (v : Value) : Value := match v with
  | .ref k => .ref (base + k)
  | w => w
theorem mi_e_cat (base : Nat) (v : Value) : (mi_e base v).category = v.category := by cases v <;> rfl
def mi_o (base : Nat) (r : Option Nat) : Option Nat := r.map (fun k => base + k)
def mi_fv (base : Nat) (P : Nat → Option Nat) (I : Nat → Int32) (ci k : Nat) : Value := match mi_rf ci k with
  | true => va_rf (mi_o base (P k))
  | false => .int (I k)
def mi_cc (base : Nat) (cy : Nat → ClassId) (P : Nat → Option Nat) (I : Nat → Int32) (J : Nat → Int64) (q : Nat × Nat) : va_E :=
  if q.1 < 10 then .inr (q.1, (List.range q.2).map (mi_fv base P I q.1))
  else if q.1 = 10 then .inl (cy 0, q.2, .inl I)
  else if q.1 = 11 then .inl (cy 1, q.2, .inr (.inl J))
  else if q.1 = 12 then .inl (cy 2, q.2, .inl I)
  else if q.1 = 13 then .inl (cy 3, q.2, .inr (.inr (.inr (.inr (fun j => mi_o base (P j))))))
  else .inl (cy 4, q.2, .inr (.inr (.inr (.inr (fun j => mi_o base (P j))))))
theorem mi_cc_o {base : Nat} {cy : Nat → ClassId} {P : Nat → Option Nat} {I : Nat → Int32} {J : Nat → Int64} {ci N : Nat} (h : ci < 10) : mi_cc base cy P I J (ci, N) = .inr (ci, (List.range N).map (mi_fv base P I ci)) := if_pos h
def mi_P (D : va_G) (base : Nat) (cy : Nat → ClassId) (h : mi_H) (H : Heap) : Prop := H.size = base + h.1.length ∧ ∀ (a : Nat) (q : Nat × Nat), h.1[a]? = some q → va_at D vwCl (base + a, mi_cc base cy (h.2.1 a) (h.2.2.1 a) (h.2.2.2 a) q) H
def mi_tys (cy : Nat → ClassId) : List (ClassId × FieldType) := [(cy 0, .int), (cy 1, .long), (cy 2, .boolean), (cy 3, .object RX0), (cy 4, .object RX5)]
def mi_K (D : va_G) (cy : Nat → ClassId) (s : State) : Prop := va_K D vwCl (mi_tys cy) s ∧ va_AO RX0 s ∧ va_AO RX5 s ∧ ∀ w ∈ mi_nest, va_Nw w s
theorem mi_nest_w {w : Cond} (h : w ∈ mi_nest) : ∃ (a : String) (i : Nat) (y : MethodName) (b : String), w = .methodLinkNest a i y b := by
  simp only [mi_nest, List.mem_cons, List.not_mem_nil, or_false] at h
  rcases h with rfl | rfl | rfl | rfl <;> exact ⟨_, _, _, _, rfl⟩
theorem mi_K.warm {D : va_G} {cy : Nat → ClassId} {s U : State} (hW : s.WarmedH U.vm) (h : mi_K D cy s) : mi_K D cy U :=
  ⟨va_K.moved hW.alike h.1, va_AO.moved hW.alike h.2.1, va_AO.moved hW.alike h.2.2.1, fun w hw => by
    obtain ⟨a, i, y, b, rfl⟩ := mi_nest_w hw
    exact va_Nw.warmM hW (h.2.2.2 _ hw)⟩
theorem mi_K.same {D : va_G} {cy : Nat → ClassId} {s U : State} (hW : s.vm = U.vm) (h : mi_K D cy s) : mi_K D cy U :=
  ⟨va_K.moved (hW ▸ Vm.Alike.refl s.vm) h.1, va_AO.moved (hW ▸ Vm.Alike.refl s.vm) h.2.1, va_AO.moved (hW ▸ Vm.Alike.refl s.vm) h.2.2.1, fun w hw => by
    obtain ⟨a, i, y, b, rfl⟩ := mi_nest_w hw
    exact va_Nw.same rfl hW (h.2.2.2 _ hw)⟩
def mi_X (M : mi_M) (p : Program) (s : State) (m : MethodId) (args : Array Value) (meth : Method) (c : Code) : Prop :=
  p.tables.exec = Jvm.exec ∧ c.code = M.2.1 ∧ c.maxLocals = M.2.2.1 ∧ meth.sig.returnType = M.2.2.2 ∧ s.vm.findClass M.1.cls = some m.cls ∧ (∀ w ∈ gw, w.before args s = true) ∧ meth.locks = false ∧ meth.name = M.1.name
def mi_A (base : Nat) : Nat → Prop := fun q => base ≤ q
def mi_Q (D : va_G) (base : Nat) (cy : Nat → ClassId) (Q : Option Value → mi_H → Prop) : Array Value → State → Outcome → State → Prop := fun _ st oc t => (∃ (r : Option Value) (h' : mi_H), oc = .returned (r.map (mi_e base)) ∧ Q r h' ∧ mi_P D base cy h' t.heap) ∧ va_F (mi_A base) st t
def mi_L (base : Nat) (ls : Array Slot) (nL : Nat) (L : List (Option Value)) : Prop := ls.size = nL ∧ lv_wf ls ∧ ∀ (i : Nat) (v : Value), L[i]? = some (some v) → ls[i]? = some (.val (mi_e base v))
def mi_R (d mc ms : Nat) : Room := { frames := d, cells := mc, slots := ms, locals := 40 * d }
/-- from pc, with locals L, stack st, world h, n cells of k slots made: the method ends with Q -/
def mOk (M : mi_M) (d mc ms : Nat) (pc : Nat) (L : List (Option Value)) (st : List Value) (h : mi_H) (n k : Nat) (Q : Option Value → mi_H → Prop) : Prop :=
  ∀ (D : va_G) (base : Nat) (cy : Nat → ClassId) (p : Program) (l : Launch) (e : Env) (s : State) (m : MethodId) (args : Array Value) (below : List Frame) (meth : Method) (c : Code) (H : Heap) (locs : List Loc) (ls : Array Slot),
    mi_X M p s m args meth c → mi_K D cy s → mi_P D base cy h H → va_S (mi_A base) s.heap H locs → base ≤ s.heap.size → mi_L base ls M.2.2.1 L →
    W p l e (mi_R d mc ms) s m args below meth c H locs n k (MQ below (mi_Q D base cy Q) args s mc ms (mi_A base)) (F0 m pc ls (st.map (mi_e base)))
/-- a call of M with these arguments in the world h ends with Q -/
def mCl (M : mi_M) (d mc ms : Nat) (as : List Value) (h : mi_H) (Q : Option Value → mi_H → Prop) : Prop :=
  ∀ (D : va_G) (base : Nat) (cy : Nat → ClassId) (l : Launch), Met l M.1 (.code M.1 M.2.1 M.2.2.1 M.2.2.2 :: gw) (mi_R d mc ms) (va_Pc (as.map (mi_e base)) (fun U => base ≤ U.heap.size ∧ mi_P D base cy h U.heap ∧ mi_K D cy U)) (mi_Q D base cy Q) mc ms (mi_A base)
/-- a cell is written: what is around it stays -/
theorem mi_P.set {D : va_G} {base : Nat} {cy : Nat → ClassId} {h h' : mi_H} {H H' : Heap} {a : Nat} (hP : mi_P D base cy h H) (h1 : h'.1 = h.1) (hz : H'.size = H.size) (oq : ∀ q, q ≠ base + a → H'[q]? = H[q]?)
    (hne : ∀ b, b ≠ a → h'.2.1 b = h.2.1 b ∧ h'.2.2.1 b = h.2.2.1 b ∧ h'.2.2.2 b = h.2.2.2 b) (hat : ∀ q, h.1[a]? = some q → va_at D vwCl (base + a, mi_cc base cy (h'.2.1 a) (h'.2.2.1 a) (h'.2.2.2 a) q) H') : mi_P D base cy h' H' := by
  refine ⟨by rw [hz, hP.1, h1], fun b q hb => ?_⟩
  rw [h1] at hb
  by_cases e : b = a
  · subst e
    exact hat q hb
  · obtain ⟨e1, e2, e3⟩ := hne b e
    rw [e1, e2, e3]
    exact (hP.2 b q hb).kept (oq _ (fun z => e (by omega)))
/-- a cell comes -/
theorem mi_P.push {D : va_G} {base : Nat} {cy : Nat → ClassId} {h h' : mi_H} {H H' : Heap} {q0 : Nat × Nat} (hP : mi_P D base cy h H) (h1 : h'.1 = h.1 ++ [q0]) (hz : H'.size = H.size + 1) (oq : ∀ q, q < H.size → H'[q]? = H[q]?)
    (hne : ∀ b, b ≠ h.1.length → h'.2.1 b = h.2.1 b ∧ h'.2.2.1 b = h.2.2.1 b ∧ h'.2.2.2 b = h.2.2.2 b) (hat : va_at D vwCl (base + h.1.length, mi_cc base cy (h'.2.1 h.1.length) (h'.2.2.1 h.1.length) (h'.2.2.2 h.1.length) q0) H') : mi_P D base cy h' H' := by
  refine ⟨by rw [hz, hP.1, h1]; simp [Nat.add_assoc], fun b q hb => ?_⟩
  rw [h1] at hb
  by_cases e : b = h.1.length
  · subst e
    rw [List.getElem?_append_right (Nat.le_refl _)] at hb
    simp at hb
    subst hb
    exact hat
  · obtain ⟨e1, e2, e3⟩ := hne b e
    have hl : b < (h.1 ++ [q0]).length := (List.getElem?_eq_some_iff.mp hb).1
    simp at hl
    have hb2 : b < h.1.length := by omega
    rw [List.getElem?_append_left hb2] at hb
    rw [e1, e2, e3]
    exact (hP.2 b q hb).kept (oq _ (by rw [hP.1]; omega))
theorem mi_S.push {base : Nat} {H0 H H' : Heap} {locs : List Loc} (hS : va_S (mi_A base) H0 H locs) (hz : H'.size = H.size + 1) (oq : ∀ q, q < H.size → H'[q]? = H[q]?) : va_S (mi_A base) H0 H' locs :=
  ⟨by rw [hz]; exact Nat.le_succ_of_le hS.1, fun q h1 h2 => (oq q (Nat.lt_of_lt_of_le h1 hS.1)).trans (hS.2.1 q h1 h2), hS.2.2⟩
/-! locals -/
def mi_al (base : Nat) (L : List (Option Value)) : List (Nat × Value) := (List.range L.length).filterMap (fun j => match L[j]? with
  | some (some v) => some (j, mi_e base v)
  | _ => none)
theorem mi_al_in {base : Nat} {L : List (Option Value)} {q : Nat × Value} : q ∈ mi_al base L ↔ ∃ v, L[q.1]? = some (some v) ∧ q.2 = mi_e base v := by
  unfold mi_al
  rw [List.mem_filterMap]
  constructor
  · rintro ⟨j, hj, h⟩
    split at h
    · next v hv => cases h; exact ⟨v, hv, rfl⟩
    · cases h
  · rintro ⟨v, hv, h2⟩
    refine ⟨q.1, List.mem_range.mpr (List.getElem?_eq_some_iff.mp hv).1, ?_⟩
    rw [hv]
    show some (q.1, mi_e base v) = some q
    rw [← h2]
theorem mi_L.has {base : Nat} {ls : Array Slot} {nL : Nat} {L : List (Option Value)} (h : mi_L base ls nL L) : lv_has ls nL (mi_al base L) := ⟨h.1, h.2.1, fun q hq => by
  obtain ⟨v, hv, e⟩ := mi_al_in.mp hq
  rw [e]
  exact h.2.2 q.1 v hv⟩
def mi_s (L : List (Option Value)) (i : Nat) : Bool := match i with
  | 0 => true
  | j + 1 => match L[j]? with
    | some (some v) => v.category != 2
    | _ => true
theorem mi_s_ne {L : List (Option Value)} {i j : Nat} {v : Value} (hs : mi_s L i = true) (hv : L[j]? = some (some v)) : ¬ (j + 1 = i ∧ v.category = 2) := by
  rintro ⟨rfl, h2⟩
  simp [mi_s, hv, h2] at hs
theorem mi_L.of1 {base : Nat} {ls : Array Slot} {nL : Nat} {L : List (Option Value)} {i : Nat} {v : Value} (hs : mi_s L i = true) (h : lv_has ls nL ((i, mi_e base v) :: (mi_al base L).filter (fun q => !(q.1 == i) && !(q.1 + 1 == i && q.2.category == 2)))) : mi_L base ls nL (L.set i (some v)) := by
  refine ⟨h.1, h.2.1, fun j w hw => ?_⟩
  by_cases e : i = j
  · subst e
    by_cases hl : i < L.length
    · rw [List.getElem?_set_self hl] at hw
      cases hw
      exact h.2.2 _ List.mem_cons_self
    · rw [List.set_eq_of_length_le (Nat.le_of_not_lt hl)] at hw
      exact absurd (List.getElem?_eq_some_iff.mp hw).1 hl
  · rw [List.getElem?_set_ne e] at hw
    refine h.2.2 (j, mi_e base w) (List.mem_cons_of_mem _ (List.mem_filter.mpr ⟨mi_al_in.mpr ⟨w, hw, rfl⟩, ?_⟩))
    have := mi_s_ne hs hw
    simp [mi_e_cat]
    exact ⟨fun z => e z.symm, Decidable.not_and_iff_or_not.mp this⟩
theorem mi_L.of2 {base : Nat} {ls : Array Slot} {nL : Nat} {L : List (Option Value)} {i : Nat} {v : Value} (hs : mi_s L i = true) (h : lv_has ls nL ((i, mi_e base v) :: (mi_al base L).filter (fun q => !(q.1 == i) && (!(q.1 == i + 1) && !(q.1 + 1 == i && q.2.category == 2))))) : mi_L base ls nL ((L.set i (some v)).set (i + 1) none) := by
  refine ⟨h.1, h.2.1, fun j w hw => ?_⟩
  by_cases e2 : i + 1 = j
  · subst e2
    by_cases hl : i + 1 < (L.set i (some v)).length
    · rw [List.getElem?_set_self hl] at hw
      cases hw
    · rw [List.set_eq_of_length_le (Nat.le_of_not_lt hl)] at hw
      exact absurd (List.getElem?_eq_some_iff.mp hw).1 hl
  rw [List.getElem?_set_ne e2] at hw
  by_cases e : i = j
  · subst e
    by_cases hl : i < L.length
    · rw [List.getElem?_set_self hl] at hw
      cases hw
      exact h.2.2 _ List.mem_cons_self
    · rw [List.set_eq_of_length_le (Nat.le_of_not_lt hl)] at hw
      exact absurd (List.getElem?_eq_some_iff.mp hw).1 hl
  · rw [List.getElem?_set_ne e] at hw
    refine h.2.2 (j, mi_e base w) (List.mem_cons_of_mem _ (List.mem_filter.mpr ⟨mi_al_in.mpr ⟨w, hw, rfl⟩, ?_⟩))
    have := mi_s_ne hs hw
    simp [mi_e_cat]
    exact ⟨fun z => e z.symm, fun z => e2 z.symm, Decidable.not_and_iff_or_not.mp this⟩
/-! a method's entry -/
def mi_in (as : List Value) (nL : Nat) : List (Option Value) := as.map some ++ List.replicate (nL - as.length) none
theorem mi_args : ∀ (vs : List Value) (i j : Nat) (v : Value), (vs.all fun v => v.category == 1) = true → vs[j]? = some v → (i + j, v) ∈ lv_args i vs
  | [], i, j, v, _, h => by simp at h
  | x :: vs, i, 0, v, _, h => by
    simp at h
    subst h
    exact List.mem_cons_self
  | x :: vs, i, j + 1, v, ha, h => by
    simp only [List.all_cons, Bool.and_eq_true, beq_iff_eq] at ha
    have h2 := mi_args vs (i + 1) j v ha.2 (by simpa using h)
    show _ ∈ (i, x) :: lv_args (if x.category = 2 then i + 2 else i + 1) vs
    rw [if_neg (by rw [ha.1]; decide)]
    refine List.mem_cons_of_mem _ ?_
    rw [show i + (j + 1) = i + 1 + j by omega]
    exact h2
theorem mi_sl : ∀ (vs : List Value), (vs.all fun v => v.category == 1) = true → (lg_sl vs).length = vs.length
  | [], _ => rfl
  | x :: vs, ha => by
    simp only [List.all_cons, Bool.and_eq_true, beq_iff_eq] at ha
    have := mi_sl vs ha.2
    simp [lg_sl, ha.1] at this ⊢
    exact this
theorem mi_all (base : Nat) (vs : List Value) (ha : (vs.all fun v => v.category == 1) = true) : ((vs.map (mi_e base)).all fun v => v.category == 1) = true := by
  rw [List.all_map]
  simp only [List.all_eq_true] at ha ⊢
  intro x hx
  simpa [mi_e_cat] using ha x hx
theorem mCl.of {M : mi_M} {d mc ms : Nat} {as : List Value} {h : mi_H} {Q : Option Value → mi_H → Prop} (hy : plainName M.1.cls = true) (ha : (as.all fun v => v.category == 1) = true) (hn : as.length ≤ M.2.2.1) (kk : mOk M d mc ms 0 (mi_in as M.2.2.1) [] h 0 0 Q) : mCl M d mc ms as h Q := by
  intro D base cy l
  refine Met.ofW (cc := M.2.1) (maxL := M.2.2.1) (ret := M.2.2.2) hy rfl ?_
  intro p e s m args below meth c s₁ B hml hv
  obtain ⟨rfl, hB, hP, hK⟩ := hv
  have ha2 := mi_all base as ha
  have hl := lv_entry (as.map (mi_e base)) (n := M.2.2.1) (by rw [mi_sl _ ha2, List.length_map]; exact hn)
  rw [lg_entry_eq]
  refine kk D base cy p l e s m _ below meth c s.heap [] _ ⟨B.exec, B.bytes, hml, B.returns, findClass_of_methodNamed B.named, fun w hw => atoms_spec (ws := _) B.pre w (List.mem_cons_of_mem _ hw), B.notSynchronized, (name_of_methodNamed B.named B.method).1⟩ hK hP va_S.rf hB ⟨hl.1, hl.2.1, fun i v hv => ?_⟩
  have hi : i < as.length := by
    unfold mi_in at hv
    rcases Nat.lt_or_ge i as.length with q | q
    · exact q
    · rw [List.getElem?_append_right (by simpa using q)] at hv
      have := List.eq_of_mem_replicate (List.mem_of_getElem? hv)
      cases this
  have hv2 : as[i]? = some v := by
    unfold mi_in at hv
    rw [List.getElem?_append_left (by simpa using hi), List.getElem?_map] at hv
    cases hz : as[i]? with
    | none => rw [hz] at hv; cases hv
    | some w => rw [hz] at hv; cases hv; rfl
  have h3 := mi_args (as.map (mi_e base)) 0 i (mi_e base v) ha2 (by rw [List.getElem?_map, hv2]; rfl)
  rw [Nat.zero_add] at h3
  exact hl.2.2 _ h3
theorem mOk.mono {M : mi_M} {d mc ms pc n k : Nat} {L : List (Option Value)} {st : List Value} {h : mi_H} {Q Q' : Option Value → mi_H → Prop} (hq : ∀ r h', Q r h' → Q' r h') (kk : mOk M d mc ms pc L st h n k Q) : mOk M d mc ms pc L st h n k Q' := by
  intro D base cy p l e s m args below meth c H locs ls hX hK hP hS hB hL T hT X
  obtain ⟨t, a, o, b1, b2, ⟨⟨r, h', g1, g2, g3⟩, g4⟩, b4⟩ := kk D base cy p l e s m args below meth c H locs ls hX hK hP hS hB hL T hT X
  exact ⟨t, a, o, b1, b2, ⟨⟨r, h', g1, hq _ _ g2, g3⟩, g4⟩, b4⟩
