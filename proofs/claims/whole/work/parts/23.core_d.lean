section MC
variable {M : mi_M} {d mc ms pc n k : Nat} {L : List (Option Value)} {st : List Value} {h : mi_H} {Q : Option Value → mi_H → Prop}
/-! what is made -/
def mi_nO (h : mi_H) (ci N : Nat) : mi_H := (h.1 ++ [(ci, N)], va_up h.2.1 h.1.length (fun _ => none), va_up h.2.2.1 h.1.length (fun _ => 0), h.2.2.2)
def mi_nI (h : mi_H) (kd N : Nat) : mi_H := (h.1 ++ [(kd, N)], h.2.1, va_up h.2.2.1 h.1.length (fun _ => 0), h.2.2.2)
def mi_nJ (h : mi_H) (N : Nat) : mi_H := (h.1 ++ [(11, N)], h.2.1, h.2.2.1, va_up h.2.2.2 h.1.length (fun _ => 0))
def mi_nR (h : mi_H) (kd N : Nat) : mi_H := (h.1 ++ [(kd, N)], va_up h.2.1 h.1.length (fun _ => none), h.2.2.1, h.2.2.2)
theorem mOk.new {idx ci N : Nat} (hd : decode M.2.1 pc = .ok (.new idx, 3)) (hl : mi_cn M.1.cls idx ci N) (hr : n + 1 ≤ mc ∧ k + N ≤ ms) (kk : mOk M d mc ms (pc + 3) L (.ref h.1.length :: st) (mi_nO h ci N) (n + 1) (k + N) Q) : mOk M d mc ms pc L st h n k Q := by
  intro D base cy p l e s m args below meth c H locs ls hX hK hP hS hB hL
  obtain ⟨C, T, ty0, hci, hcl, hlk, hinst, hini, hws, hty, htf⟩ := hl
  have hts := hX.2.2.2.2.2.1
  have hKn := hK.1.1 ci _ hcl
  refine W.newcK hX.1 hX.2.1 hX.2.2.2.2.1 (hts _ hlk) (hts _ hinst) (hts _ hini) rfl hd hr.1 hr.2 hKn.2.1 rfl fun H1 kC hkC e1 z1 o1 => ?_
  have hsz := hP.1
  refine W.eq (g2 := F0 m (pc + 3) ls ((Value.ref h.1.length :: st).map (mi_e base))) (by show F0 _ _ _ (Value.ref H.size :: _) = _; rw [hsz]; rfl) ?_
  refine kk D base cy p l e s m args below meth c H1 _ ls hX hK (hP.push (q0 := (ci, N)) rfl z1 o1 (fun b hb => ⟨va_up_n hb, va_up_n hb, rfl⟩) ?_) (mi_S.push hS z1 o1) hB hL
  rw [mi_cc_o hci]
  refine ⟨_, hcl, ?_⟩
  rw [hsz] at e1
  refine (u_born ty0 hts hws hKn hkC e1 hty).to fun j hj => ?_
  show defaultValue (ty0 j) = vp_V _ j
  unfold vp_V
  rw [List.getD_eq_getElem?_getD, mi_fs_at hj]
  show _ = mi_fv base ((mi_nO h ci N).2.1 h.1.length) ((mi_nO h ci N).2.2.1 h.1.length) ci j
  have e2 : (mi_nO h ci N).2.1 h.1.length = fun _ => none := va_up_s _ _ _
  have e3 : (mi_nO h ci N).2.2.1 h.1.length = fun _ => 0 := va_up_s _ _ _
  rw [e2, e3]
  unfold mi_fv
  have := htf j hj
  cases hb : mi_rf ci j with
  | true => rw [hb] at this; rcases this with ⟨x, hx⟩ | ⟨x, hx⟩ <;> rw [hx] <;> rfl
  | false => rw [hb] at this; rw [show ty0 j = .int from this]; rfl
theorem mOk.newaI {N : Nat} {i : Int32} (hd : decode M.2.1 pc = .ok (.newarray .int, 2)) (hi : i = nI N) (hN : N < 100000) (hr : n + 1 ≤ mc ∧ k + N ≤ ms) (kk : mOk M d mc ms (pc + 2) L (.ref h.1.length :: st) (mi_nI h 10 N) (n + 1) (k + N) Q) : mOk M d mc ms pc L (.int i :: st) h n k Q := by
  intro D base cy p l e s m args below meth c H locs ls hX hK hP hS hB hL
  subst hi
  have hsz := hP.1
  refine va_newaK hX.1 hX.2.1 (atype := .int) (hX.2.2.2.2.2.1 _ gw_aint) rfl hd rfl (nI_pos (show N < 2 ^ 31 by omega)) (nI_clamp (show N < 2 ^ 31 by omega)) (by show N * 4 ≤ _; omega) hr.1 hr.2 hsz fun H1 cA e1 z1 o1 hAr hNm => ?_
  have hcA : cA = cy 0 := Option.some.inj (hNm.symm.trans (hK.1.2 0 _ rfl).2)
  subst hcA
  rw [← hsz] at z1 o1
  refine kk D base cy p l e s m args below meth c H1 _ ls hX hK (hP.push (q0 := (10, N)) rfl z1 o1 (fun b hb => ⟨rfl, va_up_n hb, rfl⟩) ?_) (mi_S.push hS z1 o1) hB hL
  show H1[base + h.1.length]? = some (vp_cell (cy 0) (N, .inl ((mi_nI h 10 N).2.2.1 h.1.length)))
  rw [e1, show (mi_nI h 10 N).2.2.1 h.1.length = fun _ => 0 from va_up_s _ _ _]
  rfl
theorem mOk.newaZ {N : Nat} {i : Int32} (hd : decode M.2.1 pc = .ok (.newarray .boolean, 2)) (hi : i = nI N) (hN : N < 100000) (hr : n + 1 ≤ mc ∧ k + N ≤ ms) (kk : mOk M d mc ms (pc + 2) L (.ref h.1.length :: st) (mi_nI h 12 N) (n + 1) (k + N) Q) : mOk M d mc ms pc L (.int i :: st) h n k Q := by
  intro D base cy p l e s m args below meth c H locs ls hX hK hP hS hB hL
  subst hi
  have hsz := hP.1
  refine va_newaK hX.1 hX.2.1 (atype := .boolean) (hX.2.2.2.2.2.1 _ gw_aboolean) rfl hd rfl (nI_pos (show N < 2 ^ 31 by omega)) (nI_clamp (show N < 2 ^ 31 by omega)) (by show N * 1 ≤ _; omega) hr.1 hr.2 hsz fun H1 cA e1 z1 o1 hAr hNm => ?_
  have hcA : cA = cy 2 := Option.some.inj (hNm.symm.trans (hK.1.2 2 _ rfl).2)
  subst hcA
  rw [← hsz] at z1 o1
  refine kk D base cy p l e s m args below meth c H1 _ ls hX hK (hP.push (q0 := (12, N)) rfl z1 o1 (fun b hb => ⟨rfl, va_up_n hb, rfl⟩) ?_) (mi_S.push hS z1 o1) hB hL
  show H1[base + h.1.length]? = some (vp_cell (cy 2) (N, .inl ((mi_nI h 12 N).2.2.1 h.1.length)))
  rw [e1, show (mi_nI h 12 N).2.2.1 h.1.length = fun _ => 0 from va_up_s _ _ _]
  rfl
theorem mOk.newaJ {N : Nat} {i : Int32} (hd : decode M.2.1 pc = .ok (.newarray .long, 2)) (hi : i = nI N) (hN : N < 100000) (hr : n + 1 ≤ mc ∧ k + N ≤ ms) (kk : mOk M d mc ms (pc + 2) L (.ref h.1.length :: st) (mi_nJ h N) (n + 1) (k + N) Q) : mOk M d mc ms pc L (.int i :: st) h n k Q := by
  intro D base cy p l e s m args below meth c H locs ls hX hK hP hS hB hL
  subst hi
  have hsz := hP.1
  refine va_newaK hX.1 hX.2.1 (atype := .long) (hX.2.2.2.2.2.1 _ gw_along) rfl hd rfl (nI_pos (show N < 2 ^ 31 by omega)) (nI_clamp (show N < 2 ^ 31 by omega)) (by show N * 8 ≤ _; omega) hr.1 hr.2 hsz fun H1 cA e1 z1 o1 hAr hNm => ?_
  have hcA : cA = cy 1 := Option.some.inj (hNm.symm.trans (hK.1.2 1 _ rfl).2)
  subst hcA
  rw [← hsz] at z1 o1
  refine kk D base cy p l e s m args below meth c H1 _ ls hX hK (hP.push (q0 := (11, N)) rfl z1 o1 (fun b hb => ⟨rfl, rfl, va_up_n hb⟩) ?_) (mi_S.push hS z1 o1) hB hL
  show H1[base + h.1.length]? = some (vp_cell (cy 1) (N, .inr (.inl ((mi_nJ h N).2.2.2 h.1.length))))
  rw [e1, show (mi_nJ h N).2.2.2 h.1.length = fun _ => 0 from va_up_s _ _ _]
  rfl
theorem mOk.newaR {kd N idx : Nat} {C : String} {i : Int32} (hd : decode M.2.1 pc = .ok (.anewarray idx, 3)) (hc : Cond.classLink M.1.cls idx C ∈ gw) (hkd : (kd = 13 ∧ C = RX0) ∨ (kd = 14 ∧ C = RX5)) (hi : i = nI N) (hN : N < 100000) (hr : n + 1 ≤ mc ∧ k + N ≤ ms) (kk : mOk M d mc ms (pc + 3) L (.ref h.1.length :: st) (mi_nR h kd N) (n + 1) (k + N) Q) : mOk M d mc ms pc L (.int i :: st) h n k Q := by
  intro D base cy p l e s m args below meth c H locs ls hX hK hP hS hB hL
  subst hi
  have hsz := hP.1
  have hcl := nI_clamp (show N < 2 ^ 31 by omega)
  have key : ∀ t0, va_AO C s → (mi_tys cy)[t0]? = some (cy t0, .object C) → (∀ (P : Nat → Option Nat) (I : Nat → Int32) (J : Nat → Int64), mi_cc base cy P I J (kd, N) = .inl (cy t0, N, .inr (.inr (.inr (.inr (fun j => mi_o base (P j))))))) → W p l e (mi_R d mc ms) s m args below meth c H locs n k (MQ below (mi_Q D base cy Q) args s mc ms (mi_A base)) (F0 m pc ls ((Value.int (nI N) :: st).map (mi_e base))) := by
    intro t0 hao ht hcc
    refine W.anew hX.1 hX.2.1 hX.2.2.2.2.1 (hX.2.2.2.2.2.1 _ hc) (va_AO.use hao) rfl hd rfl (nI_pos (show N < 2 ^ 31 by omega)) (by rw [hcl]; omega) hr.1 (by rw [hcl]; exact hr.2) fun cA kA comp f1 f2 f3 f4 => ?_
    rw [hcl]
    obtain ⟨kA', comp', r1, r2, r3, r4⟩ := (hK.1.2 t0 _ ht).2
    have hcA : cA = cy t0 := Option.some.inj (f1.symm.trans r4)
    subst hcA
    generalize hH1 : H.push ({ cls := cy t0, slots := Array.replicate N .null, vm := .none } : Cell) = H1
    have z1 : H1.size = H.size + 1 := by rw [← hH1, Array.size_push]
    have e1 : H1[H.size]? = some (arrV (cy t0) N (fun _ => .null)) := by rw [← hH1, Array.getElem?_push_size, ← arrV_new]
    have o1 : ∀ q : Nat, q < H.size → H1[q]? = H[q]? := fun q hq => by rw [← hH1, Array.getElem?_push, if_neg (Nat.ne_of_lt hq)]
    refine W.eq (g2 := F0 m (pc + 3) ls ((Value.ref h.1.length :: st).map (mi_e base))) (by show F0 _ _ _ (Value.ref H.size :: _) = _; rw [hsz]; rfl) ?_
    refine kk D base cy p l e s m args below meth c H1 _ ls hX hK (hP.push (q0 := (kd, N)) rfl z1 o1 (fun b hb => ⟨va_up_n hb, rfl, rfl⟩) ?_) (mi_S.push hS z1 o1) hB hL
    rw [hcc, show (mi_nR h kd N).2.1 h.1.length = fun _ => none from va_up_s _ _ _, ← hsz]
    exact e1
  rcases hkd with ⟨rfl, rfl⟩ | ⟨rfl, rfl⟩
  · exact key 3 hK.2.1 rfl (fun _ _ _ => rfl)
  · exact key 4 hK.2.2.1 rfl (fun _ _ _ => rfl)
/-! the end of a method -/
theorem mOk.iret {x : Int32} (hd : decode M.2.1 pc = .ok (.ireturn, 1)) (hr : M.2.2.2 = some .int) (hq : Q (some (.int x)) h) : mOk M d mc ms pc L [.int x] h mc ms Q :=
  fun D base cy p l e s m args below meth c H locs ls hX hK hP hS hB hL => W.iret (v := x) hX.1 hX.2.1 (hX.2.2.2.1.trans hr) (fun t ht hW => ⟨⟨some (.int x), h, rfl, hq, by rw [ht]; exact hP⟩, hS.F ht⟩) hS.2.2 hd hX.2.2.2.2.2.2.1
theorem mOk.zret {x : Int32} (hd : decode M.2.1 pc = .ok (.ireturn, 1)) (hr : M.2.2.2 = some .boolean) (hx : x = 0 ∨ x = 1) (hq : Q (some (.int x)) h) : mOk M d mc ms pc L [.int x] h mc ms Q :=
  fun D base cy p l e s m args below meth c H locs ls hX hK hP hS hB hL => W.zret (v := x) (ty := .boolean) hX.1 hX.2.1 (hX.2.2.2.1.trans hr) (by rcases hx with rfl | rfl <;> rfl) (fun t ht hW => ⟨⟨some (.int x), h, rfl, hq, by rw [ht]; exact hP⟩, hS.F ht⟩) hS.2.2 hd hX.2.2.2.2.2.2.1
theorem mOk.lret {x : Int64} (hd : decode M.2.1 pc = .ok (.lreturn, 1)) (hr : M.2.2.2 = some .long) (hq : Q (some (.long x)) h) : mOk M d mc ms pc L [.long x] h mc ms Q :=
  fun D base cy p l e s m args below meth c H locs ls hX hK hP hS hB hL => W.lret (v := x) hX.1 hX.2.1 (hX.2.2.2.1.trans hr) (fun t ht hW => ⟨⟨some (.long x), h, rfl, hq, by rw [ht]; exact hP⟩, hS.F ht⟩) hS.2.2 hd hX.2.2.2.2.2.2.1
theorem mOk.vret (hd : decode M.2.1 pc = .ok (.return_, 1)) (hr : M.2.2.2 = none) (hn : n ≤ mc ∧ k ≤ ms) (hq : Q none h) : mOk M d mc ms pc L [] h n k Q :=
  fun D base cy p l e s m args below meth c H locs ls hX hK hP hS hB hL => W.widen hn.1 hn.2 (W.vret hX.1 hX.2.1 (hX.2.2.2.1.trans hr) (fun t ht hW => ⟨⟨none, h, rfl, hq, by rw [ht]; exact hP⟩, hS.F ht⟩) hS.2.2 hd hX.2.2.2.2.2.2.1)
theorem mOk.aret {r : Nat} {C : String} (hd : decode M.2.1 pc = .ok (.areturn, 1)) (hr : M.2.2.2 = some (.object C)) (hq : Q (some (.ref r)) h) : mOk M d mc ms pc L [.ref r] h mc ms Q :=
  fun D base cy p l e s m args below meth c H locs ls hX hK hP hS hB hL => W.aret (v := .ref (base + r)) hX.1 hX.2.1 (hX.2.2.2.1.trans hr) (Or.inl ⟨_, rfl⟩) (Or.inr ⟨_, rfl⟩) (fun t ht hW => ⟨⟨some (.ref r), h, rfl, hq, by rw [ht]; exact hP⟩, hS.F ht⟩) hS.2.2 hd hX.2.2.2.2.2.2.1
theorem mOk.aretN {C : String} (hd : decode M.2.1 pc = .ok (.areturn, 1)) (hr : M.2.2.2 = some (.object C)) (hq : Q (some .null) h) : mOk M d mc ms pc L [.null] h mc ms Q :=
  fun D base cy p l e s m args below meth c H locs ls hX hK hP hS hB hL => W.aret (v := .null) hX.1 hX.2.1 (hX.2.2.2.1.trans hr) (Or.inl ⟨_, rfl⟩) (Or.inl rfl) (fun t ht hW => ⟨⟨some .null, h, rfl, hq, by rw [ht]; exact hP⟩, hS.F ht⟩) hS.2.2 hd hX.2.2.2.2.2.2.1
/-! calls -/
abbrev mi_k (M : mi_M) (d mc ms pc : Nat) (L : List (Option Value)) (st : List Value) (n k : Nat) (Q : Option Value → mi_H → Prop) : Option Value → mi_H → Prop := fun r h' => match r with
  | none => mOk M d mc ms pc L st h' n k Q
  | some v => mOk M d mc ms pc L (v :: st) h' n k Q
theorem mi_ret {p : Program} {l : Launch} {e : Env} {R : Room} {s : State} {m : MethodId} {args : Array Value} {below : List Frame} {meth : Method} {c : Code} {H : Heap} {locs : List Loc} {mc' ms' : Nat} {ls : Array Slot} {st0 rest : List Value} {Qf : State → Prop} {D : va_G} {base : Nat} {cy : Nat → ClassId} {Q' : Option Value → mi_H → Prop} {a : Array Value}
    (hr : va_Run p l e R s m args below meth c H locs n k mc' ms' (F0 m pc ls st0) rest (mi_Q D base cy Q' a) (mi_A base)) (hS : va_S (mi_A base) s.heap H locs)
    (kk : ∀ (r : Option Value) (h' : mi_H) (H1 : Heap) (locs1 : List Loc), Q' r h' → mi_P D base cy h' H1 → va_S (mi_A base) s.heap H1 locs1 → W p l e R s m args below meth c H1 locs1 (n + mc') (k + ms') Qf (F0 m (pc + 3) ls ((r.map (mi_e base)).toList ++ rest))) : W p l e R s m args below meth c H locs n k Qf (F0 m pc ls st0) := by
  intro T hT X
  obtain ⟨v, st₀, t, T', Lo, h0, X', hL, e1, e2, ⟨⟨r, h', hv, hq, hp⟩, hz, hk⟩, st⟩ := hr T hT X
  cases hv
  rw [h0] at hz hk
  obtain ⟨t2, a1, b1⟩ := kk r h' T'.heap (locs ++ Lo) hq (by rw [e1]; exact hp)
    ⟨Nat.le_trans hS.1 (by rw [e1]; exact hz), fun q h1 h2 => by rw [e1, hk q (Nat.lt_of_lt_of_le h1 hS.1) h2]; exact hS.2.1 q h1 h2, fun q hq => by
      rcases List.mem_append.mp hq with h | h
      · exact hS.2.2 q h
      · exact hL q h⟩ T' rfl X'
  exact ⟨t2, st t2 a1, b1⟩
theorem mi_cat {base : Nat} {vs : List Value} (hw : (vs.map fun v => v.category).sum ≤ 8) : ((vs.map (mi_e base)).map fun v => v.category).sum ≤ 8 := by
  rw [List.map_map]
  have e : ((fun v : Value => v.category) ∘ mi_e base) = fun v => v.category := by funext v; exact mi_e_cat base v
  rw [e]
  exact hw
theorem gw_in {own : String} {idx : Nat} {M' : mi_M} {ws : List Cond} (h1 : ∀ w ∈ ws, w ∈ gw) (hc : Cond.code M'.1 M'.2.1 M'.2.2.1 M'.2.2.2 ∈ gw) : GoodIn gw (ws ++ (Cond.code M'.1 M'.2.1 M'.2.2.1 M'.2.2.2 :: gw)) := by
  intro w hw
  have hm : w ∈ gw := by
    rcases List.mem_append.mp hw with h | h
    · exact h1 w h
    · rcases List.mem_cons.mp h with h | h
      · rw [h]; exact hc
      · exact h
  exact ⟨hm, gw_good w hm⟩
theorem mi_blind {D : va_G} {base : Nat} {cy : Nat → ClassId} {as : List Value} : FrameBlind (va_Pc as (fun U => base ≤ U.heap.size ∧ mi_P D base cy h U.heap ∧ mi_K D cy U)) :=
  fun a U g mk q => ⟨q.1, q.2.1, q.2.2.1, mi_K.same (s := U) rfl q.2.2.2⟩
theorem mi_len {M' : mi_M} {nA : Nat} {s : Option Nat} (h : s = some nA) : s = some nA := h
theorem mOk.callV {M' : mi_M} {d' mc' ms' idx nA ci N b : Nat} {as stk : List Value} (hd : decode M.2.1 pc = .ok (.invokevirtual idx, 3)) (hl : Cond.methodLink M.1.cls idx M'.1 ∈ gw) (hv : mi_cv M' nA ci) (hk : h.1[b]? = some (ci, N)) (hst : stk = as.reverse ++ .ref b :: st) (hn : as.length = nA) (hd1 : d' < d ∧ M'.2.2.1 ≤ 21) (hr : n + mc' ≤ mc ∧ k + ms' ≤ ms) (hw : (st.map fun v => v.category).sum ≤ 8)
    (hc : mCl M' d' mc' ms' (.ref b :: as) h (mi_k M d mc ms (pc + 3) L st (n + mc') (k + ms') Q)) : mOk M d mc ms pc L stk h n k Q := by
  intro D base cy p l e s m args below meth c H locs ls hX hK hP hS hB hL
  subst hst
  obtain ⟨⟨hcd, hini, hy1, hy2, hpl⟩, hin, hse, T, N', hcl⟩ := hv
  have hts := hX.2.2.2.2.2.1
  have hci : ci < 10 := (List.getElem?_eq_some_iff.mp hcl).1
  have hat := hP.2 b _ hk
  rw [mi_cc_o hci] at hat
  have hrun := va_runV (p := p) (l := l) (e := e) (R := mi_R d mc ms) (s := s) (m := m) (args := args) (below := below) (meth := meth) (c := c) (H := H) (locs := locs) (cells := n) (slots := k) (As := as.map (mi_e base)) (rest := st.map (mi_e base)) (b := base + b) (g := F0 m pc ls ((as.reverse ++ .ref b :: st).map (mi_e base))) (Ts := gw) (own := M.1.cls) (index := idx) ⟨hX.1, hX.2.1, hX.2.2.1, hX.2.2.2.2.1, hts⟩ (hc D base cy l) (cwV (C := M'.1.cls) nA hts (gw_in (own := M.1.cls) (idx := idx) (by
      intro w hw
      simp only [List.mem_cons, List.not_mem_nil, or_false] at hw
      rcases hw with rfl | rfl | rfl | rfl
      · exact hl
      · exact hin
      · exact hse
      · exact hini) hcd) rfl rfl rfl ⟨rfl, hy1, hy2, hpl⟩ ⟨hd1.1, by show 8 + (M'.2.2.1 + 11) + 40 * d' ≤ 40 * d; omega⟩) ⟨mi_blind, by
      have hP1 : va_P D vwCl [(base + b, .inr (ci, (List.range N).map (mi_fv base (h.2.1 b) (h.2.2.1 b) ci)))] H := fun j q hj => by
        have hz : j < 1 := (List.getElem?_eq_some_iff.mp hj).1
        rw [show j = 0 by omega] at hj
        cases hj
        exact hat
      exact va_recv hK.1 hP1 (q0 := 0) hcl rfl, fun U hU hW => ⟨by rfl, Nat.le_trans hB (by rw [hU]; exact hS.1), by rw [hU]; exact hP, hK.warm hW⟩⟩ rfl (by rw [List.length_map]; exact hn) hL.1 (by simp [mi_e]) (lv_room (mi_cat hw)) hd hr
  refine mi_ret hrun hS fun r h' H1 locs1 hq hp hs => ?_
  cases r with
  | none => exact hq D base cy p l e s m args below meth c H1 locs1 ls hX hK hp hs hB hL
  | some v => exact hq D base cy p l e s m args below meth c H1 locs1 ls hX hK hp hs hB hL
theorem mOk.callS {M' : mi_M} {d' mc' ms' idx nA : Nat} {as stk : List Value} (hd : decode M.2.1 pc = .ok (.invokestatic idx, 3)) (hl : Cond.methodLink M.1.cls idx M'.1 ∈ gw) (hv : mi_cs M' nA) (ho : M'.1.cls = M.1.cls) (hst : stk = as.reverse ++ st) (hn : as.length = nA) (hd1 : d' < d ∧ M'.2.2.1 ≤ 21) (hr : n + mc' ≤ mc ∧ k + ms' ≤ ms) (hw : (st.map fun v => v.category).sum ≤ 8)
    (hc : mCl M' d' mc' ms' as h (mi_k M d mc ms (pc + 3) L st (n + mc') (k + ms') Q)) : mOk M d mc ms pc L stk h n k Q := by
  intro D base cy p l e s m args below meth c H locs ls hX hK hP hS hB hL
  subst hst
  obtain ⟨⟨hcd, hini, hy1, hy2, hpl⟩, hsta⟩ := hv
  have hts := hX.2.2.2.2.2.1
  have hrun := va_runS (p := p) (l := l) (e := e) (R := mi_R d mc ms) (s := s) (m := m) (args := args) (below := below) (meth := meth) (c := c) (H := H) (locs := locs) (cells := n) (slots := k) (As := as.map (mi_e base)) (rest := st.map (mi_e base)) (g := F0 m pc ls ((as.reverse ++ st).map (mi_e base))) (Ts := gw) (own := M.1.cls) (index := idx) ⟨hX.1, hX.2.1, hX.2.2.1, hX.2.2.2.2.1, hts⟩ (hc D base cy l) (cwS nA hts (gw_in (own := M.1.cls) (idx := idx) (by
      intro w hw
      simp only [List.mem_cons, List.not_mem_nil, or_false] at hw
      rcases hw with rfl | rfl | rfl
      · exact hl
      · exact hsta
      · rw [← ho]; exact hini) hcd) rfl rfl rfl ⟨ho, hy1, hy2, hpl⟩ ⟨hd1.1, by show 8 + (M'.2.2.1 + 11) + 40 * d' ≤ 40 * d; omega⟩) ⟨mi_blind, fun U hU hW => ⟨by rfl, Nat.le_trans hB (by rw [hU]; exact hS.1), by rw [hU]; exact hP, hK.warm hW⟩⟩ rfl (by rw [List.length_map]; exact hn) hL.1 (by simp) (lv_room (mi_cat hw)) hd hr
  refine mi_ret hrun hS fun r h' H1 locs1 hq hp hs => ?_
  cases r with
  | none => exact hq D base cy p l e s m args below meth c H1 locs1 ls hX hK hp hs hB hL
  | some v => exact hq D base cy p l e s m args below meth c H1 locs1 ls hX hK hp hs hB hL
theorem mOk.callI {M' : mi_M} {d' mc' ms' idx nA b : Nat} {as stk : List Value} (hd : decode M.2.1 pc = .ok (.invokespecial idx, 3)) (hl : Cond.methodLink M.1.cls idx M'.1 ∈ gw) (hv : mi_ci M' nA) (hrt : M'.2.2.2 = none) (hst : stk = as.reverse ++ .ref b :: st) (hn : as.length = nA) (hd1 : d' < d ∧ M'.2.2.1 ≤ 21) (hr : n + mc' ≤ mc ∧ k + ms' ≤ ms) (hw : (st.map fun v => v.category).sum ≤ 8)
    (hc : mCl M' d' mc' ms' (.ref b :: as) h (mi_k M d mc ms (pc + 3) L st (n + mc') (k + ms') Q)) : mOk M d mc ms pc L stk h n k Q := by
  intro D base cy p l e s m args below meth c H locs ls hX hK hP hS hB hL
  subst hst
  obtain ⟨⟨hcd, hini, hy1, hy2, hpl⟩, hin, hnm⟩ := hv
  have hts := hX.2.2.2.2.2.1
  have hg : GoodIn gw (Cond.code M'.1 M'.2.1 M'.2.2.1 none :: gw) := by
    have := gw_in (own := M.1.cls) (idx := idx) (M' := M') (ws := []) (fun w hw => absurd hw List.not_mem_nil) hcd
    rw [hrt] at this
    exact this
  have hm := hc D base cy l
  rw [hrt] at hm
  have hrun := va_runI (p := p) (l := l) (e := e) (R := mi_R d mc ms) (s := s) (m := m) (args := args) (below := below) (meth := meth) (c := c) (H := H) (locs := locs) (cells := n) (slots := k) (As := as.map (mi_e base)) (rest := st.map (mi_e base)) (b := base + b) (g := F0 m pc ls ((as.reverse ++ .ref b :: st).map (mi_e base))) (Ts := gw) (own := M.1.cls) (index := idx) ⟨hX.1, hX.2.1, hX.2.2.1, hX.2.2.2.2.1, hts⟩ hm (cwI nA hts hg rfl rfl rfl (hts _ hini) (hts _ hl) (hts _ hin) hnm ⟨hy1, hy2, hpl⟩ ⟨hd1.1, by show 8 + (M'.2.2.1 + 11) + 40 * d' ≤ 40 * d; omega⟩) ⟨mi_blind, fun U hU hW => ⟨by rfl, Nat.le_trans hB (by rw [hU]; exact hS.1), by rw [hU]; exact hP, hK.warm hW⟩⟩ rfl (by rw [List.length_map]; exact hn) hL.1 (by simp [mi_e]) (lv_room (mi_cat hw)) hd hr
  refine mi_ret hrun hS fun r h' H1 locs1 hq hp hs => ?_
  cases r with
  | none => exact hq D base cy p l e s m args below meth c H1 locs1 ls hX hK hp hs hB hL
  | some v => exact hq D base cy p l e s m args below meth c H1 locs1 ls hX hK hp hs hB hL
/-- a private constructor of a nest mate -/
theorem mOk.callIN {M' : mi_M} {d' mc' ms' idx nA b : Nat} {host : String} {as stk : List Value} (hd : decode M.2.1 pc = .ok (.invokespecial idx, 3)) (hl : Cond.methodLinkNest M.1.cls idx M'.1 host ∈ mi_nest) (hv : mi_ci M' nA) (hrt : M'.2.2.2 = none) (hst : stk = as.reverse ++ .ref b :: st) (hn : as.length = nA) (hd1 : d' < d ∧ M'.2.2.1 ≤ 21) (hr : n + mc' ≤ mc ∧ k + ms' ≤ ms) (hw : (st.map fun v => v.category).sum ≤ 8)
    (hc : mCl M' d' mc' ms' (.ref b :: as) h (mi_k M d mc ms (pc + 3) L st (n + mc') (k + ms') Q)) : mOk M d mc ms pc L stk h n k Q := by
  intro D base cy p l e s m args below meth c H locs ls hX hK hP hS hB hL
  subst hst
  obtain ⟨⟨hcd, hini, hy1, hy2, hpl⟩, hin, hnm⟩ := hv
  have hts := hX.2.2.2.2.2.1
  have hg : GoodIn gw (Cond.code M'.1 M'.2.1 M'.2.2.1 none :: gw) := by
    have := gw_in (own := M.1.cls) (idx := idx) (M' := M') (ws := []) (fun w hw => absurd hw List.not_mem_nil) hcd
    rw [hrt] at this
    exact this
  have hm := hc D base cy l
  rw [hrt] at hm
  have hrun := va_runIN (p := p) (l := l) (e := e) (R := mi_R d mc ms) (s := s) (m := m) (args := args) (below := below) (meth := meth) (c := c) (H := H) (locs := locs) (cells := n) (slots := k) (As := as.map (mi_e base)) (rest := st.map (mi_e base)) (b := base + b) (g := F0 m pc ls ((as.reverse ++ .ref b :: st).map (mi_e base))) (Ts := gw) (own := M.1.cls) (host := host) (index := idx) ⟨hX.1, hX.2.1, hX.2.2.1, hX.2.2.2.2.1, hts⟩ hm ⟨va_cnB nA hts hg rfl rfl rfl (hK.2.2.2 _ hl) (hts _ hini) ⟨hy1, hy2, hpl⟩ ⟨hd1.1, by show 8 + (M'.2.2.1 + 11) + 40 * d' ≤ 40 * d; omega⟩, hnm, hts _ hin⟩ ⟨mi_blind, fun U hU hW => ⟨by rfl, Nat.le_trans hB (by rw [hU]; exact hS.1), by rw [hU]; exact hP, hK.warm hW⟩⟩ rfl (by rw [List.length_map]; exact hn) hL.1 (by simp [mi_e]) (lv_room (mi_cat hw)) hd hr
  refine mi_ret hrun hS fun r h' H1 locs1 hq hp hs => ?_
  cases r with
  | none => exact hq D base cy p l e s m args below meth c H1 locs1 ls hX hK hp hs hB hL
  | some v => exact hq D base cy p l e s m args below meth c H1 locs1 ls hX hK hp hs hB hL
theorem mOk.objI {idx a : Nat} (hd : decode M.2.1 pc = .ok (.invokespecial idx, 3)) (hl : Cond.methodLink M.1.cls idx objectInit ∈ gw) (hd1 : 0 < d) (hw : (st.map fun v => v.category).sum ≤ 8) (kk : mOk M d mc ms (pc + 3) L st h n k Q) : mOk M d mc ms pc L (.ref a :: st) h n k Q := by
  intro D base cy p l e s m args below meth c H locs ls hX hK hP hS hB hL
  have hts := hX.2.2.2.2.2.1
  refine W.objInit hX.1 hX.2.1 hX.2.2.2.2.1 (hts _ hl) (hts _ gw_oi) (hts _ gw_oc) rfl (by rw [hX.2.2.1]; exact hL.1) rfl hd hd1 ?_ (kk D base cy p l e s m args below meth c H locs ls hX hK hP hS hB hL)
  have := lv_room (m := m) (pc := pc) (ls := ls) (rest := (Value.ref a :: st).map (mi_e base)) (mi_cat (base := base) hw)
  show 2 * 0 + _ + 12 ≤ 40 * d
  have h2 := mi_cat (base := base) hw
  omega
theorem mOk.mmax {idx : Nat} {x y : Int32} (hd : decode M.2.1 pc = .ok (.invokestatic idx, 3)) (hl : Cond.methodLink M.1.cls idx Lib.Math.max.name ∈ gw) (hd1 : 0 < d) (hn : n ≤ mc ∧ k ≤ ms) (hw : (st.map fun v => v.category).sum ≤ 8) (kk : mOk M d mc ms (pc + 3) L (.int (if x < y then y else x) :: st) h n k Q) : mOk M d mc ms pc L (.int y :: .int x :: st) h n k Q := by
  intro D base cy p l e s m args below meth c H locs ls hX hK hP hS hB hL
  have hts := hX.2.2.2.2.2.1
  have h2 := mi_cat (base := base) hw
  exact va_mmax (R := mi_R d mc ms) hX.1 hX.2.1 (by rw [hX.2.2.1, hL.1]) hX.2.2.2.2.1 (hts _ hl) (hts _ gw_maxs) (hts _ gw_mi) (hts _ gw_maxc) hd1 (by show _ ≤ 40 * d; omega) hn.1 hn.2 hd (kk D base cy p l e s m args below meth c H locs ls hX hK hP hS hB hL)
theorem mOk.mmin {idx : Nat} {x y : Int32} (hd : decode M.2.1 pc = .ok (.invokestatic idx, 3)) (hl : Cond.methodLink M.1.cls idx Lib.Math.min.name ∈ gw) (hd1 : 0 < d) (hn : n ≤ mc ∧ k ≤ ms) (hw : (st.map fun v => v.category).sum ≤ 8) (kk : mOk M d mc ms (pc + 3) L (.int (if y < x then y else x) :: st) h n k Q) : mOk M d mc ms pc L (.int y :: .int x :: st) h n k Q := by
  intro D base cy p l e s m args below meth c H locs ls hX hK hP hS hB hL
  have hts := hX.2.2.2.2.2.1
  have h2 := mi_cat (base := base) hw
  exact va_mmin (R := mi_R d mc ms) hX.1 hX.2.1 (by rw [hX.2.2.1, hL.1]) hX.2.2.2.2.1 (hts _ hl) (hts _ gw_mins) (hts _ gw_mi) (hts _ gw_minc) hd1 (by show _ ≤ 40 * d; omega) hn.1 hn.2 hd (kk D base cy p l e s m args below meth c H locs ls hX hK hP hS hB hL)
theorem mOk.mminl {idx : Nat} {x y : Int64} (hd : decode M.2.1 pc = .ok (.invokestatic idx, 3)) (hl : Cond.methodLink M.1.cls idx Lib.MathLoose.min_long.x ∈ gw) (hd1 : 0 < d) (hn : n ≤ mc ∧ k ≤ ms) (hw : (st.map fun v => v.category).sum ≤ 8) (kk : mOk M d mc ms (pc + 3) L (.long (if y < x then y else x) :: st) h n k Q) : mOk M d mc ms pc L (.long y :: .long x :: st) h n k Q := by
  intro D base cy p l e s m args below meth c H locs ls hX hK hP hS hB hL
  have hts := hX.2.2.2.2.2.1
  have h2 := mi_cat (base := base) hw
  exact va_mmin_long (R := mi_R d mc ms) hX.1 hX.2.1 (by rw [hX.2.2.1, hL.1]) hX.2.2.2.2.1 (hts _ hl) (hts _ gw_minls) (hts _ gw_mi) (hts _ gw_minlc) hd1 (by show _ ≤ 40 * d; omega) hn.1 hn.2 hd (kk D base cy p l e s m args below meth c H locs ls hX hK hP hS hB hL)
end MC
