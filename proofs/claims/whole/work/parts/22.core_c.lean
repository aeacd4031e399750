section MH
variable {M : mi_M} {d mc ms pc n k : Nat} {L : List (Option Value)} {st : List Value} {h : mi_H} {Q : Option Value → mi_H → Prop}
/-! fields -/
theorem mi_fs_at {base : Nat} {P : Nat → Option Nat} {I : Nat → Int32} {ci N f : Nat} (hf : f < N) : ((List.range N).map (mi_fv base P I ci))[f]? = some (mi_fv base P I ci f) := by
  rw [List.getElem?_map, List.getElem?_range hf]; rfl
theorem mOk.getI {idx ci N f a : Nat} {fin : Bool} (hd : decode M.2.1 pc = .ok (.getfield idx, 3)) (hl : mi_fl M.1.cls idx ci N f fin false) (hk : h.1[a]? = some (ci, N)) (kk : mOk M d mc ms (pc + 3) L (.int (h.2.2.1 a f) :: st) h n k Q) : mOk M d mc ms pc L (.ref a :: st) h n k Q := by
  intro D base cy p l e s m args below meth c H locs ls hX hK hP hS hB hL
  obtain ⟨C, T, ty0, hci, hf, hcl, hlk, hws, hC, hty, hnm, hfin, hrf, -⟩ := hl
  have hat := hP.2 a _ hk
  rw [mi_cc_o hci] at hat
  have hv : ((List.range N).map (mi_fv base (h.2.1 a) (h.2.2.1 a) ci))[f]? = some (.int (h.2.2.1 a f)) := by
    rw [mi_fs_at hf]; unfold mi_fv; rw [hrf]
  refine va_get (D := D) (cl := vwCl) (ws := [(base + a, .inr (ci, (List.range N).map (mi_fv base (h.2.1 a) (h.2.2.1 a) ci)))]) (C := C) (T := T) (N := N) (ci := ci) (ref := C) hX.1 hX.2.1 hX.2.2.2.2.2.1 hws hX.2.2.2.2.1 hK.1 (fun j q hj => ?_) 0 rfl hcl f hf (hX.2.2.2.2.2.1 _ hlk) (fun x hx => by rw [← hC]; exact hx) hv hd (kk D base cy p l e s m args below meth c H locs ls hX hK hP hS hB hL)
  have hz : j < 1 := (List.getElem?_eq_some_iff.mp hj).1
  rw [show j = 0 by omega] at hj
  cases hj
  exact hat
theorem mOk.getR {idx ci N f a r : Nat} {fin : Bool} (hd : decode M.2.1 pc = .ok (.getfield idx, 3)) (hl : mi_fl M.1.cls idx ci N f fin true) (hk : h.1[a]? = some (ci, N)) (hr : h.2.1 a f = some r) (kk : mOk M d mc ms (pc + 3) L (.ref r :: st) h n k Q) : mOk M d mc ms pc L (.ref a :: st) h n k Q := by
  intro D base cy p l e s m args below meth c H locs ls hX hK hP hS hB hL
  obtain ⟨C, T, ty0, hci, hf, hcl, hlk, hws, hC, hty, hnm, hfin, hrf, -⟩ := hl
  have hat := hP.2 a _ hk
  rw [mi_cc_o hci] at hat
  have hv : ((List.range N).map (mi_fv base (h.2.1 a) (h.2.2.1 a) ci))[f]? = some (.ref (base + r)) := by
    rw [mi_fs_at hf]; unfold mi_fv; rw [hrf, hr]; rfl
  refine va_get (D := D) (cl := vwCl) (ws := [(base + a, .inr (ci, (List.range N).map (mi_fv base (h.2.1 a) (h.2.2.1 a) ci)))]) (C := C) (T := T) (N := N) (ci := ci) (ref := C) hX.1 hX.2.1 hX.2.2.2.2.2.1 hws hX.2.2.2.2.1 hK.1 (fun j q hj => ?_) 0 rfl hcl f hf (hX.2.2.2.2.2.1 _ hlk) (fun x hx => by rw [← hC]; exact hx) hv hd (kk D base cy p l e s m args below meth c H locs ls hX hK hP hS hB hL)
  have hz : j < 1 := (List.getElem?_eq_some_iff.mp hj).1
  rw [show j = 0 by omega] at hj
  cases hj
  exact hat
/-- a field is written -/
theorem mi_put {p : Program} {l : Launch} {e : Env} {R : Room} {s : State} {m : MethodId} {args : Array Value} {below : List Frame} {meth : Method} {c : Code} {H : Heap} {locs : List Loc} {cells slots : Nat} {Qf : State → Prop} {cc : ByteArray} {D : va_G} {cy : Nat → ClassId} {ls : Array Slot} {rest : List Value}
    (hexec : p.tables.exec = Jvm.exec) (hb : c.code = cc) {own : String} {idx ci N f : Nat} {fin rf : Bool} (hl : mi_fl own idx ci N f fin rf) (hts : ∀ w ∈ gw, w.before args s = true) (hown : s.vm.findClass own = some m.cls) (hin : fin = true → meth.name = "<init>" ∧ vwCl[ci]?.map (fun q => q.1) = some own) (hK : mi_K D cy s) {a : Nat} {fs : List Value} (hat : va_at D vwCl (a, .inr (ci, fs)) H) (hfs : fs.length = N) {v : Value} (hv : match rf with
      | true => ∃ r, v = .ref r
      | false => ∃ x, v = .int x) (hdg : decode cc pc = .ok (.putfield idx, 3))
    (kk : ∀ (H' : Heap) (sl : Nat), va_at D vwCl (a, .inr (ci, fs.set f v)) H' → H'.size = H.size → (∀ q, q ≠ a → H'[q]? = H[q]?) → W p l e R s m args below meth c H' (locs ++ [⟨a, sl⟩]) cells slots Qf (F0 m (pc + 3) ls rest)) :
    W p l e R s m args below meth c H locs cells slots Qf (F0 m pc ls (v :: .ref a :: rest)) := by
  obtain ⟨C, T, ty0, hci, hf, hcl, hlk, hws, hC, hty, hnm, hfin, hrf, htf⟩ := hl
  have hap := va_apart (D := D) (cl := vwCl) (own := own) hts hws ty0 hty hnm hK.1 hcl
  obtain ⟨r, h1, cell, q1, q2, q3, q4⟩ := hat
  have hr : r = (C, T, N) := Option.some.inj (h1.symm.trans hcl)
  subst hr
  obtain ⟨hSl, hfc, kC, hkC, hkind⟩ := hK.1.1 ci _ hcl
  obtain ⟨cf, kf, fi, fd, hi, hsl⟩ := hSl f hf
  have hst := (u_facts hfc hkC (u_lays hts hws hf) hi).1
  have hlay := hts _ (hws _ (u_in_lay hf))
  have hn : narrow (ty0 f) v = v ∧ fits (ty0 f) v = true := by
    cases rf with
    | true => obtain ⟨r, rfl⟩ := hv; rcases htf with ⟨x, hx⟩ | ⟨x, hx⟩ <;> rw [hx] <;> exact ⟨rfl, rfl⟩
    | false => obtain ⟨x, rfl⟩ := hv; rw [show ty0 f = .int from htf]; exact ⟨rfl, rfl⟩
  have hi2 : s.fieldFound? C (T f).2.1 (T f).2.2.1 = some (cf, kf, fi, fd) := by rw [← hC]; exact hi
  have fin1 : ∀ H' : Heap, H'[a]? = some (cell.setSlot fd.slot v) → va_at D vwCl (a, .inr (ci, fs.set f v)) H' := fun H' e1 => by
    rw [hsl] at e1
    exact ⟨_, hcl, t_OB.to (V := updV (vp_V fs) f v) ⟨_, e1, q2, q3, t_set q4 hap hf v⟩ (fun j _ => vp_updV_set (by rw [hfs]; exact hf) v j)⟩
  cases fin with
  | false =>
    unfold u_lay at hlay
    rw [if_neg (by rw [hfin]; decide)] at hlay
    have h6 := u_store hfc hkC hkind hlay hi (hty f hf) hn.1 hn.2
    exact W.putK hexec hb (f := fd) ⟨hown, hts _ hlk, ⟨_, _, _, hi2⟩, hst⟩ (by rw [q2]; exact h6) q1 q3 (by rw [hsl]; exact k2_hasslot (q4 f hf)) rfl rfl hdg fun H' e1 e2 e3 => kk H' _ (fin1 H' e1) e2 e3
  | true =>
    obtain ⟨hin2, hown2⟩ := hin rfl
    unfold u_lay at hlay
    rw [if_pos hfin] at hlay
    have hCo : C = own := by rw [hcl] at hown2; exact Option.some.inj hown2
    have hcf : m.cls = cf := by
      obtain ⟨_, _, c', _, _, _, -, -, hf', -, -, -, hown3, -⟩ := Cond.laysFinal_spec hlay
      have e1 : c' = cf := by have := hi.symm.trans hf'; simp at this; exact this.1.symm
      rw [hC, hCo] at hown3
      rw [← e1]; exact Option.some.inj (hown.symm.trans hown3)
    have h6 := u_fits hfc hkC hkind (Or.inr hlay) hi (hty f hf) hn.1 hn.2
    exact W.putFinK hexec hb hown (hts _ hlk) hi2 hst hcf hin2 (by rw [q2]; exact h6) q1 q3 (by rw [hsl]; exact k2_hasslot (q4 f hf)) rfl rfl hdg fun H' e1 e2 e3 => kk H' _ (fin1 H' e1) e2 e3
/-- the world with an int written, a reference written, a long written -/
def mi_wI (h : mi_H) (a i : Nat) (x : Int32) : mi_H := (h.1, h.2.1, va_up h.2.2.1 a (va_up (h.2.2.1 a) i x), h.2.2.2)
def mi_wR (h : mi_H) (a i r : Nat) : mi_H := (h.1, va_up h.2.1 a (va_up (h.2.1 a) i (some r)), h.2.2.1, h.2.2.2)
def mi_wJ (h : mi_H) (a i : Nat) (x : Int64) : mi_H := (h.1, h.2.1, h.2.2.1, va_up h.2.2.2 a (va_up (h.2.2.2 a) i x))
theorem va_up_s {α : Type} (f : Nat → α) (a : Nat) (v : α) : va_up f a v a = v := if_pos rfl
theorem va_up_n {α : Type} {f : Nat → α} {a b : Nat} {v : α} (h : b ≠ a) : va_up f a v b = f b := if_neg h
theorem mi_fs_set {base : Nat} {P P' : Nat → Option Nat} {I I' : Nat → Int32} {ci N f : Nat} {v : Value} (hv : mi_fv base P' I' ci f = v) (ho : ∀ j, j ≠ f → mi_fv base P' I' ci j = mi_fv base P I ci j) : ((List.range N).map (mi_fv base P I ci)).set f v = (List.range N).map (mi_fv base P' I' ci) := by
  apply List.ext_getElem?
  intro j
  by_cases e : f = j
  · subst e
    by_cases hl : f < N
    · rw [List.getElem?_set_self (by simpa using hl), List.getElem?_map, List.getElem?_range hl]
      show some v = some _
      rw [hv]
    · rw [List.set_eq_of_length_le (by simpa using hl)]
      simp [hl]
  · rw [List.getElem?_set_ne e, List.getElem?_map, List.getElem?_map]
    by_cases hl : j < N
    · rw [List.getElem?_range hl]
      show some _ = some _
      rw [ho j (fun z => e z.symm)]
    · simp [hl]
theorem mOk.putI {idx ci N f a : Nat} {x : Int32} (hd : decode M.2.1 pc = .ok (.putfield idx, 3)) (hl : mi_fl M.1.cls idx ci N f false false) (hk : h.1[a]? = some (ci, N)) (kk : mOk M d mc ms (pc + 3) L st (mi_wI h a f x) n k Q) : mOk M d mc ms pc L (.int x :: .ref a :: st) h n k Q := by
  intro D base cy p l e s m args below meth c H locs ls hX hK hP hS hB hL
  have hat := hP.2 a _ hk
  obtain ⟨C, T, ty0, hci, hf, hcl, hlk, hws, hC, hty, hnm, hfin, hrf, htf⟩ := id hl
  rw [mi_cc_o hci] at hat
  refine mi_put hX.1 hX.2.1 hl hX.2.2.2.2.2.1 hX.2.2.2.2.1 (fun z => by cases z) hK hat (by simp) ⟨x, rfl⟩ hd fun H' sl e1 e2 e3 => ?_
  refine kk D base cy p l e s m args below meth c H' _ ls hX hK (hP.set (a := a) rfl e2 e3 (fun b hb => ⟨rfl, va_up_n hb, rfl⟩) (fun q hq => ?_)) (hS.put e2 e3 (Nat.le_add_right _ _)) hB hL
  cases hk.symm.trans hq
  rw [mi_cc_o hci]
  rw [mi_fs_set (P' := (mi_wI h a f x).2.1 a) (I' := (mi_wI h a f x).2.2.1 a)] at e1
  · exact e1
  · unfold mi_fv mi_wI; rw [hrf]; simp [va_up, mi_e]
  · intro j hj; unfold mi_fv mi_wI; simp [va_up, hj]
theorem mOk.putR {idx ci N f a r : Nat} {fin : Bool} (hd : decode M.2.1 pc = .ok (.putfield idx, 3)) (hl : mi_fl M.1.cls idx ci N f fin true) (hin : fin = true → M.1.name = "<init>" ∧ vwCl[ci]?.map (fun q => q.1) = some M.1.cls) (hk : h.1[a]? = some (ci, N)) (kk : mOk M d mc ms (pc + 3) L st (mi_wR h a f r) n k Q) : mOk M d mc ms pc L (.ref r :: .ref a :: st) h n k Q := by
  intro D base cy p l e s m args below meth c H locs ls hX hK hP hS hB hL
  have hat := hP.2 a _ hk
  obtain ⟨C, T, ty0, hci, hf, hcl, hlk, hws, hC, hty, hnm, hfin, hrf, htf⟩ := id hl
  rw [mi_cc_o hci] at hat
  refine mi_put hX.1 hX.2.1 hl hX.2.2.2.2.2.1 hX.2.2.2.2.1 (fun z => ⟨hX.2.2.2.2.2.2.2.trans (hin z).1, (hin z).2⟩) hK hat (by simp) ⟨base + r, rfl⟩ hd fun H' sl e1 e2 e3 => ?_
  refine kk D base cy p l e s m args below meth c H' _ ls hX hK (hP.set (a := a) rfl e2 e3 (fun b hb => ⟨va_up_n hb, rfl, rfl⟩) (fun q hq => ?_)) (hS.put e2 e3 (Nat.le_add_right _ _)) hB hL
  cases hk.symm.trans hq
  rw [mi_cc_o hci]
  rw [mi_fs_set (P' := (mi_wR h a f r).2.1 a) (I' := (mi_wR h a f r).2.2.1 a)] at e1
  · exact e1
  · unfold mi_fv mi_wR; rw [hrf]; simp [va_up, mi_o, va_rf, mi_e]
  · intro j hj; unfold mi_fv mi_wR; simp [va_up, hj]
/-! arrays -/
theorem mi_inN {j N : Nat} (hj : j < N) (hN : N < 2147483648) : vp_in (nI j) N := vp_in_nI hj hN
theorem mOk.iald {a N j : Nat} {i : Int32} (hd : decode M.2.1 pc = .ok (.iaload, 1)) (hk : h.1[a]? = some (10, N)) (hi : i = nI j) (hj : j < N) (hN : N < 2147483648) (kk : mOk M d mc ms (pc + 1) L (.int (h.2.2.1 a j) :: st) h n k Q) : mOk M d mc ms pc L (.int i :: .ref a :: st) h n k Q := by
  intro D base cy p l e s m args below meth c H locs ls hX hK hP hS hB hL
  subst hi
  have hat := hP.2 a _ hk
  have hc := nI_clamp (show j < 2 ^ 31 by omega)
  refine va_iald (D := D) (cl := vwCl) (tys := mi_tys cy) (ws := [(base + a, .inl (cy 0, N, .inl (h.2.2.1 a)))]) hX.1 hX.2.1 hK.1 (fun i q hq => ?_) 0 0 rfl rfl (mi_inN hj hN) hd ?_
  · have hz : i < 1 := (List.getElem?_eq_some_iff.mp hq).1
    rw [show i = 0 by omega] at hq
    cases hq
    exact hat
  · rw [hc]
    exact kk D base cy p l e s m args below meth c H locs ls hX hK hP hS hB hL
theorem mOk.lald {a N j : Nat} {i : Int32} (hd : decode M.2.1 pc = .ok (.laload, 1)) (hk : h.1[a]? = some (11, N)) (hi : i = nI j) (hj : j < N) (hN : N < 2147483648) (kk : mOk M d mc ms (pc + 1) L (.long (h.2.2.2 a j) :: st) h n k Q) : mOk M d mc ms pc L (.int i :: .ref a :: st) h n k Q := by
  intro D base cy p l e s m args below meth c H locs ls hX hK hP hS hB hL
  subst hi
  have hat := hP.2 a _ hk
  have hc := nI_clamp (show j < 2 ^ 31 by omega)
  refine va_lald (D := D) (cl := vwCl) (tys := mi_tys cy) (ws := [(base + a, .inl (cy 1, N, .inr (.inl (h.2.2.2 a))))]) hX.1 hX.2.1 hK.1 (fun i q hq => ?_) 0 1 rfl rfl (mi_inN hj hN) hd ?_
  · have hz : i < 1 := (List.getElem?_eq_some_iff.mp hq).1
    rw [show i = 0 by omega] at hq
    cases hq
    exact hat
  · rw [hc]
    exact kk D base cy p l e s m args below meth c H locs ls hX hK hP hS hB hL
theorem mOk.zald {a N j : Nat} {i : Int32} (hd : decode M.2.1 pc = .ok (.baload, 1)) (hk : h.1[a]? = some (12, N)) (hi : i = nI j) (hj : j < N) (hN : N < 2147483648) (kk : mOk M d mc ms (pc + 1) L (.int (h.2.2.1 a j) :: st) h n k Q) : mOk M d mc ms pc L (.int i :: .ref a :: st) h n k Q := by
  intro D base cy p l e s m args below meth c H locs ls hX hK hP hS hB hL
  subst hi
  have hat := hP.2 a _ hk
  have hc := nI_clamp (show j < 2 ^ 31 by omega)
  refine va_zald (D := D) (cl := vwCl) (tys := mi_tys cy) (ws := [(base + a, .inl (cy 2, N, .inl (h.2.2.1 a)))]) hX.1 hX.2.1 hK.1 (fun i q hq => ?_) 0 2 rfl rfl (mi_inN hj hN) hd ?_
  · have hz : i < 1 := (List.getElem?_eq_some_iff.mp hq).1
    rw [show i = 0 by omega] at hq
    cases hq
    exact hat
  · rw [hc]
    exact kk D base cy p l e s m args below meth c H locs ls hX hK hP hS hB hL
/-- an array of references: kind 13 (boards) or 14 (rows) -/
def mi_ra (kd : Nat) : Nat × Nat × String := if kd = 13 then (3, 3, RX0) else (4, 4, RX5)
theorem mOk.aald {a kd N j r : Nat} {i : Int32} (hd : decode M.2.1 pc = .ok (.aaload, 1)) (hk : h.1[a]? = some (kd, N)) (hkd : kd = 13 ∨ kd = 14) (hi : i = nI j) (hj : j < N) (hN : N < 2147483648) (hr : h.2.1 a j = some r) (kk : mOk M d mc ms (pc + 1) L (.ref r :: st) h n k Q) : mOk M d mc ms pc L (.int i :: .ref a :: st) h n k Q := by
  intro D base cy p l e s m args below meth c H locs ls hX hK hP hS hB hL
  subst hi
  have hat := hP.2 a _ hk
  have hc := nI_clamp (show j < 2 ^ 31 by omega)
  have key : ∀ (t0 : Nat) (C : String), (mi_tys cy)[t0]? = some (cy t0, .object C) → va_at D vwCl (base + a, .inl (cy t0, N, .inr (.inr (.inr (.inr (fun j => mi_o base (h.2.1 a j))))))) H → W p l e (mi_R d mc ms) s m args below meth c H locs n k (MQ below (mi_Q D base cy Q) args s mc ms (mi_A base)) (F0 m pc ls ((Value.int (nI j) :: .ref a :: st).map (mi_e base))) := by
    intro t0 C ht hat
    refine va_aldq (D := D) (cl := vwCl) (tys := mi_tys cy) (C := C) (ws := [(base + a, .inl (cy t0, N, .inr (.inr (.inr (.inr (fun j => mi_o base (h.2.1 a j)))))))]) hX.1 hX.2.1 hK.1 (fun i q hq => ?_) 0 t0 rfl ht (mi_inN hj hN) hd ?_
    · have hz : i < 1 := (List.getElem?_eq_some_iff.mp hq).1
      rw [show i = 0 by omega] at hq
      cases hq
      exact hat
    · rw [hc, hr]
      exact kk D base cy p l e s m args below meth c H locs ls hX hK hP hS hB hL
  rcases hkd with rfl | rfl
  · exact key 3 RX0 rfl hat
  · exact key 4 RX5 rfl hat
theorem mOk.iast {a N j : Nat} {i x : Int32} (hd : decode M.2.1 pc = .ok (.iastore, 1)) (hk : h.1[a]? = some (10, N)) (hi : i = nI j) (hj : j < N) (hN : N < 2147483648) (kk : mOk M d mc ms (pc + 1) L st (mi_wI h a j x) n k Q) : mOk M d mc ms pc L (.int x :: .int i :: .ref a :: st) h n k Q := by
  intro D base cy p l e s m args below meth c H locs ls hX hK hP hS hB hL
  subst hi
  have hat := hP.2 a _ hk
  have hc := nI_clamp (show j < 2 ^ 31 by omega)
  refine W.iast hX.1 hX.2.1 (show H[base + a]? = some (vp_cell (cy 0) (N, .inl (h.2.2.1 a))) from hat) ((hK.1.2 0 _ rfl).1 N (fun j => .int (h.2.2.1 a j))) (fun q => by cases q) (by show ¬ (nI j < 0 ∨ (arrV _ _ _).slots.size ≤ _); rw [arrV_size]; exact mi_inN hj hN) rfl rfl hd fun H' e1 e2 e3 => ?_
  refine kk D base cy p l e s m args below meth c H' _ ls hX hK (hP.set (a := a) rfl e2 e3 (fun b hb => ⟨rfl, va_up_n hb, rfl⟩) (fun q hq => ?_)) (hS.put e2 e3 (Nat.le_add_right _ _)) hB hL
  cases hk.symm.trans hq
  show H'[base + a]? = some (vp_cell (cy 0) (N, .inl ((mi_wI h a j x).2.2.1 a)))
  rw [e1, hc, vp_cell_i, vp_cell_i, arrV_store]
  congr 2
  funext q
  by_cases hq : q = j
  · subst hq; simp [updV, mi_wI, va_up]
  · simp [updV, mi_wI, va_up, hq]
theorem mOk.last {a N j : Nat} {i : Int32} {x : Int64} (hd : decode M.2.1 pc = .ok (.lastore, 1)) (hk : h.1[a]? = some (11, N)) (hi : i = nI j) (hj : j < N) (hN : N < 2147483648) (kk : mOk M d mc ms (pc + 1) L st (mi_wJ h a j x) n k Q) : mOk M d mc ms pc L (.long x :: .int i :: .ref a :: st) h n k Q := by
  intro D base cy p l e s m args below meth c H locs ls hX hK hP hS hB hL
  subst hi
  have hat := hP.2 a _ hk
  have hc := nI_clamp (show j < 2 ^ 31 by omega)
  refine W.last hX.1 hX.2.1 (show H[base + a]? = some (vp_cell (cy 1) (N, .inr (.inl (h.2.2.2 a)))) from hat) ((hK.1.2 1 _ rfl).1 N (fun j => .long (h.2.2.2 a j))) (fun q => by cases q) (by show ¬ (nI j < 0 ∨ (arrV _ _ _).slots.size ≤ _); rw [arrV_size]; exact mi_inN hj hN) rfl rfl hd fun H' e1 e2 e3 => ?_
  refine kk D base cy p l e s m args below meth c H' _ ls hX hK (hP.set (a := a) rfl e2 e3 (fun b hb => ⟨rfl, rfl, va_up_n hb⟩) (fun q hq => ?_)) (hS.put e2 e3 (Nat.le_add_right _ _)) hB hL
  cases hk.symm.trans hq
  show H'[base + a]? = some (vp_cell (cy 1) (N, .inr (.inl ((mi_wJ h a j x).2.2.2 a))))
  rw [e1, hc, vp_cell_l, vp_cell_l, arrV_store]
  congr 2
  funext q
  by_cases hq : q = j
  · subst hq; simp [updV, mi_wJ, va_up]
  · simp [updV, mi_wJ, va_up, hq]
theorem mOk.zast {a N j : Nat} {i x : Int32} (hd : decode M.2.1 pc = .ok (.bastore, 1)) (hk : h.1[a]? = some (12, N)) (hi : i = nI j) (hj : j < N) (hN : N < 2147483648) (hx : x = 0 ∨ x = 1) (kk : mOk M d mc ms (pc + 1) L st (mi_wI h a j x) n k Q) : mOk M d mc ms pc L (.int x :: .int i :: .ref a :: st) h n k Q := by
  intro D base cy p l e s m args below meth c H locs ls hX hK hP hS hB hL
  subst hi
  have hat := hP.2 a _ hk
  have hc := nI_clamp (show j < 2 ^ 31 by omega)
  have hnx : narrow .boolean (.int x) = .int x := by rcases hx with rfl | rfl <;> rfl
  refine W.zast hX.1 hX.2.1 (show H[base + a]? = some (vp_cell (cy 2) (N, .inl (h.2.2.1 a))) from hat) ((hK.1.2 2 _ rfl).1 N (fun j => .int (h.2.2.1 a j))) (fun q => by cases q) (by show ¬ (nI j < 0 ∨ (arrV _ _ _).slots.size ≤ _); rw [arrV_size]; exact mi_inN hj hN) rfl rfl hd fun H' e1 e2 e3 => ?_
  refine kk D base cy p l e s m args below meth c H' _ ls hX hK (hP.set (a := a) rfl e2 e3 (fun b hb => ⟨rfl, va_up_n hb, rfl⟩) (fun q hq => ?_)) (hS.put e2 e3 (Nat.le_add_right _ _)) hB hL
  cases hk.symm.trans hq
  show H'[base + a]? = some (vp_cell (cy 2) (N, .inl ((mi_wI h a j x).2.2.1 a)))
  rw [e1, hc, hnx, vp_cell_i, vp_cell_i, arrV_store]
  congr 2
  funext q
  by_cases hq : q = j
  · subst hq; simp [updV, mi_wI, va_up]
  · simp [updV, mi_wI, va_up, hq]
theorem mOk.alen {a kd N : Nat} {x : Int32} (hd : decode M.2.1 pc = .ok (.arraylength, 1)) (hk : h.1[a]? = some (kd, N)) (hkd : kd = 10) (hx : nI N = x) (kk : mOk M d mc ms (pc + 1) L (.int x :: st) h n k Q) : mOk M d mc ms pc L (.ref a :: st) h n k Q := by
  intro D base cy p l e s m args below meth c H locs ls hX hK hP hS hB hL
  subst hkd
  have hat := hP.2 a _ hk
  refine va_alen (D := D) (cl := vwCl) (tys := mi_tys cy) (ty := .int) (ws := [(base + a, .inl (cy 0, N, .inl (h.2.2.1 a)))]) hX.1 hX.2.1 hK.1 (fun i q hq => ?_) 0 0 rfl rfl hx hd (kk D base cy p l e s m args below meth c H locs ls hX hK hP hS hB hL)
  have hz : i < 1 := (List.getElem?_eq_some_iff.mp hq).1
  rw [show i = 0 by omega] at hq
  cases hq
  exact hat
theorem mOk.alenJ {a N : Nat} {x : Int32} (hd : decode M.2.1 pc = .ok (.arraylength, 1)) (hk : h.1[a]? = some (11, N)) (hx : nI N = x) (kk : mOk M d mc ms (pc + 1) L (.int x :: st) h n k Q) : mOk M d mc ms pc L (.ref a :: st) h n k Q := by
  intro D base cy p l e s m args below meth c H locs ls hX hK hP hS hB hL
  have hat := hP.2 a _ hk
  refine va_alen (D := D) (cl := vwCl) (tys := mi_tys cy) (ty := .long) (ws := [(base + a, .inl (cy 1, N, .inr (.inl (h.2.2.2 a))))]) hX.1 hX.2.1 hK.1 (fun i q hq => ?_) 0 1 rfl rfl hx hd (kk D base cy p l e s m args below meth c H locs ls hX hK hP hS hB hL)
  have hz : i < 1 := (List.getElem?_eq_some_iff.mp hq).1
  rw [show i = 0 by omega] at hq
  cases hq
  exact hat
/-- a reference into an array of references (kind 13: a Board, class 0; kind 14: a Row, class 5) -/
theorem mOk.aast {a kd N j r ci N' : Nat} {i : Int32} (hd : decode M.2.1 pc = .ok (.aastore, 1)) (hk : h.1[a]? = some (kd, N)) (hkd : (kd = 13 ∧ ci = 0) ∨ (kd = 14 ∧ ci = 5)) (hkr : h.1[r]? = some (ci, N')) (hi : i = nI j) (hj : j < N) (hN : N < 2147483648) (kk : mOk M d mc ms (pc + 1) L st (mi_wR h a j r) n k Q) : mOk M d mc ms pc L (.ref r :: .int i :: .ref a :: st) h n k Q := by
  intro D base cy p l e s m args below meth c H locs ls hX hK hP hS hB hL
  subst hi
  have hat := hP.2 a _ hk
  have hatr := hP.2 r _ hkr
  have hc := nI_clamp (show j < 2 ^ 31 by omega)
  have hci : ci < 10 := by rcases hkd with ⟨-, rfl⟩ | ⟨-, rfl⟩ <;> decide
  rw [mi_cc_o hci] at hatr
  have key : ∀ (t0 : Nat) (C : String) (T : u_T) (N0 : Nat), vwCl[ci]? = some (C, T, N0) → (mi_tys cy)[t0]? = some (cy t0, .object C) → (∀ (P : Nat → Option Nat) (I : Nat → Int32) (J : Nat → Int64), mi_cc base cy P I J (kd, N) = .inl (cy t0, N, .inr (.inr (.inr (.inr (fun j => mi_o base (P j))))))) → W p l e (mi_R d mc ms) s m args below meth c H locs n k (MQ below (mi_Q D base cy Q) args s mc ms (mi_A base)) (F0 m pc ls ((Value.ref r :: .int (nI j) :: .ref a :: st).map (mi_e base))) := by
    intro t0 C T N0 hcl ht hcc
    rw [hcc] at hat
    have hat : H[base + a]? = some (vp_cell (cy t0) (N, .inr (.inr (.inr (.inr (fun j => mi_o base (h.2.1 a j))))))) := hat
    have h0 : ¬ nI j < 0 := nI_pos (show j < 2 ^ 31 by omega)
    obtain ⟨r', hr', cellV, g1, g2, g3, -⟩ := hatr
    have hcls := (hK.1.1 ci _ hcl).2
    obtain ⟨kA, comp, k1, k2, k3, -⟩ := (hK.1.2 t0 _ ht).2
    have hcomp : comp = D.1 ci := Option.some.inj (k3.symm.trans hcls.1)
    subst hcomp
    obtain ⟨kC, hkC, -⟩ := id hcls.2
    refine W.aast hX.1 hX.2.1 hat (fun q h => by cases h) (fun h => by cases h) k1 k2 rfl hkC ⟨h0, by show _ < (arrV _ _ _).slots.size; rw [arrV_size, hc]; exact hj⟩ g1 (fun q h => by rw [g3] at h; cases h) (by rw [g2]; exact hkC) (by rw [g2]; exact va_assign hcls) rfl rfl hd fun H' e1 e2 e3 => ?_
    refine kk D base cy p l e s m args below meth c H' _ ls hX hK (hP.set (a := a) rfl e2 e3 (fun b hb => ⟨va_up_n hb, rfl, rfl⟩) (fun q hq => ?_)) (hS.put e2 e3 (Nat.le_add_right _ _)) hB hL
    cases hk.symm.trans hq
    rw [hcc]
    show H'[base + a]? = some (vp_cell (cy t0) (N, .inr (.inr (.inr (.inr (fun i => mi_o base ((mi_wR h a j r).2.1 a i)))))))
    rw [e1, hc, vp_cell_q, vp_cell_q, arrV_store]
    congr 2
    funext q
    by_cases hq : q = j
    · subst hq; simp [updV, mi_wR, va_up, mi_o, va_rf, mi_e]
    · simp [updV, mi_wR, va_up, hq]
  rcases hkd with ⟨rfl, rfl⟩ | ⟨rfl, rfl⟩
  · exact key 3 RX0 TX0 2 rfl rfl (fun _ _ _ => rfl)
  · exact key 4 RX5 TX5 2 rfl rfl (fun _ _ _ => rfl)
end MH
