/-! ===== the constructors: the cells come one by one, all zeros ===== -/
def UPS : List (Nat × Nat × Nat) := [(2, 0, 3), (1, 0, 2), (0, 0, 1), (4, 0, 5), (4, 1, 6), (4, 2, 7), (4, 3, 8), (4, 4, 9), (4, 5, 10), (11, 0, 12), (4, 6, 11), (0, 1, 4), (13, 0, 14), (13, 1, 15), (13, 2, 16), (13, 3, 17), (13, 4, 18), (13, 5, 19), (20, 0, 21), (13, 6, 20), (0, 2, 13), (22, 0, 23), (24, 0, 25), (22, 1, 24), (26, 0, 27), (23, 0, 26), (28, 0, 29), (23, 1, 28), (30, 0, 31), (23, 2, 30), (32, 0, 33), (23, 3, 32), (0, 3, 22), (34, 0, 35), (34, 1, 36), (37, 0, 38), (39, 0, 40), (37, 1, 39), (41, 0, 42), (38, 0, 41), (43, 0, 44), (38, 1, 43), (45, 0, 46), (38, 2, 45), (47, 0, 48), (38, 3, 47), (35, 0, 37), (49, 0, 50), (51, 0, 52), (49, 1, 51), (53, 0, 54), (50, 0, 53), (55, 0, 56), (50, 1, 55), (57, 0, 58), (50, 2, 57), (59, 0, 60), (50, 3, 59), (35, 1, 49), (0, 4, 34), (61, 0, 62), (61, 1, 63), (64, 0, 65), (62, 0, 64), (66, 0, 67), (62, 1, 66), (68, 0, 69), (62, 2, 68), (70, 0, 71), (62, 3, 70), (72, 0, 73), (62, 4, 72), (74, 0, 75), (62, 5, 74), (76, 0, 77), (62, 6, 76), (78, 0, 79), (62, 7, 78), (80, 0, 81), (62, 8, 80), (82, 0, 83), (62, 9, 82), (0, 5, 61), (85, 0, 86), (84, 0, 85), (87, 0, 88), (84, 1, 87), (0, 6, 84), (89, 0, 90), (0, 7, 89), (91, 0, 92), (0, 8, 91), (93, 0, 94), (0, 9, 93), (95, 0, 96), (0, 10, 95), (97, 1, 98), (97, 2, 99), (97, 3, 100), (97, 4, 101), (97, 5, 102), (97, 6, 103), (97, 7, 104), (97, 11, 105), (97, 12, 106), (97, 13, 107), (97, 15, 108), (97, 16, 109), (97, 19, 110), (97, 21, 111), (97, 23, 112), (97, 24, 113), (97, 25, 114)]
def pL : List (Nat × Nat × Nat) → Nat → Nat → Option Nat
  | [], _, _ => none
  | u :: us, a, i => if u.1 = a ∧ u.2.1 = i then some u.2.2 else pL us a i
def pU (u : Nat) : Nat → Nat → Option Nat := pL (UPS.take u).reverse
def zN (k u : Nat) : mi_H := (KK.take k, pU u, fun _ _ => 0, fun _ _ => 0)
theorem pL_none {b : Nat} : ∀ {us : List (Nat × Nat × Nat)}, (∀ x ∈ us, x.1 < b) → ∀ i, pL us b i = none
  | [], _, _ => rfl
  | u :: us, h, i => by
    unfold pL
    rw [if_neg (fun z => by have := h u (by simp); omega)]
    exact pL_none (fun x hx => h x (by simp [hx])) i
theorem pU_new {k u : Nat} (h : ((UPS.take u).all (fun x => decide (x.1 < k))) = true) : va_up (pU u) k (fun _ => none) = pU u := by
  funext a
  by_cases e : a = k
  · subst e
    rw [va_up_s]
    funext i
    refine (pL_none (fun x hx => ?_) i).symm
    rw [List.all_eq_true] at h
    simpa using h x (List.mem_reverse.mp hx)
  · rw [va_up_n e]
theorem pU_put {u a f r : Nat} (h : UPS[u]? = some (a, f, r)) : va_up (pU u) a (va_up (pU u a) f (some r)) = pU (u + 1) := by
  unfold pU
  rw [List.take_add_one, h]
  show _ = pL ((UPS.take u) ++ [(a, f, r)]).reverse
  rw [List.reverse_append]
  show _ = pL ((a, f, r) :: (UPS.take u).reverse)
  funext b i
  show _ = if a = b ∧ f = i then some r else pL (UPS.take u).reverse b i
  by_cases e : b = a
  · subst e
    rw [va_up_s]
    by_cases e2 : i = f
    · subst e2
      rw [va_up_s, if_pos ⟨rfl, rfl⟩]
    · rw [va_up_n e2, if_neg (fun z => e2 z.2.symm)]
  · rw [va_up_n e, if_neg (fun z => e z.1.symm)]
theorem zero_up {k : Nat} : va_up (fun (_ _ : Nat) => (0 : Int32)) k (fun (_ : Nat) => (0 : Int32)) = fun (_ _ : Nat) => (0 : Int32) := by
  funext a
  by_cases e : a = k
  · subst e; rw [va_up_s]
  · rw [va_up_n e]
theorem zero_upJ {k : Nat} : va_up (fun (_ _ : Nat) => (0 : Int64)) k (fun (_ : Nat) => (0 : Int64)) = fun (_ _ : Nat) => (0 : Int64) := by
  funext a
  by_cases e : a = k
  · subst e; rw [va_up_s]
  · rw [va_up_n e]
theorem KK_take {k : Nat} {q : Nat × Nat} (h : KK[k]? = some q) : KK.take k ++ [q] = KK.take (k + 1) := by
  rw [List.take_add_one, h]; rfl
theorem KK_len {k : Nat} {q : Nat × Nat} (h : KK[k]? = some q) : (KK.take k).length = k := by
  rw [List.length_take]
  have := (List.getElem?_eq_some_iff.mp h).1
  omega
section INIT
variable {M : mi_M} {d mc ms pc n s : Nat} {L : List (Option Value)} {st : List Value} {Q : Option Value → mi_H → Prop} {k u : Nat}
theorem zN_nO {ci N : Nat} (hk : KK[k]? = some (ci, N)) (hu : ((UPS.take u).all (fun x => decide (x.1 < k))) = true) : mi_nO (zN k u) ci N = zN (k + 1) u := by
  have e := KK_len hk
  show (KK.take k ++ [(ci, N)], va_up (pU u) (KK.take k).length (fun _ => none), va_up (fun _ _ => (0 : Int32)) (KK.take k).length (fun _ => 0), fun _ _ => (0 : Int64)) = _
  rw [e, KK_take hk, pU_new hu, zero_up]
  rfl
theorem zN_nI {kd N : Nat} (hk : KK[k]? = some (kd, N)) : mi_nI (zN k u) kd N = zN (k + 1) u := by
  have e := KK_len hk
  show (KK.take k ++ [(kd, N)], pU u, va_up (fun _ _ => (0 : Int32)) (KK.take k).length (fun _ => 0), fun _ _ => (0 : Int64)) = _
  rw [e, KK_take hk, zero_up]
  rfl
theorem zN_nJ {N : Nat} (hk : KK[k]? = some (11, N)) : mi_nJ (zN k u) N = zN (k + 1) u := by
  have e := KK_len hk
  show (KK.take k ++ [(11, N)], pU u, fun _ _ => (0 : Int32), va_up (fun _ _ => (0 : Int64)) (KK.take k).length (fun _ => 0)) = _
  rw [e, KK_take hk, zero_upJ]
  rfl
theorem zN_nR {kd N : Nat} (hk : KK[k]? = some (kd, N)) (hu : ((UPS.take u).all (fun x => decide (x.1 < k))) = true) : mi_nR (zN k u) kd N = zN (k + 1) u := by
  have e := KK_len hk
  show (KK.take k ++ [(kd, N)], va_up (pU u) (KK.take k).length (fun _ => none), fun _ _ => (0 : Int32), fun _ _ => (0 : Int64)) = _
  rw [e, KK_take hk, pU_new hu]
  rfl
theorem zN_wR {a f r : Nat} (hu : UPS[u]? = some (a, f, r)) : mi_wR (zN k u) a f r = zN k (u + 1) := by
  show (KK.take k, va_up (pU u) a (va_up (pU u a) f (some r)), fun _ _ => (0 : Int32), fun _ _ => (0 : Int64)) = _
  rw [pU_put hu]
  rfl
theorem mOk.newZ {idx ci N : Nat} (hd : decode M.2.1 pc = .ok (.new idx, 3)) (hl : mi_cn M.1.cls idx ci N) (hr : n + 1 ≤ mc ∧ s + N ≤ ms) (hk : KK[k]? = some (ci, N)) (hu : ((UPS.take u).all (fun x => decide (x.1 < k))) = true) (kk : mOk M d mc ms (pc + 3) L (.ref k :: st) (zN (k + 1) u) (n + 1) (s + N) Q) : mOk M d mc ms pc L st (zN k u) n s Q := by
  refine mOk.new hd hl hr ?_
  rw [show (zN k u).1.length = k from KK_len hk, zN_nO hk hu]
  exact kk
theorem mOk.newaIZ {N : Nat} {i : Int32} (hd : decode M.2.1 pc = .ok (.newarray .int, 2)) (hi : i = nI N) (hN : N < 100000) (hr : n + 1 ≤ mc ∧ s + N ≤ ms) (hk : KK[k]? = some (10, N)) (hk1 : k < 115) (kk : mOk M d mc ms (pc + 2) L (.ref k :: st) (zN (k + 1) u) (n + 1) (s + N) Q) : mOk M d mc ms pc L (.int i :: st) (zN k u) n s Q := by
  refine mOk.newaI hd hi hN hr ?_
  rw [show (zN k u).1.length = k from KK_len hk, zN_nI hk]
  exact kk
theorem mOk.newaZZ {N : Nat} {i : Int32} (hd : decode M.2.1 pc = .ok (.newarray .boolean, 2)) (hi : i = nI N) (hN : N < 100000) (hr : n + 1 ≤ mc ∧ s + N ≤ ms) (hk : KK[k]? = some (12, N)) (hk1 : k < 115) (kk : mOk M d mc ms (pc + 2) L (.ref k :: st) (zN (k + 1) u) (n + 1) (s + N) Q) : mOk M d mc ms pc L (.int i :: st) (zN k u) n s Q := by
  refine mOk.newaZ hd hi hN hr ?_
  rw [show (zN k u).1.length = k from KK_len hk, zN_nI hk]
  exact kk
theorem mOk.newaJZ {N : Nat} {i : Int32} (hd : decode M.2.1 pc = .ok (.newarray .long, 2)) (hi : i = nI N) (hN : N < 100000) (hr : n + 1 ≤ mc ∧ s + N ≤ ms) (hk : KK[k]? = some (11, N)) (hk1 : k < 115) (kk : mOk M d mc ms (pc + 2) L (.ref k :: st) (zN (k + 1) u) (n + 1) (s + N) Q) : mOk M d mc ms pc L (.int i :: st) (zN k u) n s Q := by
  refine mOk.newaJ hd hi hN hr ?_
  rw [show (zN k u).1.length = k from KK_len hk, zN_nJ hk]
  exact kk
theorem mOk.newaRZ {kd N idx : Nat} {C : String} {i : Int32} (hd : decode M.2.1 pc = .ok (.anewarray idx, 3)) (hc : Cond.classLink M.1.cls idx C ∈ gw) (hkd : (kd = 13 ∧ C = RX0) ∨ (kd = 14 ∧ C = RX5)) (hi : i = nI N) (hN : N < 100000) (hr : n + 1 ≤ mc ∧ s + N ≤ ms) (hk : KK[k]? = some (kd, N)) (hu : ((UPS.take u).all (fun x => decide (x.1 < k))) = true) (kk : mOk M d mc ms (pc + 3) L (.ref k :: st) (zN (k + 1) u) (n + 1) (s + N) Q) : mOk M d mc ms pc L (.int i :: st) (zN k u) n s Q := by
  refine mOk.newaR hd hc hkd hi hN hr ?_
  rw [show (zN k u).1.length = k from KK_len hk, zN_nR hk hu]
  exact kk
theorem mOk.putRZ {idx ci N f a r : Nat} {fin : Bool} (hd : decode M.2.1 pc = .ok (.putfield idx, 3)) (hl : mi_fl M.1.cls idx ci N f fin true) (hin : fin = true → M.1.name = "<init>" ∧ vwCl[ci]?.map (fun q => q.1) = some M.1.cls) (hk : (zN k u).1[a]? = some (ci, N)) (hu : UPS[u]? = some (a, f, r)) (kk : mOk M d mc ms (pc + 3) L st (zN k (u + 1)) n s Q) : mOk M d mc ms pc L (.ref r :: .ref a :: st) (zN k u) n s Q := by
  refine mOk.putR hd hl hin hk ?_
  rw [zN_wR hu]
  exact kk
theorem mOk.aastZ {a kd N j r ci N' : Nat} {i : Int32} (hd : decode M.2.1 pc = .ok (.aastore, 1)) (hk : (zN k u).1[a]? = some (kd, N)) (hkd : (kd = 13 ∧ ci = 0) ∨ (kd = 14 ∧ ci = 5)) (hkr : (zN k u).1[r]? = some (ci, N')) (hi : i = nI j) (hj : j < N) (hN : N < 2147483648) (hu : UPS[u]? = some (a, j, r)) (kk : mOk M d mc ms (pc + 1) L st (zN k (u + 1)) n s Q) : mOk M d mc ms pc L (.ref r :: .int i :: .ref a :: st) (zN k u) n s Q := by
  refine mOk.aast hd hk hkd hkr hi hj hN ?_
  rw [zN_wR hu]
  exact kk
theorem i_row {r N : Nat} (hr : KK[r]? = some (5, 2)) (hrk : r < k) (hk : KK[k]? = some (10, N)) (hu : UPS[u]? = some (r, 0, k)) (hN : N < 100000) (hk1 : k < 115) (hn : ¬ nI N < nI 0) (hQ : Q none (zN (k + 1) (u + 1))) : mCl mX5_init 1 1 N [.ref r, .int (nI N)] (zN k u) Q := by
  have hr1 : (zN (k + 1) u).1[r]? = some (5, 2) := by
    show (KK.take (k + 1))[r]? = _
    rw [List.getElem?_take_of_lt (by omega)]
    exact hr
  refine mCl.of (by decide) rfl (Nat.le_of_ble_eq_true rfl) ?_
  show mOk _ _ _ _ _ [some (.ref r), some (.int (nI N))] _ _ _ _ _
  refine mOk.aload0n dX5_init_0 rfl ?_
  refine mOk.objI dX5_init_1 ml_X5_3 (by decide) (by decide) ?_
  refine mOk.aload0n dX5_init_4 rfl ?_
  refine mOk.iload1n dX5_init_5 rfl ?_
  refine mOk.iconst (x := nI 0) dX5_init_6 (by decide) ?_
  refine mOk.mmax dX5_init_7 ml_X5_9 (by decide) ⟨by omega, by omega⟩ (by simp [Value.category]) ?_
  refine mOk.top (if_neg hn) ?_
  refine mOk.newaIZ (k := k) (N := N) dX5_init_10 rfl hN ⟨by omega, by omega⟩ hk hk1 ?_
  refine mOk.putRZ dX5_init_12 fl_X5_15 (by exact fun _ => ⟨rfl, rfl⟩) hr1 hu ?_
  exact mOk.vret dX5_init_15 rfl ⟨by omega, by omega⟩ hQ
end INIT
theorem i_X4_1 {Q : Option Value → mi_H → Prop} (hQ : Q none (zN 4 2)) : mCl mX4_init 2 2 152 [.ref 1] (zN 2 0) Q := by
  refine mCl.of (by decide) rfl (Nat.le_of_ble_eq_true rfl) ?_
  show mOk _ _ _ _ _ [some (.ref 1)] _ _ _ _ _
  refine mOk.aload0n dX4_init_0 rfl ?_
  refine mOk.objI dX4_init_1 ml_X4_3 (by decide) (by decide) ?_
  refine mOk.aload0n dX4_init_4 rfl ?_
  refine mOk.newZ (k := 2) dX4_init_5 cn_X4_9 (by decide) rfl (by decide) ?_
  refine mOk.dup dX4_init_8 rfl ?_
  refine mOk.sipush (x := nI 150) dX4_init_9 (by decide) ?_
  refine mOk.callI1 (M' := mX5_init) dX4_init_12 ml_X4_11 ke_X5_init rfl (by decide) (by decide) (by simp [Value.category]) (i_row (r := 2) (k := 3) (u := 0) (N := 150) rfl (by decide) rfl rfl (by decide) (by decide) (by decide) ?_)
  refine mOk.putRZ dX4_init_15 fl_X4_14 (by exact fun _ => ⟨rfl, rfl⟩) rfl rfl ?_
  exact mOk.vret dX4_init_18 rfl (by decide) hQ
theorem i_X1_4 {Q : Option Value → mi_H → Prop} (hQ : Q none (zN 13 11)) : mCl mX1_init 2 8 225 [.ref 4] (zN 5 3) Q := by
  refine mCl.of (by decide) rfl (Nat.le_of_ble_eq_true rfl) ?_
  show mOk _ _ _ _ _ [some (.ref 4)] _ _ _ _ _
  refine mOk.aload0n dX1_init_0 rfl ?_
  refine mOk.objI dX1_init_1 ml_X1_3 (by decide) (by decide) ?_
  refine mOk.aload0n dX1_init_4 rfl ?_
  refine mOk.bipush (x := nI 24) dX1_init_5 (by decide) ?_
  refine mOk.newaIZ (k := 5) (N := 24) dX1_init_7 rfl (by decide) (by decide) rfl (by decide) ?_
  refine mOk.putRZ dX1_init_9 fl_X1_9 (by exact fun _ => ⟨rfl, rfl⟩) rfl rfl ?_
  refine mOk.aload0n dX1_init_12 rfl ?_
  refine mOk.bipush (x := nI 24) dX1_init_13 (by decide) ?_
  refine mOk.newaIZ (k := 6) (N := 24) dX1_init_15 rfl (by decide) (by decide) rfl (by decide) ?_
  refine mOk.putRZ dX1_init_17 fl_X1_15 (by exact fun _ => ⟨rfl, rfl⟩) rfl rfl ?_
  refine mOk.aload0n dX1_init_20 rfl ?_
  refine mOk.bipush (x := nI 24) dX1_init_21 (by decide) ?_
  refine mOk.newaIZ (k := 7) (N := 24) dX1_init_23 rfl (by decide) (by decide) rfl (by decide) ?_
  refine mOk.putRZ dX1_init_25 fl_X1_18 (by exact fun _ => ⟨rfl, rfl⟩) rfl rfl ?_
  refine mOk.aload0n dX1_init_28 rfl ?_
  refine mOk.bipush (x := nI 24) dX1_init_29 (by decide) ?_
  refine mOk.newaIZ (k := 8) (N := 24) dX1_init_31 rfl (by decide) (by decide) rfl (by decide) ?_
  refine mOk.putRZ dX1_init_33 fl_X1_21 (by exact fun _ => ⟨rfl, rfl⟩) rfl rfl ?_
  refine mOk.aload0n dX1_init_36 rfl ?_
  refine mOk.bipush (x := nI 24) dX1_init_37 (by decide) ?_
  refine mOk.newaIZ (k := 9) (N := 24) dX1_init_39 rfl (by decide) (by decide) rfl (by decide) ?_
  refine mOk.putRZ dX1_init_41 fl_X1_24 (by exact fun _ => ⟨rfl, rfl⟩) rfl rfl ?_
  refine mOk.aload0n dX1_init_44 rfl ?_
  refine mOk.bipush (x := nI 96) dX1_init_45 (by decide) ?_
  refine mOk.newaIZ (k := 10) (N := 96) dX1_init_47 rfl (by decide) (by decide) rfl (by decide) ?_
  refine mOk.putRZ dX1_init_49 fl_X1_27 (by exact fun _ => ⟨rfl, rfl⟩) rfl rfl ?_
  refine mOk.aload0n dX1_init_52 rfl ?_
  refine mOk.newZ (k := 11) dX1_init_53 cn_X1_30 (by decide) rfl (by decide) ?_
  refine mOk.dup dX1_init_56 rfl ?_
  refine mOk.bipush (x := nI 7) dX1_init_57 (by decide) ?_
  refine mOk.callI1 (M' := mX5_init) dX1_init_59 ml_X1_32 ke_X5_init rfl (by decide) (by decide) (by simp [Value.category]) (i_row (r := 11) (k := 12) (u := 9) (N := 7) rfl (by decide) rfl rfl (by decide) (by decide) (by decide) ?_)
  refine mOk.putRZ dX1_init_62 fl_X1_35 (by exact fun _ => ⟨rfl, rfl⟩) rfl rfl ?_
  exact mOk.vret dX1_init_65 rfl (by decide) hQ
theorem i_X1_13 {Q : Option Value → mi_H → Prop} (hQ : Q none (zN 22 20)) : mCl mX1_init 2 8 225 [.ref 13] (zN 14 12) Q := by
  refine mCl.of (by decide) rfl (Nat.le_of_ble_eq_true rfl) ?_
  show mOk _ _ _ _ _ [some (.ref 13)] _ _ _ _ _
  refine mOk.aload0n dX1_init_0 rfl ?_
  refine mOk.objI dX1_init_1 ml_X1_3 (by decide) (by decide) ?_
  refine mOk.aload0n dX1_init_4 rfl ?_
  refine mOk.bipush (x := nI 24) dX1_init_5 (by decide) ?_
  refine mOk.newaIZ (k := 14) (N := 24) dX1_init_7 rfl (by decide) (by decide) rfl (by decide) ?_
  refine mOk.putRZ dX1_init_9 fl_X1_9 (by exact fun _ => ⟨rfl, rfl⟩) rfl rfl ?_
  refine mOk.aload0n dX1_init_12 rfl ?_
  refine mOk.bipush (x := nI 24) dX1_init_13 (by decide) ?_
  refine mOk.newaIZ (k := 15) (N := 24) dX1_init_15 rfl (by decide) (by decide) rfl (by decide) ?_
  refine mOk.putRZ dX1_init_17 fl_X1_15 (by exact fun _ => ⟨rfl, rfl⟩) rfl rfl ?_
  refine mOk.aload0n dX1_init_20 rfl ?_
  refine mOk.bipush (x := nI 24) dX1_init_21 (by decide) ?_
  refine mOk.newaIZ (k := 16) (N := 24) dX1_init_23 rfl (by decide) (by decide) rfl (by decide) ?_
  refine mOk.putRZ dX1_init_25 fl_X1_18 (by exact fun _ => ⟨rfl, rfl⟩) rfl rfl ?_
  refine mOk.aload0n dX1_init_28 rfl ?_
  refine mOk.bipush (x := nI 24) dX1_init_29 (by decide) ?_
  refine mOk.newaIZ (k := 17) (N := 24) dX1_init_31 rfl (by decide) (by decide) rfl (by decide) ?_
  refine mOk.putRZ dX1_init_33 fl_X1_21 (by exact fun _ => ⟨rfl, rfl⟩) rfl rfl ?_
  refine mOk.aload0n dX1_init_36 rfl ?_
  refine mOk.bipush (x := nI 24) dX1_init_37 (by decide) ?_
  refine mOk.newaIZ (k := 18) (N := 24) dX1_init_39 rfl (by decide) (by decide) rfl (by decide) ?_
  refine mOk.putRZ dX1_init_41 fl_X1_24 (by exact fun _ => ⟨rfl, rfl⟩) rfl rfl ?_
  refine mOk.aload0n dX1_init_44 rfl ?_
  refine mOk.bipush (x := nI 96) dX1_init_45 (by decide) ?_
  refine mOk.newaIZ (k := 19) (N := 96) dX1_init_47 rfl (by decide) (by decide) rfl (by decide) ?_
  refine mOk.putRZ dX1_init_49 fl_X1_27 (by exact fun _ => ⟨rfl, rfl⟩) rfl rfl ?_
  refine mOk.aload0n dX1_init_52 rfl ?_
  refine mOk.newZ (k := 20) dX1_init_53 cn_X1_30 (by decide) rfl (by decide) ?_
  refine mOk.dup dX1_init_56 rfl ?_
  refine mOk.bipush (x := nI 7) dX1_init_57 (by decide) ?_
  refine mOk.callI1 (M' := mX5_init) dX1_init_59 ml_X1_32 ke_X5_init rfl (by decide) (by decide) (by simp [Value.category]) (i_row (r := 20) (k := 21) (u := 18) (N := 7) rfl (by decide) rfl rfl (by decide) (by decide) (by decide) ?_)
  refine mOk.putRZ dX1_init_62 fl_X1_35 (by exact fun _ => ⟨rfl, rfl⟩) rfl rfl ?_
  exact mOk.vret dX1_init_65 rfl (by decide) hQ
theorem i_X0_22 {Q : Option Value → mi_H → Prop} (hQ : Q none (zN 34 32)) : mCl mX0_init 2 11 82 [.ref 22] (zN 23 21) Q := by
  refine mCl.of (by decide) rfl (Nat.le_of_ble_eq_true rfl) ?_
  show mOk _ _ _ _ _ [some (.ref 22), none] _ _ _ _ _
  refine mOk.aload0n dX0_init_0 rfl ?_
  refine mOk.objI dX0_init_1 ml_X0_3 (by decide) (by decide) ?_
  refine mOk.aload0n dX0_init_4 rfl ?_
  refine mOk.iconst (x := nI 4) dX0_init_5 (by decide) ?_
  refine mOk.newaRZ (k := 23) (N := 4) (C := RX5) (kd := 14) dX0_init_6 cl_an_X0_9 (by decide) rfl (by decide) (by decide) rfl (by decide) ?_
  refine mOk.putRZ dX0_init_9 fl_X0_11 (by exact fun _ => ⟨rfl, rfl⟩) rfl rfl ?_
  refine mOk.aload0n dX0_init_12 rfl ?_
  refine mOk.newZ (k := 24) dX0_init_13 cn_X0_9 (by decide) rfl (by decide) ?_
  refine mOk.dup dX0_init_16 rfl ?_
  refine mOk.iconst (x := nI 4) dX0_init_17 (by decide) ?_
  refine mOk.callI1 (M' := mX5_init) dX0_init_18 ml_X0_17 ke_X5_init rfl (by decide) (by decide) (by simp [Value.category]) (i_row (r := 24) (k := 25) (u := 22) (N := 4) rfl (by decide) rfl rfl (by decide) (by decide) (by decide) ?_)
  refine mOk.putRZ dX0_init_21 fl_X0_20 (by exact fun _ => ⟨rfl, rfl⟩) rfl rfl ?_
  refine mOk.iconst (x := nI 0) dX0_init_24 (by decide) ?_
  refine mOk.istore1n dX0_init_25 rfl (by decide) rfl ?_
  refine mOk.iload1n dX0_init_26 rfl ?_
  refine mOk.iconst (x := nI 4) dX0_init_27 (by decide) ?_
  refine mOk.icge (tgt := 52) dX0_init_28 (by decide) (fun c28 => absurd c28 (by decide)) (fun c28 => ?_)
  refine mOk.aload0n dX0_init_31 rfl ?_
  refine mOk.getR (r := 23) dX0_init_32 fl_X0_11 rfl (by decide) ?_
  refine mOk.iload1n dX0_init_35 rfl ?_
  refine mOk.newZ (k := 26) dX0_init_36 cn_X0_9 (by decide) rfl (by decide) ?_
  refine mOk.dup dX0_init_39 rfl ?_
  refine mOk.bipush (x := nI 16) dX0_init_40 (by decide) ?_
  refine mOk.callI1 (M' := mX5_init) dX0_init_42 ml_X0_17 ke_X5_init rfl (by decide) (by decide) (by simp [Value.category]) (i_row (r := 26) (k := 27) (u := 24) (N := 16) rfl (by decide) rfl rfl (by decide) (by decide) (by decide) ?_)
  refine mOk.aastZ (j := 0) dX0_init_45 rfl (by decide) rfl rfl (by decide) (by decide) rfl ?_
  refine mOk.iinc1 (y := nI 1) dX0_init_46 (by rfl) (by decide) rfl ?_
  refine mOk.goto (tgt := 26) dX0_init_49 (by decide) ?_
  refine mOk.iload1n dX0_init_26 rfl ?_
  refine mOk.iconst (x := nI 4) dX0_init_27 (by decide) ?_
  refine mOk.icge (tgt := 52) dX0_init_28 (by decide) (fun c28 => absurd c28 (by decide)) (fun c28 => ?_)
  refine mOk.aload0n dX0_init_31 rfl ?_
  refine mOk.getR (r := 23) dX0_init_32 fl_X0_11 rfl (by decide) ?_
  refine mOk.iload1n dX0_init_35 rfl ?_
  refine mOk.newZ (k := 28) dX0_init_36 cn_X0_9 (by decide) rfl (by decide) ?_
  refine mOk.dup dX0_init_39 rfl ?_
  refine mOk.bipush (x := nI 16) dX0_init_40 (by decide) ?_
  refine mOk.callI1 (M' := mX5_init) dX0_init_42 ml_X0_17 ke_X5_init rfl (by decide) (by decide) (by simp [Value.category]) (i_row (r := 28) (k := 29) (u := 26) (N := 16) rfl (by decide) rfl rfl (by decide) (by decide) (by decide) ?_)
  refine mOk.aastZ (j := 1) dX0_init_45 rfl (by decide) rfl rfl (by decide) (by decide) rfl ?_
  refine mOk.iinc1 (y := nI 2) dX0_init_46 (by rfl) (by decide) rfl ?_
  refine mOk.goto (tgt := 26) dX0_init_49 (by decide) ?_
  refine mOk.iload1n dX0_init_26 rfl ?_
  refine mOk.iconst (x := nI 4) dX0_init_27 (by decide) ?_
  refine mOk.icge (tgt := 52) dX0_init_28 (by decide) (fun c28 => absurd c28 (by decide)) (fun c28 => ?_)
  refine mOk.aload0n dX0_init_31 rfl ?_
  refine mOk.getR (r := 23) dX0_init_32 fl_X0_11 rfl (by decide) ?_
  refine mOk.iload1n dX0_init_35 rfl ?_
  refine mOk.newZ (k := 30) dX0_init_36 cn_X0_9 (by decide) rfl (by decide) ?_
  refine mOk.dup dX0_init_39 rfl ?_
  refine mOk.bipush (x := nI 16) dX0_init_40 (by decide) ?_
  refine mOk.callI1 (M' := mX5_init) dX0_init_42 ml_X0_17 ke_X5_init rfl (by decide) (by decide) (by simp [Value.category]) (i_row (r := 30) (k := 31) (u := 28) (N := 16) rfl (by decide) rfl rfl (by decide) (by decide) (by decide) ?_)
  refine mOk.aastZ (j := 2) dX0_init_45 rfl (by decide) rfl rfl (by decide) (by decide) rfl ?_
  refine mOk.iinc1 (y := nI 3) dX0_init_46 (by rfl) (by decide) rfl ?_
  refine mOk.goto (tgt := 26) dX0_init_49 (by decide) ?_
  refine mOk.iload1n dX0_init_26 rfl ?_
  refine mOk.iconst (x := nI 4) dX0_init_27 (by decide) ?_
  refine mOk.icge (tgt := 52) dX0_init_28 (by decide) (fun c28 => absurd c28 (by decide)) (fun c28 => ?_)
  refine mOk.aload0n dX0_init_31 rfl ?_
  refine mOk.getR (r := 23) dX0_init_32 fl_X0_11 rfl (by decide) ?_
  refine mOk.iload1n dX0_init_35 rfl ?_
  refine mOk.newZ (k := 32) dX0_init_36 cn_X0_9 (by decide) rfl (by decide) ?_
  refine mOk.dup dX0_init_39 rfl ?_
  refine mOk.bipush (x := nI 16) dX0_init_40 (by decide) ?_
  refine mOk.callI1 (M' := mX5_init) dX0_init_42 ml_X0_17 ke_X5_init rfl (by decide) (by decide) (by simp [Value.category]) (i_row (r := 32) (k := 33) (u := 30) (N := 16) rfl (by decide) rfl rfl (by decide) (by decide) (by decide) ?_)
  refine mOk.aastZ (j := 3) dX0_init_45 rfl (by decide) rfl rfl (by decide) (by decide) rfl ?_
  refine mOk.iinc1 (y := nI 4) dX0_init_46 (by rfl) (by decide) rfl ?_
  refine mOk.goto (tgt := 26) dX0_init_49 (by decide) ?_
  refine mOk.iload1n dX0_init_26 rfl ?_
  refine mOk.iconst (x := nI 4) dX0_init_27 (by decide) ?_
  refine mOk.icge (tgt := 52) dX0_init_28 (by decide) (fun c28 => ?_) (fun c28 => absurd (by decide) c28)
  exact mOk.vret dX0_init_52 rfl (by decide) hQ
theorem i_X0_37 {Q : Option Value → mi_H → Prop} (hQ : Q none (zN 49 46)) : mCl mX0_init 2 11 82 [.ref 37] (zN 38 35) Q := by
  refine mCl.of (by decide) rfl (Nat.le_of_ble_eq_true rfl) ?_
  show mOk _ _ _ _ _ [some (.ref 37), none] _ _ _ _ _
  refine mOk.aload0n dX0_init_0 rfl ?_
  refine mOk.objI dX0_init_1 ml_X0_3 (by decide) (by decide) ?_
  refine mOk.aload0n dX0_init_4 rfl ?_
  refine mOk.iconst (x := nI 4) dX0_init_5 (by decide) ?_
  refine mOk.newaRZ (k := 38) (N := 4) (C := RX5) (kd := 14) dX0_init_6 cl_an_X0_9 (by decide) rfl (by decide) (by decide) rfl (by decide) ?_
  refine mOk.putRZ dX0_init_9 fl_X0_11 (by exact fun _ => ⟨rfl, rfl⟩) rfl rfl ?_
  refine mOk.aload0n dX0_init_12 rfl ?_
  refine mOk.newZ (k := 39) dX0_init_13 cn_X0_9 (by decide) rfl (by decide) ?_
  refine mOk.dup dX0_init_16 rfl ?_
  refine mOk.iconst (x := nI 4) dX0_init_17 (by decide) ?_
  refine mOk.callI1 (M' := mX5_init) dX0_init_18 ml_X0_17 ke_X5_init rfl (by decide) (by decide) (by simp [Value.category]) (i_row (r := 39) (k := 40) (u := 36) (N := 4) rfl (by decide) rfl rfl (by decide) (by decide) (by decide) ?_)
  refine mOk.putRZ dX0_init_21 fl_X0_20 (by exact fun _ => ⟨rfl, rfl⟩) rfl rfl ?_
  refine mOk.iconst (x := nI 0) dX0_init_24 (by decide) ?_
  refine mOk.istore1n dX0_init_25 rfl (by decide) rfl ?_
  refine mOk.iload1n dX0_init_26 rfl ?_
  refine mOk.iconst (x := nI 4) dX0_init_27 (by decide) ?_
  refine mOk.icge (tgt := 52) dX0_init_28 (by decide) (fun c28 => absurd c28 (by decide)) (fun c28 => ?_)
  refine mOk.aload0n dX0_init_31 rfl ?_
  refine mOk.getR (r := 38) dX0_init_32 fl_X0_11 rfl (by decide) ?_
  refine mOk.iload1n dX0_init_35 rfl ?_
  refine mOk.newZ (k := 41) dX0_init_36 cn_X0_9 (by decide) rfl (by decide) ?_
  refine mOk.dup dX0_init_39 rfl ?_
  refine mOk.bipush (x := nI 16) dX0_init_40 (by decide) ?_
  refine mOk.callI1 (M' := mX5_init) dX0_init_42 ml_X0_17 ke_X5_init rfl (by decide) (by decide) (by simp [Value.category]) (i_row (r := 41) (k := 42) (u := 38) (N := 16) rfl (by decide) rfl rfl (by decide) (by decide) (by decide) ?_)
  refine mOk.aastZ (j := 0) dX0_init_45 rfl (by decide) rfl rfl (by decide) (by decide) rfl ?_
  refine mOk.iinc1 (y := nI 1) dX0_init_46 (by rfl) (by decide) rfl ?_
  refine mOk.goto (tgt := 26) dX0_init_49 (by decide) ?_
  refine mOk.iload1n dX0_init_26 rfl ?_
  refine mOk.iconst (x := nI 4) dX0_init_27 (by decide) ?_
  refine mOk.icge (tgt := 52) dX0_init_28 (by decide) (fun c28 => absurd c28 (by decide)) (fun c28 => ?_)
  refine mOk.aload0n dX0_init_31 rfl ?_
  refine mOk.getR (r := 38) dX0_init_32 fl_X0_11 rfl (by decide) ?_
  refine mOk.iload1n dX0_init_35 rfl ?_
  refine mOk.newZ (k := 43) dX0_init_36 cn_X0_9 (by decide) rfl (by decide) ?_
  refine mOk.dup dX0_init_39 rfl ?_
  refine mOk.bipush (x := nI 16) dX0_init_40 (by decide) ?_
  refine mOk.callI1 (M' := mX5_init) dX0_init_42 ml_X0_17 ke_X5_init rfl (by decide) (by decide) (by simp [Value.category]) (i_row (r := 43) (k := 44) (u := 40) (N := 16) rfl (by decide) rfl rfl (by decide) (by decide) (by decide) ?_)
  refine mOk.aastZ (j := 1) dX0_init_45 rfl (by decide) rfl rfl (by decide) (by decide) rfl ?_
  refine mOk.iinc1 (y := nI 2) dX0_init_46 (by rfl) (by decide) rfl ?_
  refine mOk.goto (tgt := 26) dX0_init_49 (by decide) ?_
  refine mOk.iload1n dX0_init_26 rfl ?_
  refine mOk.iconst (x := nI 4) dX0_init_27 (by decide) ?_
  refine mOk.icge (tgt := 52) dX0_init_28 (by decide) (fun c28 => absurd c28 (by decide)) (fun c28 => ?_)
  refine mOk.aload0n dX0_init_31 rfl ?_
  refine mOk.getR (r := 38) dX0_init_32 fl_X0_11 rfl (by decide) ?_
  refine mOk.iload1n dX0_init_35 rfl ?_
  refine mOk.newZ (k := 45) dX0_init_36 cn_X0_9 (by decide) rfl (by decide) ?_
  refine mOk.dup dX0_init_39 rfl ?_
  refine mOk.bipush (x := nI 16) dX0_init_40 (by decide) ?_
  refine mOk.callI1 (M' := mX5_init) dX0_init_42 ml_X0_17 ke_X5_init rfl (by decide) (by decide) (by simp [Value.category]) (i_row (r := 45) (k := 46) (u := 42) (N := 16) rfl (by decide) rfl rfl (by decide) (by decide) (by decide) ?_)
  refine mOk.aastZ (j := 2) dX0_init_45 rfl (by decide) rfl rfl (by decide) (by decide) rfl ?_
  refine mOk.iinc1 (y := nI 3) dX0_init_46 (by rfl) (by decide) rfl ?_
  refine mOk.goto (tgt := 26) dX0_init_49 (by decide) ?_
  refine mOk.iload1n dX0_init_26 rfl ?_
  refine mOk.iconst (x := nI 4) dX0_init_27 (by decide) ?_
  refine mOk.icge (tgt := 52) dX0_init_28 (by decide) (fun c28 => absurd c28 (by decide)) (fun c28 => ?_)
  refine mOk.aload0n dX0_init_31 rfl ?_
  refine mOk.getR (r := 38) dX0_init_32 fl_X0_11 rfl (by decide) ?_
  refine mOk.iload1n dX0_init_35 rfl ?_
  refine mOk.newZ (k := 47) dX0_init_36 cn_X0_9 (by decide) rfl (by decide) ?_
  refine mOk.dup dX0_init_39 rfl ?_
  refine mOk.bipush (x := nI 16) dX0_init_40 (by decide) ?_
  refine mOk.callI1 (M' := mX5_init) dX0_init_42 ml_X0_17 ke_X5_init rfl (by decide) (by decide) (by simp [Value.category]) (i_row (r := 47) (k := 48) (u := 44) (N := 16) rfl (by decide) rfl rfl (by decide) (by decide) (by decide) ?_)
  refine mOk.aastZ (j := 3) dX0_init_45 rfl (by decide) rfl rfl (by decide) (by decide) rfl ?_
  refine mOk.iinc1 (y := nI 4) dX0_init_46 (by rfl) (by decide) rfl ?_
  refine mOk.goto (tgt := 26) dX0_init_49 (by decide) ?_
  refine mOk.iload1n dX0_init_26 rfl ?_
  refine mOk.iconst (x := nI 4) dX0_init_27 (by decide) ?_
  refine mOk.icge (tgt := 52) dX0_init_28 (by decide) (fun c28 => ?_) (fun c28 => absurd (by decide) c28)
  exact mOk.vret dX0_init_52 rfl (by decide) hQ
theorem i_X0_49 {Q : Option Value → mi_H → Prop} (hQ : Q none (zN 61 58)) : mCl mX0_init 2 11 82 [.ref 49] (zN 50 47) Q := by
  refine mCl.of (by decide) rfl (Nat.le_of_ble_eq_true rfl) ?_
  show mOk _ _ _ _ _ [some (.ref 49), none] _ _ _ _ _
  refine mOk.aload0n dX0_init_0 rfl ?_
  refine mOk.objI dX0_init_1 ml_X0_3 (by decide) (by decide) ?_
  refine mOk.aload0n dX0_init_4 rfl ?_
  refine mOk.iconst (x := nI 4) dX0_init_5 (by decide) ?_
  refine mOk.newaRZ (k := 50) (N := 4) (C := RX5) (kd := 14) dX0_init_6 cl_an_X0_9 (by decide) rfl (by decide) (by decide) rfl (by decide) ?_
  refine mOk.putRZ dX0_init_9 fl_X0_11 (by exact fun _ => ⟨rfl, rfl⟩) rfl rfl ?_
  refine mOk.aload0n dX0_init_12 rfl ?_
  refine mOk.newZ (k := 51) dX0_init_13 cn_X0_9 (by decide) rfl (by decide) ?_
  refine mOk.dup dX0_init_16 rfl ?_
  refine mOk.iconst (x := nI 4) dX0_init_17 (by decide) ?_
  refine mOk.callI1 (M' := mX5_init) dX0_init_18 ml_X0_17 ke_X5_init rfl (by decide) (by decide) (by simp [Value.category]) (i_row (r := 51) (k := 52) (u := 48) (N := 4) rfl (by decide) rfl rfl (by decide) (by decide) (by decide) ?_)
  refine mOk.putRZ dX0_init_21 fl_X0_20 (by exact fun _ => ⟨rfl, rfl⟩) rfl rfl ?_
  refine mOk.iconst (x := nI 0) dX0_init_24 (by decide) ?_
  refine mOk.istore1n dX0_init_25 rfl (by decide) rfl ?_
  refine mOk.iload1n dX0_init_26 rfl ?_
  refine mOk.iconst (x := nI 4) dX0_init_27 (by decide) ?_
  refine mOk.icge (tgt := 52) dX0_init_28 (by decide) (fun c28 => absurd c28 (by decide)) (fun c28 => ?_)
  refine mOk.aload0n dX0_init_31 rfl ?_
  refine mOk.getR (r := 50) dX0_init_32 fl_X0_11 rfl (by decide) ?_
  refine mOk.iload1n dX0_init_35 rfl ?_
  refine mOk.newZ (k := 53) dX0_init_36 cn_X0_9 (by decide) rfl (by decide) ?_
  refine mOk.dup dX0_init_39 rfl ?_
  refine mOk.bipush (x := nI 16) dX0_init_40 (by decide) ?_
  refine mOk.callI1 (M' := mX5_init) dX0_init_42 ml_X0_17 ke_X5_init rfl (by decide) (by decide) (by simp [Value.category]) (i_row (r := 53) (k := 54) (u := 50) (N := 16) rfl (by decide) rfl rfl (by decide) (by decide) (by decide) ?_)
  refine mOk.aastZ (j := 0) dX0_init_45 rfl (by decide) rfl rfl (by decide) (by decide) rfl ?_
  refine mOk.iinc1 (y := nI 1) dX0_init_46 (by rfl) (by decide) rfl ?_
  refine mOk.goto (tgt := 26) dX0_init_49 (by decide) ?_
  refine mOk.iload1n dX0_init_26 rfl ?_
  refine mOk.iconst (x := nI 4) dX0_init_27 (by decide) ?_
  refine mOk.icge (tgt := 52) dX0_init_28 (by decide) (fun c28 => absurd c28 (by decide)) (fun c28 => ?_)
  refine mOk.aload0n dX0_init_31 rfl ?_
  refine mOk.getR (r := 50) dX0_init_32 fl_X0_11 rfl (by decide) ?_
  refine mOk.iload1n dX0_init_35 rfl ?_
  refine mOk.newZ (k := 55) dX0_init_36 cn_X0_9 (by decide) rfl (by decide) ?_
  refine mOk.dup dX0_init_39 rfl ?_
  refine mOk.bipush (x := nI 16) dX0_init_40 (by decide) ?_
  refine mOk.callI1 (M' := mX5_init) dX0_init_42 ml_X0_17 ke_X5_init rfl (by decide) (by decide) (by simp [Value.category]) (i_row (r := 55) (k := 56) (u := 52) (N := 16) rfl (by decide) rfl rfl (by decide) (by decide) (by decide) ?_)
  refine mOk.aastZ (j := 1) dX0_init_45 rfl (by decide) rfl rfl (by decide) (by decide) rfl ?_
  refine mOk.iinc1 (y := nI 2) dX0_init_46 (by rfl) (by decide) rfl ?_
  refine mOk.goto (tgt := 26) dX0_init_49 (by decide) ?_
  refine mOk.iload1n dX0_init_26 rfl ?_
  refine mOk.iconst (x := nI 4) dX0_init_27 (by decide) ?_
  refine mOk.icge (tgt := 52) dX0_init_28 (by decide) (fun c28 => absurd c28 (by decide)) (fun c28 => ?_)
  refine mOk.aload0n dX0_init_31 rfl ?_
  refine mOk.getR (r := 50) dX0_init_32 fl_X0_11 rfl (by decide) ?_
  refine mOk.iload1n dX0_init_35 rfl ?_
  refine mOk.newZ (k := 57) dX0_init_36 cn_X0_9 (by decide) rfl (by decide) ?_
  refine mOk.dup dX0_init_39 rfl ?_
  refine mOk.bipush (x := nI 16) dX0_init_40 (by decide) ?_
  refine mOk.callI1 (M' := mX5_init) dX0_init_42 ml_X0_17 ke_X5_init rfl (by decide) (by decide) (by simp [Value.category]) (i_row (r := 57) (k := 58) (u := 54) (N := 16) rfl (by decide) rfl rfl (by decide) (by decide) (by decide) ?_)
  refine mOk.aastZ (j := 2) dX0_init_45 rfl (by decide) rfl rfl (by decide) (by decide) rfl ?_
  refine mOk.iinc1 (y := nI 3) dX0_init_46 (by rfl) (by decide) rfl ?_
  refine mOk.goto (tgt := 26) dX0_init_49 (by decide) ?_
  refine mOk.iload1n dX0_init_26 rfl ?_
  refine mOk.iconst (x := nI 4) dX0_init_27 (by decide) ?_
  refine mOk.icge (tgt := 52) dX0_init_28 (by decide) (fun c28 => absurd c28 (by decide)) (fun c28 => ?_)
  refine mOk.aload0n dX0_init_31 rfl ?_
  refine mOk.getR (r := 50) dX0_init_32 fl_X0_11 rfl (by decide) ?_
  refine mOk.iload1n dX0_init_35 rfl ?_
  refine mOk.newZ (k := 59) dX0_init_36 cn_X0_9 (by decide) rfl (by decide) ?_
  refine mOk.dup dX0_init_39 rfl ?_
  refine mOk.bipush (x := nI 16) dX0_init_40 (by decide) ?_
  refine mOk.callI1 (M' := mX5_init) dX0_init_42 ml_X0_17 ke_X5_init rfl (by decide) (by decide) (by simp [Value.category]) (i_row (r := 59) (k := 60) (u := 56) (N := 16) rfl (by decide) rfl rfl (by decide) (by decide) (by decide) ?_)
  refine mOk.aastZ (j := 3) dX0_init_45 rfl (by decide) rfl rfl (by decide) (by decide) rfl ?_
  refine mOk.iinc1 (y := nI 4) dX0_init_46 (by rfl) (by decide) rfl ?_
  refine mOk.goto (tgt := 26) dX0_init_49 (by decide) ?_
  refine mOk.iload1n dX0_init_26 rfl ?_
  refine mOk.iconst (x := nI 4) dX0_init_27 (by decide) ?_
  refine mOk.icge (tgt := 52) dX0_init_28 (by decide) (fun c28 => ?_) (fun c28 => absurd (by decide) c28)
  exact mOk.vret dX0_init_52 rfl (by decide) hQ
theorem i_X3_34 {Q : Option Value → mi_H → Prop} (hQ : Q none (zN 61 59)) : mCl mX3_init 3 26 172 [.ref 34] (zN 35 33) Q := by
  refine mCl.of (by decide) rfl (Nat.le_of_ble_eq_true rfl) ?_
  show mOk _ _ _ _ _ [some (.ref 34), none] _ _ _ _ _
  refine mOk.aload0n dX3_init_0 rfl ?_
  refine mOk.objI dX3_init_1 ml_X3_3 (by decide) (by decide) ?_
  refine mOk.aload0n dX3_init_4 rfl ?_
  refine mOk.iconst (x := nI 2) dX3_init_5 (by decide) ?_
  refine mOk.newaRZ (k := 35) (N := 2) (C := RX0) (kd := 13) dX3_init_6 cl_an_X3_9 (by decide) rfl (by decide) (by decide) rfl (by decide) ?_
  refine mOk.putRZ dX3_init_9 fl_X3_11 (by exact fun _ => ⟨rfl, rfl⟩) rfl rfl ?_
  refine mOk.aload0n dX3_init_12 rfl ?_
  refine mOk.iconst (x := nI 2) dX3_init_13 (by decide) ?_
  refine mOk.newaZZ (k := 36) (N := 2) dX3_init_14 rfl (by decide) (by decide) rfl (by decide) ?_
  refine mOk.putRZ dX3_init_16 fl_X3_17 (by exact fun _ => ⟨rfl, rfl⟩) rfl rfl ?_
  refine mOk.iconst (x := nI 0) dX3_init_19 (by decide) ?_
  refine mOk.istore1n dX3_init_20 rfl (by decide) rfl ?_
  refine mOk.iload1n dX3_init_21 rfl ?_
  refine mOk.iconst (x := nI 2) dX3_init_22 (by decide) ?_
  refine mOk.icge (tgt := 45) dX3_init_23 (by decide) (fun c23 => absurd c23 (by decide)) (fun c23 => ?_)
  refine mOk.aload0n dX3_init_26 rfl ?_
  refine mOk.getR (r := 35) dX3_init_27 fl_X3_11 rfl (by decide) ?_
  refine mOk.iload1n dX3_init_30 rfl ?_
  refine mOk.newZ (k := 37) dX3_init_31 cn_X3_9 (by decide) rfl (by decide) ?_
  refine mOk.dup dX3_init_34 rfl ?_
  refine mOk.callI0 (M' := mX0_init) dX3_init_35 ml_X3_21 ke_X0_init rfl (by decide) (by decide) (by simp [Value.category]) (i_X0_37 ?_)
  refine mOk.aastZ (j := 0) dX3_init_38 rfl (by decide) rfl rfl (by decide) (by decide) rfl ?_
  refine mOk.iinc1 (y := nI 1) dX3_init_39 (by rfl) (by decide) rfl ?_
  refine mOk.goto (tgt := 21) dX3_init_42 (by decide) ?_
  refine mOk.iload1n dX3_init_21 rfl ?_
  refine mOk.iconst (x := nI 2) dX3_init_22 (by decide) ?_
  refine mOk.icge (tgt := 45) dX3_init_23 (by decide) (fun c23 => absurd c23 (by decide)) (fun c23 => ?_)
  refine mOk.aload0n dX3_init_26 rfl ?_
  refine mOk.getR (r := 35) dX3_init_27 fl_X3_11 rfl (by decide) ?_
  refine mOk.iload1n dX3_init_30 rfl ?_
  refine mOk.newZ (k := 49) dX3_init_31 cn_X3_9 (by decide) rfl (by decide) ?_
  refine mOk.dup dX3_init_34 rfl ?_
  refine mOk.callI0 (M' := mX0_init) dX3_init_35 ml_X3_21 ke_X0_init rfl (by decide) (by decide) (by simp [Value.category]) (i_X0_49 ?_)
  refine mOk.aastZ (j := 1) dX3_init_38 rfl (by decide) rfl rfl (by decide) (by decide) rfl ?_
  refine mOk.iinc1 (y := nI 2) dX3_init_39 (by rfl) (by decide) rfl ?_
  refine mOk.goto (tgt := 21) dX3_init_42 (by decide) ?_
  refine mOk.iload1n dX3_init_21 rfl ?_
  refine mOk.iconst (x := nI 2) dX3_init_22 (by decide) ?_
  refine mOk.icge (tgt := 45) dX3_init_23 (by decide) (fun c23 => ?_) (fun c23 => absurd (by decide) c23)
  exact mOk.vret dX3_init_45 rfl (by decide) hQ
theorem i_X2_61 {Q : Option Value → mi_H → Prop} (hQ : Q none (zN 84 82)) : mCl mX2_init 2 22 200 [.ref 61] (zN 62 60) Q := by
  refine mCl.of (by decide) rfl (Nat.le_of_ble_eq_true rfl) ?_
  show mOk _ _ _ _ _ [some (.ref 61), none] _ _ _ _ _
  refine mOk.aload0n dX2_init_0 rfl ?_
  refine mOk.objI dX2_init_1 ml_X2_3 (by decide) (by decide) ?_
  refine mOk.aload0n dX2_init_4 rfl ?_
  refine mOk.bipush (x := nI 10) dX2_init_5 (by decide) ?_
  refine mOk.newaRZ (k := 62) (N := 10) (C := RX5) (kd := 14) dX2_init_7 cl_an_X2_9 (by decide) rfl (by decide) (by decide) rfl (by decide) ?_
  refine mOk.putRZ dX2_init_10 fl_X2_11 (by exact fun _ => ⟨rfl, rfl⟩) rfl rfl ?_
  refine mOk.aload0n dX2_init_13 rfl ?_
  refine mOk.bipush (x := nI 10) dX2_init_14 (by decide) ?_
  refine mOk.newaIZ (k := 63) (N := 10) dX2_init_16 rfl (by decide) (by decide) rfl (by decide) ?_
  refine mOk.putRZ dX2_init_18 fl_X2_17 (by exact fun _ => ⟨rfl, rfl⟩) rfl rfl ?_
  refine mOk.iconst (x := nI 0) dX2_init_21 (by decide) ?_
  refine mOk.istore1n dX2_init_22 rfl (by decide) rfl ?_
  refine mOk.iload1n dX2_init_23 rfl ?_
  refine mOk.bipush (x := nI 10) dX2_init_24 (by decide) ?_
  refine mOk.icge (tgt := 50) dX2_init_26 (by decide) (fun c26 => absurd c26 (by decide)) (fun c26 => ?_)
  refine mOk.aload0n dX2_init_29 rfl ?_
  refine mOk.getR (r := 62) dX2_init_30 fl_X2_11 rfl (by decide) ?_
  refine mOk.iload1n dX2_init_33 rfl ?_
  refine mOk.newZ (k := 64) dX2_init_34 cn_X2_9 (by decide) rfl (by decide) ?_
  refine mOk.dup dX2_init_37 rfl ?_
  refine mOk.bipush (x := nI 16) dX2_init_38 (by decide) ?_
  refine mOk.callI1 (M' := mX5_init) dX2_init_40 ml_X2_21 ke_X5_init rfl (by decide) (by decide) (by simp [Value.category]) (i_row (r := 64) (k := 65) (u := 62) (N := 16) rfl (by decide) rfl rfl (by decide) (by decide) (by decide) ?_)
  refine mOk.aastZ (j := 0) dX2_init_43 rfl (by decide) rfl rfl (by decide) (by decide) rfl ?_
  refine mOk.iinc1 (y := nI 1) dX2_init_44 (by rfl) (by decide) rfl ?_
  refine mOk.goto (tgt := 23) dX2_init_47 (by decide) ?_
  refine mOk.iload1n dX2_init_23 rfl ?_
  refine mOk.bipush (x := nI 10) dX2_init_24 (by decide) ?_
  refine mOk.icge (tgt := 50) dX2_init_26 (by decide) (fun c26 => absurd c26 (by decide)) (fun c26 => ?_)
  refine mOk.aload0n dX2_init_29 rfl ?_
  refine mOk.getR (r := 62) dX2_init_30 fl_X2_11 rfl (by decide) ?_
  refine mOk.iload1n dX2_init_33 rfl ?_
  refine mOk.newZ (k := 66) dX2_init_34 cn_X2_9 (by decide) rfl (by decide) ?_
  refine mOk.dup dX2_init_37 rfl ?_
  refine mOk.bipush (x := nI 16) dX2_init_38 (by decide) ?_
  refine mOk.callI1 (M' := mX5_init) dX2_init_40 ml_X2_21 ke_X5_init rfl (by decide) (by decide) (by simp [Value.category]) (i_row (r := 66) (k := 67) (u := 64) (N := 16) rfl (by decide) rfl rfl (by decide) (by decide) (by decide) ?_)
  refine mOk.aastZ (j := 1) dX2_init_43 rfl (by decide) rfl rfl (by decide) (by decide) rfl ?_
  refine mOk.iinc1 (y := nI 2) dX2_init_44 (by rfl) (by decide) rfl ?_
  refine mOk.goto (tgt := 23) dX2_init_47 (by decide) ?_
  refine mOk.iload1n dX2_init_23 rfl ?_
  refine mOk.bipush (x := nI 10) dX2_init_24 (by decide) ?_
  refine mOk.icge (tgt := 50) dX2_init_26 (by decide) (fun c26 => absurd c26 (by decide)) (fun c26 => ?_)
  refine mOk.aload0n dX2_init_29 rfl ?_
  refine mOk.getR (r := 62) dX2_init_30 fl_X2_11 rfl (by decide) ?_
  refine mOk.iload1n dX2_init_33 rfl ?_
  refine mOk.newZ (k := 68) dX2_init_34 cn_X2_9 (by decide) rfl (by decide) ?_
  refine mOk.dup dX2_init_37 rfl ?_
  refine mOk.bipush (x := nI 16) dX2_init_38 (by decide) ?_
  refine mOk.callI1 (M' := mX5_init) dX2_init_40 ml_X2_21 ke_X5_init rfl (by decide) (by decide) (by simp [Value.category]) (i_row (r := 68) (k := 69) (u := 66) (N := 16) rfl (by decide) rfl rfl (by decide) (by decide) (by decide) ?_)
  refine mOk.aastZ (j := 2) dX2_init_43 rfl (by decide) rfl rfl (by decide) (by decide) rfl ?_
  refine mOk.iinc1 (y := nI 3) dX2_init_44 (by rfl) (by decide) rfl ?_
  refine mOk.goto (tgt := 23) dX2_init_47 (by decide) ?_
  refine mOk.iload1n dX2_init_23 rfl ?_
  refine mOk.bipush (x := nI 10) dX2_init_24 (by decide) ?_
  refine mOk.icge (tgt := 50) dX2_init_26 (by decide) (fun c26 => absurd c26 (by decide)) (fun c26 => ?_)
  refine mOk.aload0n dX2_init_29 rfl ?_
  refine mOk.getR (r := 62) dX2_init_30 fl_X2_11 rfl (by decide) ?_
  refine mOk.iload1n dX2_init_33 rfl ?_
  refine mOk.newZ (k := 70) dX2_init_34 cn_X2_9 (by decide) rfl (by decide) ?_
  refine mOk.dup dX2_init_37 rfl ?_
  refine mOk.bipush (x := nI 16) dX2_init_38 (by decide) ?_
  refine mOk.callI1 (M' := mX5_init) dX2_init_40 ml_X2_21 ke_X5_init rfl (by decide) (by decide) (by simp [Value.category]) (i_row (r := 70) (k := 71) (u := 68) (N := 16) rfl (by decide) rfl rfl (by decide) (by decide) (by decide) ?_)
  refine mOk.aastZ (j := 3) dX2_init_43 rfl (by decide) rfl rfl (by decide) (by decide) rfl ?_
  refine mOk.iinc1 (y := nI 4) dX2_init_44 (by rfl) (by decide) rfl ?_
  refine mOk.goto (tgt := 23) dX2_init_47 (by decide) ?_
  refine mOk.iload1n dX2_init_23 rfl ?_
  refine mOk.bipush (x := nI 10) dX2_init_24 (by decide) ?_
  refine mOk.icge (tgt := 50) dX2_init_26 (by decide) (fun c26 => absurd c26 (by decide)) (fun c26 => ?_)
  refine mOk.aload0n dX2_init_29 rfl ?_
  refine mOk.getR (r := 62) dX2_init_30 fl_X2_11 rfl (by decide) ?_
  refine mOk.iload1n dX2_init_33 rfl ?_
  refine mOk.newZ (k := 72) dX2_init_34 cn_X2_9 (by decide) rfl (by decide) ?_
  refine mOk.dup dX2_init_37 rfl ?_
  refine mOk.bipush (x := nI 16) dX2_init_38 (by decide) ?_
  refine mOk.callI1 (M' := mX5_init) dX2_init_40 ml_X2_21 ke_X5_init rfl (by decide) (by decide) (by simp [Value.category]) (i_row (r := 72) (k := 73) (u := 70) (N := 16) rfl (by decide) rfl rfl (by decide) (by decide) (by decide) ?_)
  refine mOk.aastZ (j := 4) dX2_init_43 rfl (by decide) rfl rfl (by decide) (by decide) rfl ?_
  refine mOk.iinc1 (y := nI 5) dX2_init_44 (by rfl) (by decide) rfl ?_
  refine mOk.goto (tgt := 23) dX2_init_47 (by decide) ?_
  refine mOk.iload1n dX2_init_23 rfl ?_
  refine mOk.bipush (x := nI 10) dX2_init_24 (by decide) ?_
  refine mOk.icge (tgt := 50) dX2_init_26 (by decide) (fun c26 => absurd c26 (by decide)) (fun c26 => ?_)
  refine mOk.aload0n dX2_init_29 rfl ?_
  refine mOk.getR (r := 62) dX2_init_30 fl_X2_11 rfl (by decide) ?_
  refine mOk.iload1n dX2_init_33 rfl ?_
  refine mOk.newZ (k := 74) dX2_init_34 cn_X2_9 (by decide) rfl (by decide) ?_
  refine mOk.dup dX2_init_37 rfl ?_
  refine mOk.bipush (x := nI 16) dX2_init_38 (by decide) ?_
  refine mOk.callI1 (M' := mX5_init) dX2_init_40 ml_X2_21 ke_X5_init rfl (by decide) (by decide) (by simp [Value.category]) (i_row (r := 74) (k := 75) (u := 72) (N := 16) rfl (by decide) rfl rfl (by decide) (by decide) (by decide) ?_)
  refine mOk.aastZ (j := 5) dX2_init_43 rfl (by decide) rfl rfl (by decide) (by decide) rfl ?_
  refine mOk.iinc1 (y := nI 6) dX2_init_44 (by rfl) (by decide) rfl ?_
  refine mOk.goto (tgt := 23) dX2_init_47 (by decide) ?_
  refine mOk.iload1n dX2_init_23 rfl ?_
  refine mOk.bipush (x := nI 10) dX2_init_24 (by decide) ?_
  refine mOk.icge (tgt := 50) dX2_init_26 (by decide) (fun c26 => absurd c26 (by decide)) (fun c26 => ?_)
  refine mOk.aload0n dX2_init_29 rfl ?_
  refine mOk.getR (r := 62) dX2_init_30 fl_X2_11 rfl (by decide) ?_
  refine mOk.iload1n dX2_init_33 rfl ?_
  refine mOk.newZ (k := 76) dX2_init_34 cn_X2_9 (by decide) rfl (by decide) ?_
  refine mOk.dup dX2_init_37 rfl ?_
  refine mOk.bipush (x := nI 16) dX2_init_38 (by decide) ?_
  refine mOk.callI1 (M' := mX5_init) dX2_init_40 ml_X2_21 ke_X5_init rfl (by decide) (by decide) (by simp [Value.category]) (i_row (r := 76) (k := 77) (u := 74) (N := 16) rfl (by decide) rfl rfl (by decide) (by decide) (by decide) ?_)
  refine mOk.aastZ (j := 6) dX2_init_43 rfl (by decide) rfl rfl (by decide) (by decide) rfl ?_
  refine mOk.iinc1 (y := nI 7) dX2_init_44 (by rfl) (by decide) rfl ?_
  refine mOk.goto (tgt := 23) dX2_init_47 (by decide) ?_
  refine mOk.iload1n dX2_init_23 rfl ?_
  refine mOk.bipush (x := nI 10) dX2_init_24 (by decide) ?_
  refine mOk.icge (tgt := 50) dX2_init_26 (by decide) (fun c26 => absurd c26 (by decide)) (fun c26 => ?_)
  refine mOk.aload0n dX2_init_29 rfl ?_
  refine mOk.getR (r := 62) dX2_init_30 fl_X2_11 rfl (by decide) ?_
  refine mOk.iload1n dX2_init_33 rfl ?_
  refine mOk.newZ (k := 78) dX2_init_34 cn_X2_9 (by decide) rfl (by decide) ?_
  refine mOk.dup dX2_init_37 rfl ?_
  refine mOk.bipush (x := nI 16) dX2_init_38 (by decide) ?_
  refine mOk.callI1 (M' := mX5_init) dX2_init_40 ml_X2_21 ke_X5_init rfl (by decide) (by decide) (by simp [Value.category]) (i_row (r := 78) (k := 79) (u := 76) (N := 16) rfl (by decide) rfl rfl (by decide) (by decide) (by decide) ?_)
  refine mOk.aastZ (j := 7) dX2_init_43 rfl (by decide) rfl rfl (by decide) (by decide) rfl ?_
  refine mOk.iinc1 (y := nI 8) dX2_init_44 (by rfl) (by decide) rfl ?_
  refine mOk.goto (tgt := 23) dX2_init_47 (by decide) ?_
  refine mOk.iload1n dX2_init_23 rfl ?_
  refine mOk.bipush (x := nI 10) dX2_init_24 (by decide) ?_
  refine mOk.icge (tgt := 50) dX2_init_26 (by decide) (fun c26 => absurd c26 (by decide)) (fun c26 => ?_)
  refine mOk.aload0n dX2_init_29 rfl ?_
  refine mOk.getR (r := 62) dX2_init_30 fl_X2_11 rfl (by decide) ?_
  refine mOk.iload1n dX2_init_33 rfl ?_
  refine mOk.newZ (k := 80) dX2_init_34 cn_X2_9 (by decide) rfl (by decide) ?_
  refine mOk.dup dX2_init_37 rfl ?_
  refine mOk.bipush (x := nI 16) dX2_init_38 (by decide) ?_
  refine mOk.callI1 (M' := mX5_init) dX2_init_40 ml_X2_21 ke_X5_init rfl (by decide) (by decide) (by simp [Value.category]) (i_row (r := 80) (k := 81) (u := 78) (N := 16) rfl (by decide) rfl rfl (by decide) (by decide) (by decide) ?_)
  refine mOk.aastZ (j := 8) dX2_init_43 rfl (by decide) rfl rfl (by decide) (by decide) rfl ?_
  refine mOk.iinc1 (y := nI 9) dX2_init_44 (by rfl) (by decide) rfl ?_
  refine mOk.goto (tgt := 23) dX2_init_47 (by decide) ?_
  refine mOk.iload1n dX2_init_23 rfl ?_
  refine mOk.bipush (x := nI 10) dX2_init_24 (by decide) ?_
  refine mOk.icge (tgt := 50) dX2_init_26 (by decide) (fun c26 => absurd c26 (by decide)) (fun c26 => ?_)
  refine mOk.aload0n dX2_init_29 rfl ?_
  refine mOk.getR (r := 62) dX2_init_30 fl_X2_11 rfl (by decide) ?_
  refine mOk.iload1n dX2_init_33 rfl ?_
  refine mOk.newZ (k := 82) dX2_init_34 cn_X2_9 (by decide) rfl (by decide) ?_
  refine mOk.dup dX2_init_37 rfl ?_
  refine mOk.bipush (x := nI 16) dX2_init_38 (by decide) ?_
  refine mOk.callI1 (M' := mX5_init) dX2_init_40 ml_X2_21 ke_X5_init rfl (by decide) (by decide) (by simp [Value.category]) (i_row (r := 82) (k := 83) (u := 80) (N := 16) rfl (by decide) rfl rfl (by decide) (by decide) (by decide) ?_)
  refine mOk.aastZ (j := 9) dX2_init_43 rfl (by decide) rfl rfl (by decide) (by decide) rfl ?_
  refine mOk.iinc1 (y := nI 10) dX2_init_44 (by rfl) (by decide) rfl ?_
  refine mOk.goto (tgt := 23) dX2_init_47 (by decide) ?_
  refine mOk.iload1n dX2_init_23 rfl ?_
  refine mOk.bipush (x := nI 10) dX2_init_24 (by decide) ?_
  refine mOk.icge (tgt := 50) dX2_init_26 (by decide) (fun c26 => ?_) (fun c26 => absurd (by decide) c26)
  exact mOk.vret dX2_init_50 rfl (by decide) hQ
theorem i_X6_84 {Q : Option Value → mi_H → Prop} (hQ : Q none (zN 89 87)) : mCl mX6_init 2 4 164 [.ref 84] (zN 85 83) Q := by
  refine mCl.of (by decide) rfl (Nat.le_of_ble_eq_true rfl) ?_
  show mOk _ _ _ _ _ [some (.ref 84)] _ _ _ _ _
  refine mOk.aload0n dX6_init_0 rfl ?_
  refine mOk.objI dX6_init_1 ml_X6_3 (by decide) (by decide) ?_
  refine mOk.aload0n dX6_init_4 rfl ?_
  refine mOk.newZ (k := 85) dX6_init_5 cn_X6_9 (by decide) rfl (by decide) ?_
  refine mOk.dup dX6_init_8 rfl ?_
  refine mOk.bipush (x := nI 32) dX6_init_9 (by decide) ?_
  refine mOk.callI1 (M' := mX5_init) dX6_init_11 ml_X6_11 ke_X5_init rfl (by decide) (by decide) (by simp [Value.category]) (i_row (r := 85) (k := 86) (u := 83) (N := 32) rfl (by decide) rfl rfl (by decide) (by decide) (by decide) ?_)
  refine mOk.putRZ dX6_init_14 fl_X6_14 (by exact fun _ => ⟨rfl, rfl⟩) rfl rfl ?_
  refine mOk.aload0n dX6_init_17 rfl ?_
  refine mOk.newZ (k := 87) dX6_init_18 cn_X6_9 (by decide) rfl (by decide) ?_
  refine mOk.dup dX6_init_21 rfl ?_
  refine mOk.sipush (x := nI 128) dX6_init_22 (by decide) ?_
  refine mOk.callI1 (M' := mX5_init) dX6_init_25 ml_X6_11 ke_X5_init rfl (by decide) (by decide) (by simp [Value.category]) (i_row (r := 87) (k := 88) (u := 85) (N := 128) rfl (by decide) rfl rfl (by decide) (by decide) (by decide) ?_)
  refine mOk.putRZ dX6_init_28 fl_X6_20 (by exact fun _ => ⟨rfl, rfl⟩) rfl rfl ?_
  exact mOk.vret dX6_init_31 rfl (by decide) hQ
theorem i_X7_89 {Q : Option Value → mi_H → Prop} (hQ : Q none (zN 91 89)) : mCl mX7_init 1 1 129 [.ref 89] (zN 90 88) Q := by
  refine mCl.of (by decide) rfl (Nat.le_of_ble_eq_true rfl) ?_
  show mOk _ _ _ _ _ [some (.ref 89)] _ _ _ _ _
  refine mOk.aload0n dX7_init_0 rfl ?_
  refine mOk.objI dX7_init_1 ml_X7_3 (by decide) (by decide) ?_
  refine mOk.aload0n dX7_init_4 rfl ?_
  refine mOk.sipush (x := nI 129) dX7_init_5 (by decide) ?_
  refine mOk.newaJZ (k := 90) (N := 129) dX7_init_8 rfl (by decide) (by decide) rfl (by decide) ?_
  refine mOk.putRZ dX7_init_10 fl_X7_9 (by exact fun _ => ⟨rfl, rfl⟩) rfl rfl ?_
  exact mOk.vret dX7_init_13 rfl (by decide) hQ
theorem i_X8_0 {Q : Option Value → mi_H → Prop} (hQ : Q none (zN 97 96)) : mCl mX8_init 4 96 1775 [.ref 0] (zN 1 0) Q := by
  refine mCl.of (by decide) rfl (Nat.le_of_ble_eq_true rfl) ?_
  show mOk _ _ _ _ _ [some (.ref 0)] _ _ _ _ _
  refine mOk.aload0n dX8_init_0 rfl ?_
  refine mOk.objI dX8_init_1 ml_X8_3 (by decide) (by decide) ?_
  refine mOk.aload0n dX8_init_4 rfl ?_
  refine mOk.newZ (k := 1) dX8_init_5 cn_X8_9 (by decide) rfl (by decide) ?_
  refine mOk.dup dX8_init_8 rfl ?_
  refine mOk.callIN0 (host := "MarkOrder") (M' := mX4_init) dX8_init_9 (by decide +kernel) ke_X4_init rfl (by decide) (by decide) (by simp [Value.category]) (i_X4_1 ?_)
  refine mOk.putRZ dX8_init_12 fl_X8_12 (by exact fun _ => ⟨rfl, rfl⟩) rfl rfl ?_
  refine mOk.aload0n dX8_init_15 rfl ?_
  refine mOk.newZ (k := 4) dX8_init_16 cn_X8_16 (by decide) rfl (by decide) ?_
  refine mOk.dup dX8_init_19 rfl ?_
  refine mOk.callIN0 (host := "MarkOrder") (M' := mX1_init) dX8_init_20 (by decide +kernel) ke_X1_init rfl (by decide) (by decide) (by simp [Value.category]) (i_X1_4 ?_)
  refine mOk.putRZ dX8_init_23 fl_X8_19 (by intro z; cases z) rfl rfl ?_
  refine mOk.aload0n dX8_init_26 rfl ?_
  refine mOk.newZ (k := 13) dX8_init_27 cn_X8_16 (by decide) rfl (by decide) ?_
  refine mOk.dup dX8_init_30 rfl ?_
  refine mOk.callIN0 (host := "MarkOrder") (M' := mX1_init) dX8_init_31 (by decide +kernel) ke_X1_init rfl (by decide) (by decide) (by simp [Value.category]) (i_X1_13 ?_)
  refine mOk.putRZ dX8_init_34 fl_X8_23 (by intro z; cases z) rfl rfl ?_
  refine mOk.aload0n dX8_init_37 rfl ?_
  refine mOk.newZ (k := 22) dX8_init_38 cn_X8_26 (by decide) rfl (by decide) ?_
  refine mOk.dup dX8_init_41 rfl ?_
  refine mOk.callI0 (M' := mX0_init) dX8_init_42 ml_X8_28 ke_X0_init rfl (by decide) (by decide) (by simp [Value.category]) (i_X0_22 ?_)
  refine mOk.putRZ dX8_init_45 fl_X8_29 (by exact fun _ => ⟨rfl, rfl⟩) rfl rfl ?_
  refine mOk.aload0n dX8_init_48 rfl ?_
  refine mOk.newZ (k := 34) dX8_init_49 cn_X8_33 (by decide) rfl (by decide) ?_
  refine mOk.dup dX8_init_52 rfl ?_
  refine mOk.callI0 (M' := mX3_init) dX8_init_53 ml_X8_35 ke_X3_init rfl (by decide) (by decide) (by simp [Value.category]) (i_X3_34 ?_)
  refine mOk.putRZ dX8_init_56 fl_X8_36 (by exact fun _ => ⟨rfl, rfl⟩) rfl rfl ?_
  refine mOk.aload0n dX8_init_59 rfl ?_
  refine mOk.newZ (k := 61) dX8_init_60 cn_X8_40 (by decide) rfl (by decide) ?_
  refine mOk.dup dX8_init_63 rfl ?_
  refine mOk.callI0 (M' := mX2_init) dX8_init_64 ml_X8_42 ke_X2_init rfl (by decide) (by decide) (by simp [Value.category]) (i_X2_61 ?_)
  refine mOk.putRZ dX8_init_67 fl_X8_43 (by exact fun _ => ⟨rfl, rfl⟩) rfl rfl ?_
  refine mOk.aload0n dX8_init_70 rfl ?_
  refine mOk.newZ (k := 84) dX8_init_71 cn_X8_47 (by decide) rfl (by decide) ?_
  refine mOk.dup dX8_init_74 rfl ?_
  refine mOk.callIN0 (host := "MarkOrder") (M' := mX6_init) dX8_init_75 (by decide +kernel) ke_X6_init rfl (by decide) (by decide) (by simp [Value.category]) (i_X6_84 ?_)
  refine mOk.putRZ dX8_init_78 fl_X8_50 (by exact fun _ => ⟨rfl, rfl⟩) rfl rfl ?_
  refine mOk.aload0n dX8_init_81 rfl ?_
  refine mOk.newZ (k := 89) dX8_init_82 cn_X8_54 (by decide) rfl (by decide) ?_
  refine mOk.dup dX8_init_85 rfl ?_
  refine mOk.callIN0 (host := "MarkOrder") (M' := mX7_init) dX8_init_86 (by decide +kernel) ke_X7_init rfl (by decide) (by decide) (by simp [Value.category]) (i_X7_89 ?_)
  refine mOk.putRZ dX8_init_89 fl_X8_57 (by exact fun _ => ⟨rfl, rfl⟩) rfl rfl ?_
  refine mOk.aload0n dX8_init_92 rfl ?_
  refine mOk.newZ (k := 91) dX8_init_93 cn_X8_61 (by decide) rfl (by decide) ?_
  refine mOk.dup dX8_init_96 rfl ?_
  refine mOk.sipush (x := nI 128) dX8_init_97 (by decide) ?_
  refine mOk.callI1 (M' := mX5_init) dX8_init_100 ml_X8_63 ke_X5_init rfl (by decide) (by decide) (by simp [Value.category]) (i_row (r := 91) (k := 92) (u := 90) (N := 128) rfl (by decide) rfl rfl (by decide) (by decide) (by decide) ?_)
  refine mOk.putRZ dX8_init_103 fl_X8_66 (by exact fun _ => ⟨rfl, rfl⟩) rfl rfl ?_
  refine mOk.aload0n dX8_init_106 rfl ?_
  refine mOk.newZ (k := 93) dX8_init_107 cn_X8_61 (by decide) rfl (by decide) ?_
  refine mOk.dup dX8_init_110 rfl ?_
  refine mOk.sipush (x := nI 128) dX8_init_111 (by decide) ?_
  refine mOk.callI1 (M' := mX5_init) dX8_init_114 ml_X8_63 ke_X5_init rfl (by decide) (by decide) (by simp [Value.category]) (i_row (r := 93) (k := 94) (u := 92) (N := 128) rfl (by decide) rfl rfl (by decide) (by decide) (by decide) ?_)
  refine mOk.putRZ dX8_init_117 fl_X8_70 (by exact fun _ => ⟨rfl, rfl⟩) rfl rfl ?_
  refine mOk.aload0n dX8_init_120 rfl ?_
  refine mOk.newZ (k := 95) dX8_init_121 cn_X8_61 (by decide) rfl (by decide) ?_
  refine mOk.dup dX8_init_124 rfl ?_
  refine mOk.sipush (x := nI 128) dX8_init_125 (by decide) ?_
  refine mOk.callI1 (M' := mX5_init) dX8_init_128 ml_X8_63 ke_X5_init rfl (by decide) (by decide) (by simp [Value.category]) (i_row (r := 95) (k := 96) (u := 94) (N := 128) rfl (by decide) rfl rfl (by decide) (by decide) (by decide) ?_)
  refine mOk.putRZ dX8_init_131 fl_X8_73 (by exact fun _ => ⟨rfl, rfl⟩) rfl rfl ?_
  exact mOk.vret dX8_init_134 rfl (by decide) hQ
theorem i_X9_97 {Q : Option Value → mi_H → Prop} (hQ : Q none (zN 115 113)) : mCl mX9_init 1 17 1408 [.ref 97] (zN 98 96) Q := by
  refine mCl.of (by decide) rfl (Nat.le_of_ble_eq_true rfl) ?_
  show mOk _ _ _ _ _ [some (.ref 97)] _ _ _ _ _
  refine mOk.aload0n dX9_init_0 rfl ?_
  refine mOk.objI dX9_init_1 ml_X9_1 (by decide) (by decide) ?_
  refine mOk.aload0n dX9_init_4 rfl ?_
  refine mOk.bipush (x := nI 24) dX9_init_5 (by decide) ?_
  refine mOk.newaIZ (k := 98) (N := 24) dX9_init_7 rfl (by decide) (by decide) rfl (by decide) ?_
  refine mOk.putRZ dX9_init_9 fl_X9_7 (by exact fun _ => ⟨rfl, rfl⟩) rfl rfl ?_
  refine mOk.aload0n dX9_init_12 rfl ?_
  refine mOk.bipush (x := nI 24) dX9_init_13 (by decide) ?_
  refine mOk.newaIZ (k := 99) (N := 24) dX9_init_15 rfl (by decide) (by decide) rfl (by decide) ?_
  refine mOk.putRZ dX9_init_17 fl_X9_13 (by exact fun _ => ⟨rfl, rfl⟩) rfl rfl ?_
  refine mOk.aload0n dX9_init_20 rfl ?_
  refine mOk.bipush (x := nI 24) dX9_init_21 (by decide) ?_
  refine mOk.newaIZ (k := 100) (N := 24) dX9_init_23 rfl (by decide) (by decide) rfl (by decide) ?_
  refine mOk.putRZ dX9_init_25 fl_X9_16 (by exact fun _ => ⟨rfl, rfl⟩) rfl rfl ?_
  refine mOk.aload0n dX9_init_28 rfl ?_
  refine mOk.bipush (x := nI 24) dX9_init_29 (by decide) ?_
  refine mOk.newaIZ (k := 101) (N := 24) dX9_init_31 rfl (by decide) (by decide) rfl (by decide) ?_
  refine mOk.putRZ dX9_init_33 fl_X9_19 (by exact fun _ => ⟨rfl, rfl⟩) rfl rfl ?_
  refine mOk.aload0n dX9_init_36 rfl ?_
  refine mOk.bipush (x := nI 24) dX9_init_37 (by decide) ?_
  refine mOk.newaIZ (k := 102) (N := 24) dX9_init_39 rfl (by decide) (by decide) rfl (by decide) ?_
  refine mOk.putRZ dX9_init_41 fl_X9_22 (by exact fun _ => ⟨rfl, rfl⟩) rfl rfl ?_
  refine mOk.aload0n dX9_init_44 rfl ?_
  refine mOk.bipush (x := nI 96) dX9_init_45 (by decide) ?_
  refine mOk.newaIZ (k := 103) (N := 96) dX9_init_47 rfl (by decide) (by decide) rfl (by decide) ?_
  refine mOk.putRZ dX9_init_49 fl_X9_25 (by exact fun _ => ⟨rfl, rfl⟩) rfl rfl ?_
  refine mOk.aload0n dX9_init_52 rfl ?_
  refine mOk.sipush (x := nI 150) dX9_init_53 (by decide) ?_
  refine mOk.newaIZ (k := 104) (N := 150) dX9_init_56 rfl (by decide) (by decide) rfl (by decide) ?_
  refine mOk.putRZ dX9_init_58 fl_X9_28 (by exact fun _ => ⟨rfl, rfl⟩) rfl rfl ?_
  refine mOk.aload0n dX9_init_61 rfl ?_
  refine mOk.sipush (x := nI 193) dX9_init_62 (by decide) ?_
  refine mOk.newaIZ (k := 105) (N := 193) dX9_init_65 rfl (by decide) (by decide) rfl (by decide) ?_
  refine mOk.putRZ dX9_init_67 fl_X9_31 (by exact fun _ => ⟨rfl, rfl⟩) rfl rfl ?_
  refine mOk.aload0n dX9_init_70 rfl ?_
  refine mOk.iconst (x := nI 4) dX9_init_71 (by decide) ?_
  refine mOk.newaIZ (k := 106) (N := 4) dX9_init_72 rfl (by decide) (by decide) rfl (by decide) ?_
  refine mOk.putRZ dX9_init_74 fl_X9_34 (by exact fun _ => ⟨rfl, rfl⟩) rfl rfl ?_
  refine mOk.aload0n dX9_init_77 rfl ?_
  refine mOk.bipush (x := nI 64) dX9_init_78 (by decide) ?_
  refine mOk.newaIZ (k := 107) (N := 64) dX9_init_80 rfl (by decide) (by decide) rfl (by decide) ?_
  refine mOk.putRZ dX9_init_82 fl_X9_37 (by exact fun _ => ⟨rfl, rfl⟩) rfl rfl ?_
  refine mOk.aload0n dX9_init_85 rfl ?_
  refine mOk.iconst (x := nI 4) dX9_init_86 (by decide) ?_
  refine mOk.newaIZ (k := 108) (N := 4) dX9_init_87 rfl (by decide) (by decide) rfl (by decide) ?_
  refine mOk.putRZ dX9_init_89 fl_X9_40 (by exact fun _ => ⟨rfl, rfl⟩) rfl rfl ?_
  refine mOk.aload0n dX9_init_92 rfl ?_
  refine mOk.sipush (x := nI 180) dX9_init_93 (by decide) ?_
  refine mOk.newaIZ (k := 109) (N := 180) dX9_init_96 rfl (by decide) (by decide) rfl (by decide) ?_
  refine mOk.putRZ dX9_init_98 fl_X9_43 (by exact fun _ => ⟨rfl, rfl⟩) rfl rfl ?_
  refine mOk.aload0n dX9_init_101 rfl ?_
  refine mOk.sipush (x := nI 128) dX9_init_102 (by decide) ?_
  refine mOk.newaIZ (k := 110) (N := 128) dX9_init_105 rfl (by decide) (by decide) rfl (by decide) ?_
  refine mOk.putRZ dX9_init_107 fl_X9_46 (by exact fun _ => ⟨rfl, rfl⟩) rfl rfl ?_
  refine mOk.aload0n dX9_init_110 rfl ?_
  refine mOk.sipush (x := nI 128) dX9_init_111 (by decide) ?_
  refine mOk.newaIZ (k := 111) (N := 128) dX9_init_114 rfl (by decide) (by decide) rfl (by decide) ?_
  refine mOk.putRZ dX9_init_116 fl_X9_49 (by exact fun _ => ⟨rfl, rfl⟩) rfl rfl ?_
  refine mOk.aload0n dX9_init_119 rfl ?_
  refine mOk.sipush (x := nI 128) dX9_init_120 (by decide) ?_
  refine mOk.newaIZ (k := 112) (N := 128) dX9_init_123 rfl (by decide) (by decide) rfl (by decide) ?_
  refine mOk.putRZ dX9_init_125 fl_X9_52 (by exact fun _ => ⟨rfl, rfl⟩) rfl rfl ?_
  refine mOk.aload0n dX9_init_128 rfl ?_
  refine mOk.bipush (x := nI 65) dX9_init_129 (by decide) ?_
  refine mOk.newaJZ (k := 113) (N := 65) dX9_init_131 rfl (by decide) (by decide) rfl (by decide) ?_
  refine mOk.putRZ dX9_init_133 fl_X9_55 (by exact fun _ => ⟨rfl, rfl⟩) rfl rfl ?_
  refine mOk.aload0n dX9_init_136 rfl ?_
  refine mOk.sipush (x := nI 148) dX9_init_137 (by decide) ?_
  refine mOk.newaIZ (k := 114) (N := 148) dX9_init_140 rfl (by decide) (by decide) rfl (by decide) ?_
  refine mOk.putRZ dX9_init_142 fl_X9_59 (by exact fun _ => ⟨rfl, rfl⟩) rfl rfl ?_
  exact mOk.vret dX9_init_145 rfl (by decide) hQ
