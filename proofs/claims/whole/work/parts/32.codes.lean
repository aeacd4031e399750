/-! ===== Codes ===== -/
/-- a code: its kind, class, first one, second one, pieces -/
abbrev CR : Type := Int32 × Int32 × Int32 × Int32 × List Int32
def tG (T : List CR) (c : Int32) : Option CR := if c < 0 then none else T[c.toNatClampNeg]?
def tK (T : List CR) (c : Int32) : Int32 := match tG T c with
  | some q => q.1
  | none => -9
def tC (T : List CR) (c : Int32) : Int32 := match tG T c with
  | some q => q.2.1
  | none => -9
def tF (T : List CR) (c : Int32) : Int32 := match tG T c with
  | some q => q.2.2.1
  | none => -9
def tS (T : List CR) (c : Int32) : Int32 := match tG T c with
  | some q => q.2.2.2.1
  | none => -9
def tP (T : List CR) (c : Int32) : List Int32 := match tG T c with
  | some q => q.2.2.2.2
  | none => []
theorem tG_in {T : List CR} {j : Nat} (hj : j < 100000) : tG T (nI j) = T[j]? := by
  unfold tG
  rw [if_neg (nI_neg' hj), nI_clamp (show j < 2 ^ 31 by omega)]
theorem tG_out {T : List CR} {c : Int32} (hT : T.length < 100000) (h : c < 0 ∨ nI T.length ≤ c) : tG T c = none := by
  unfold tG
  split
  · rfl
  · next hc =>
    have h := h.resolve_left hc
    obtain ⟨j, hj, rfl⟩ := nI_of hc
    rw [nI_clamp hj]
    have := (nI_leI (show T.length < 2 ^ 31 by omega) hj).mp h
    exact List.getElem?_eq_none this
theorem ixc (c : Int32) {n : Nat} (hn : n < 100000) : (c < 0 ∨ nI n ≤ c) ∨ ∃ j : Nat, j < n ∧ c = nI j := by
  rcases pk_ix c (show n < 2 ^ 31 by omega) with h | h | h
  · exact Or.inl (Or.inl h)
  · exact Or.inl (Or.inr h)
  · exact Or.inr h
theorem tG_at {T : List CR} {j : Nat} (hj : j < T.length) (hT : T.length < 100000) : ∃ q, T[j]? = some q ∧ tG T (nI j) = some q := by
  refine ⟨T[j], List.getElem?_eq_getElem hj, ?_⟩
  rw [tG_in (by omega), List.getElem?_eq_getElem hj]
/-- the pairs, in their order -/
def prs (T : List CR) : List Int32 := (T.zipIdx.filter (fun q => decide (q.1.1 = 1))).map (fun q => nI q.2)
theorem prs_app (T : List CR) (q : CR) : prs (T ++ [q]) = prs T ++ (if q.1 = 1 then [nI T.length] else []) := by
  unfold prs
  rw [List.zipIdx_append, List.filter_append, List.map_append]
  by_cases h : q.1 = 1 <;> simp [h]
/-- what Codes at cb holds -/
def Cd (I : Nat → Nat → Int32) (cb : Nat) (T : List CR) : Prop := (cb = 4 ∨ cb = 13) ∧ T.length ≤ 24 ∧ I cb 7 = nI T.length ∧ (∀ j q, T[j]? = some q → I (cb + 1) j = q.1 ∧ I (cb + 2) j = q.2.1 ∧ I (cb + 3) j = q.2.2.1 ∧ I (cb + 4) j = q.2.2.2.1 ∧ I (cb + 5) j = nI q.2.2.2.2.length ∧ q.2.2.2.2.length ≤ 4 ∧ ∀ k p, q.2.2.2.2[k]? = some p → I (cb + 6) (j * 4 + k) = p) ∧ Rw I (cb + 7) (cb + 8) 7 (prs T)
theorem cdK {cb : Nat} (h : cb = 4 ∨ cb = 13) : KK[cb]? = some (1, 8) ∧ KK[cb + 1]? = some (10, 24) ∧ KK[cb + 2]? = some (10, 24) ∧ KK[cb + 3]? = some (10, 24) ∧ KK[cb + 4]? = some (10, 24) ∧ KK[cb + 5]? = some (10, 24) ∧ KK[cb + 6]? = some (10, 96) ∧ KK[cb + 7]? = some (5, 2) ∧ KK[cb + 8]? = some (10, 7) := by
  rcases h with rfl | rfl <;> exact ⟨rfl, rfl, rfl, rfl, rfl, rfl, rfl, rfl, rfl⟩
theorem cdP {cb : Nat} (h : cb = 4 ∨ cb = 13) (sw : Bool) : PQ sw cb 0 = some (cb + 1) ∧ PQ sw cb 1 = some (cb + 2) ∧ PQ sw cb 2 = some (cb + 3) ∧ PQ sw cb 3 = some (cb + 4) ∧ PQ sw cb 4 = some (cb + 5) ∧ PQ sw cb 5 = some (cb + 6) ∧ PQ sw cb 6 = some (cb + 7) := by
  rcases h with rfl | rfl <;> exact ⟨rfl, rfl, rfl, rfl, rfl, rfl, rfl⟩
section CODES
variable {sw : Bool} {I : Nat → Nat → Int32} {J : Nat → Nat → Int64} {cb : Nat} {T : List CR} {Q : Option Value → mi_H → Prop}
theorem c_size (hx : Cd I cb T) (hQ : Q (some (.int (nI T.length))) (hS sw I J)) : mCl mX1_size 0 0 0 [.ref cb] (hS sw I J) Q := by
  obtain ⟨k0, k1, k2, k3, k4, k5, k6, k7, k8⟩ := cdK hx.1
  refine mCl.of (by decide) rfl (Nat.le_of_ble_eq_true rfl) ?_
  show mOk _ _ _ _ _ [some (.ref cb)] _ _ _ _ _
  refine mOk.aload0n dX1_size_0 rfl ?_
  refine mOk.getIv dX1_size_1 fl_X1_39 (by first | assumption | rfl) hx.2.2.1 ?_
  refine mOk.iret dX1_size_4 rfl hQ
theorem c_holds_in (hx : Cd I cb T) {j : Nat} (hj : j < T.length) (hQ : Q (some (.int 1)) (hS sw I J)) : mCl mX1_holds 0 0 0 [.ref cb, .int (nI j)] (hS sw I J) Q := by
  obtain ⟨k0, k1, k2, k3, k4, k5, k6, k7, k8⟩ := cdK hx.1
  have hl := hx.2.1
  refine mCl.of (by decide) rfl (Nat.le_of_ble_eq_true rfl) ?_
  show mOk _ _ _ _ _ [some (.ref cb), some (.int (nI j))] _ _ _ _ _
  refine mOk.iload1n dX1_holds_0 rfl ?_
  refine mOk.iflt (tgt := 22) dX1_holds_1 (by decide) (fun c1 => absurd c1 (nI_neg' (by omega))) (fun c1 => ?_)
  refine mOk.iload1n dX1_holds_4 rfl ?_
  refine mOk.aload0n dX1_holds_5 rfl ?_
  refine mOk.getIv dX1_holds_6 fl_X1_39 (by first | assumption | rfl) hx.2.2.1 ?_
  refine mOk.icge (tgt := 22) dX1_holds_9 (by decide) (fun c9 => absurd c9 (mt (nI_le' (by omega) (by omega)).mp (by omega))) (fun c9 => ?_)
  refine mOk.iload1n dX1_holds_12 rfl ?_
  refine mOk.bipush (x := nI 24) dX1_holds_13 (by decide) ?_
  refine mOk.icge (tgt := 22) dX1_holds_15 (by decide) (fun c15 => absurd c15 (mt (nI_le' (by omega) (by omega)).mp (by omega))) (fun c15 => ?_)
  refine mOk.iconst (x := 1) dX1_holds_18 (by decide) ?_
  refine mOk.goto (tgt := 23) dX1_holds_19 (by decide) ?_
  refine mOk.zret dX1_holds_23 rfl (by decide) hQ
theorem c_holds_out (hx : Cd I cb T) {i : Int32} (hi : i < 0 ∨ nI T.length ≤ i) (hQ : Q (some (.int 0)) (hS sw I J)) : mCl mX1_holds 0 0 0 [.ref cb, .int i] (hS sw I J) Q := by
  obtain ⟨k0, k1, k2, k3, k4, k5, k6, k7, k8⟩ := cdK hx.1
  refine mCl.of (by decide) rfl (Nat.le_of_ble_eq_true rfl) ?_
  show mOk _ _ _ _ _ [some (.ref cb), some (.int i)] _ _ _ _ _
  refine mOk.iload1n dX1_holds_0 rfl ?_
  refine mOk.iflt (tgt := 22) dX1_holds_1 (by decide) (fun c1 => ?_) (fun c1 => ?_)
  · refine mOk.iconst (x := 0) dX1_holds_22 (by decide) ?_
    refine mOk.zret dX1_holds_23 rfl (by decide) hQ
  refine mOk.iload1n dX1_holds_4 rfl ?_
  refine mOk.aload0n dX1_holds_5 rfl ?_
  refine mOk.getIv dX1_holds_6 fl_X1_39 (by first | assumption | rfl) hx.2.2.1 ?_
  refine mOk.icge (tgt := 22) dX1_holds_9 (by decide) (fun c9 => ?_) (fun c9 => ?_)
  · refine mOk.iconst (x := 0) dX1_holds_22 (by decide) ?_
    refine mOk.zret dX1_holds_23 rfl (by decide) hQ
  · exact absurd hi (fun z => z.elim c1 c9)
theorem c_kindOf (hx : Cd I cb T) {c : Int32} (hQ : Q (some (.int (tK T c))) (hS sw I J)) : mCl mX1_kindOf 1 0 0 [.ref cb, .int c] (hS sw I J) Q := by
  obtain ⟨k0, k1, k2, k3, k4, k5, k6, k7, k8⟩ := cdK hx.1
  obtain ⟨p0, p1, p2, p3, p4, p5, p6⟩ := cdP hx.1 sw
  have hl := hx.2.1
  refine mCl.of (by decide) rfl (Nat.le_of_ble_eq_true rfl) ?_
  show mOk _ _ _ _ _ [some (.ref cb), some (.int c)] _ _ _ _ _
  rcases ixc c (n := T.length) (by omega) with h | ⟨j, hj, rfl⟩
  · refine mOk.aload0n dX1_kindOf_0 rfl ?_
    refine mOk.iload1n dX1_kindOf_1 rfl ?_
    refine mOk.callV1 (M' := mX1_holds) dX1_kindOf_2 ml_X1_47 ke_X1_holds (by first | assumption | rfl) (by decide) (by decide) (by simp [Value.category]) (c_holds_out hx h ?_)
    refine mOk.ifeq (tgt := 17) dX1_kindOf_5 (by decide) (fun c5 => ?_) (fun c5 => absurd (rfl) c5)
    refine mOk.bipush (x := -9) dX1_kindOf_17 (by decide) ?_
    refine mOk.iret dX1_kindOf_19 rfl ?_
    unfold tK at hQ
    rw [tG_out (by omega) h] at hQ
    exact hQ
  · obtain ⟨q, hq, hg⟩ := tG_at hj (by omega)
    refine mOk.aload0n dX1_kindOf_0 rfl ?_
    refine mOk.iload1n dX1_kindOf_1 rfl ?_
    refine mOk.callV1 (M' := mX1_holds) dX1_kindOf_2 ml_X1_47 ke_X1_holds (by first | assumption | rfl) (by decide) (by decide) (by simp [Value.category]) (c_holds_in hx hj ?_)
    refine mOk.ifeq (tgt := 17) dX1_kindOf_5 (by decide) (fun c5 => absurd c5 ((by decide))) (fun c5 => ?_)
    refine mOk.aload0n dX1_kindOf_8 rfl ?_
    refine mOk.getR dX1_kindOf_9 fl_X1_9 (by first | assumption | rfl) (by first | assumption | rfl) ?_
    refine mOk.iload1n dX1_kindOf_12 rfl ?_
    refine mOk.ialdv dX1_kindOf_13 (by first | assumption | rfl) rfl (by omega) (by first | assumption | decide | omega) ((hx.2.2.2.1 j q hq).1) ?_
    refine mOk.goto (tgt := 19) dX1_kindOf_14 (by decide) ?_
    refine mOk.iret dX1_kindOf_19 rfl ?_
    unfold tK at hQ
    rw [hg] at hQ
    exact hQ
theorem c_classOf (hx : Cd I cb T) {c : Int32} (hQ : Q (some (.int (tC T c))) (hS sw I J)) : mCl mX1_classOf 1 0 0 [.ref cb, .int c] (hS sw I J) Q := by
  obtain ⟨k0, k1, k2, k3, k4, k5, k6, k7, k8⟩ := cdK hx.1
  obtain ⟨p0, p1, p2, p3, p4, p5, p6⟩ := cdP hx.1 sw
  have hl := hx.2.1
  refine mCl.of (by decide) rfl (Nat.le_of_ble_eq_true rfl) ?_
  show mOk _ _ _ _ _ [some (.ref cb), some (.int c)] _ _ _ _ _
  rcases ixc c (n := T.length) (by omega) with h | ⟨j, hj, rfl⟩
  · refine mOk.aload0n dX1_classOf_0 rfl ?_
    refine mOk.iload1n dX1_classOf_1 rfl ?_
    refine mOk.callV1 (M' := mX1_holds) dX1_classOf_2 ml_X1_47 ke_X1_holds (by first | assumption | rfl) (by decide) (by decide) (by simp [Value.category]) (c_holds_out hx h ?_)
    refine mOk.ifeq (tgt := 17) dX1_classOf_5 (by decide) (fun c5 => ?_) (fun c5 => absurd (rfl) c5)
    refine mOk.bipush (x := -9) dX1_classOf_17 (by decide) ?_
    refine mOk.iret dX1_classOf_19 rfl ?_
    unfold tC at hQ
    rw [tG_out (by omega) h] at hQ
    exact hQ
  · obtain ⟨q, hq, hg⟩ := tG_at hj (by omega)
    refine mOk.aload0n dX1_classOf_0 rfl ?_
    refine mOk.iload1n dX1_classOf_1 rfl ?_
    refine mOk.callV1 (M' := mX1_holds) dX1_classOf_2 ml_X1_47 ke_X1_holds (by first | assumption | rfl) (by decide) (by decide) (by simp [Value.category]) (c_holds_in hx hj ?_)
    refine mOk.ifeq (tgt := 17) dX1_classOf_5 (by decide) (fun c5 => absurd c5 ((by decide))) (fun c5 => ?_)
    refine mOk.aload0n dX1_classOf_8 rfl ?_
    refine mOk.getR dX1_classOf_9 fl_X1_15 (by first | assumption | rfl) (by first | assumption | rfl) ?_
    refine mOk.iload1n dX1_classOf_12 rfl ?_
    refine mOk.ialdv dX1_classOf_13 (by first | assumption | rfl) rfl (by omega) (by first | assumption | decide | omega) ((hx.2.2.2.1 j q hq).2.1) ?_
    refine mOk.goto (tgt := 19) dX1_classOf_14 (by decide) ?_
    refine mOk.iret dX1_classOf_19 rfl ?_
    unfold tC at hQ
    rw [hg] at hQ
    exact hQ
theorem c_firstOf (hx : Cd I cb T) {c : Int32} (hQ : Q (some (.int (tF T c))) (hS sw I J)) : mCl mX1_firstOf 1 0 0 [.ref cb, .int c] (hS sw I J) Q := by
  obtain ⟨k0, k1, k2, k3, k4, k5, k6, k7, k8⟩ := cdK hx.1
  obtain ⟨p0, p1, p2, p3, p4, p5, p6⟩ := cdP hx.1 sw
  have hl := hx.2.1
  refine mCl.of (by decide) rfl (Nat.le_of_ble_eq_true rfl) ?_
  show mOk _ _ _ _ _ [some (.ref cb), some (.int c)] _ _ _ _ _
  rcases ixc c (n := T.length) (by omega) with h | ⟨j, hj, rfl⟩
  · refine mOk.aload0n dX1_firstOf_0 rfl ?_
    refine mOk.iload1n dX1_firstOf_1 rfl ?_
    refine mOk.callV1 (M' := mX1_holds) dX1_firstOf_2 ml_X1_47 ke_X1_holds (by first | assumption | rfl) (by decide) (by decide) (by simp [Value.category]) (c_holds_out hx h ?_)
    refine mOk.ifeq (tgt := 17) dX1_firstOf_5 (by decide) (fun c5 => ?_) (fun c5 => absurd (rfl) c5)
    refine mOk.bipush (x := -9) dX1_firstOf_17 (by decide) ?_
    refine mOk.iret dX1_firstOf_19 rfl ?_
    unfold tF at hQ
    rw [tG_out (by omega) h] at hQ
    exact hQ
  · obtain ⟨q, hq, hg⟩ := tG_at hj (by omega)
    refine mOk.aload0n dX1_firstOf_0 rfl ?_
    refine mOk.iload1n dX1_firstOf_1 rfl ?_
    refine mOk.callV1 (M' := mX1_holds) dX1_firstOf_2 ml_X1_47 ke_X1_holds (by first | assumption | rfl) (by decide) (by decide) (by simp [Value.category]) (c_holds_in hx hj ?_)
    refine mOk.ifeq (tgt := 17) dX1_firstOf_5 (by decide) (fun c5 => absurd c5 ((by decide))) (fun c5 => ?_)
    refine mOk.aload0n dX1_firstOf_8 rfl ?_
    refine mOk.getR dX1_firstOf_9 fl_X1_18 (by first | assumption | rfl) (by first | assumption | rfl) ?_
    refine mOk.iload1n dX1_firstOf_12 rfl ?_
    refine mOk.ialdv dX1_firstOf_13 (by first | assumption | rfl) rfl (by omega) (by first | assumption | decide | omega) ((hx.2.2.2.1 j q hq).2.2.1) ?_
    refine mOk.goto (tgt := 19) dX1_firstOf_14 (by decide) ?_
    refine mOk.iret dX1_firstOf_19 rfl ?_
    unfold tF at hQ
    rw [hg] at hQ
    exact hQ
theorem c_secondOf (hx : Cd I cb T) {c : Int32} (hQ : Q (some (.int (tS T c))) (hS sw I J)) : mCl mX1_secondOf 1 0 0 [.ref cb, .int c] (hS sw I J) Q := by
  obtain ⟨k0, k1, k2, k3, k4, k5, k6, k7, k8⟩ := cdK hx.1
  obtain ⟨p0, p1, p2, p3, p4, p5, p6⟩ := cdP hx.1 sw
  have hl := hx.2.1
  refine mCl.of (by decide) rfl (Nat.le_of_ble_eq_true rfl) ?_
  show mOk _ _ _ _ _ [some (.ref cb), some (.int c)] _ _ _ _ _
  rcases ixc c (n := T.length) (by omega) with h | ⟨j, hj, rfl⟩
  · refine mOk.aload0n dX1_secondOf_0 rfl ?_
    refine mOk.iload1n dX1_secondOf_1 rfl ?_
    refine mOk.callV1 (M' := mX1_holds) dX1_secondOf_2 ml_X1_47 ke_X1_holds (by first | assumption | rfl) (by decide) (by decide) (by simp [Value.category]) (c_holds_out hx h ?_)
    refine mOk.ifeq (tgt := 17) dX1_secondOf_5 (by decide) (fun c5 => ?_) (fun c5 => absurd (rfl) c5)
    refine mOk.bipush (x := -9) dX1_secondOf_17 (by decide) ?_
    refine mOk.iret dX1_secondOf_19 rfl ?_
    unfold tS at hQ
    rw [tG_out (by omega) h] at hQ
    exact hQ
  · obtain ⟨q, hq, hg⟩ := tG_at hj (by omega)
    refine mOk.aload0n dX1_secondOf_0 rfl ?_
    refine mOk.iload1n dX1_secondOf_1 rfl ?_
    refine mOk.callV1 (M' := mX1_holds) dX1_secondOf_2 ml_X1_47 ke_X1_holds (by first | assumption | rfl) (by decide) (by decide) (by simp [Value.category]) (c_holds_in hx hj ?_)
    refine mOk.ifeq (tgt := 17) dX1_secondOf_5 (by decide) (fun c5 => absurd c5 ((by decide))) (fun c5 => ?_)
    refine mOk.aload0n dX1_secondOf_8 rfl ?_
    refine mOk.getR dX1_secondOf_9 fl_X1_21 (by first | assumption | rfl) (by first | assumption | rfl) ?_
    refine mOk.iload1n dX1_secondOf_12 rfl ?_
    refine mOk.ialdv dX1_secondOf_13 (by first | assumption | rfl) rfl (by omega) (by first | assumption | decide | omega) ((hx.2.2.2.1 j q hq).2.2.2.1) ?_
    refine mOk.goto (tgt := 19) dX1_secondOf_14 (by decide) ?_
    refine mOk.iret dX1_secondOf_19 rfl ?_
    unfold tS at hQ
    rw [hg] at hQ
    exact hQ
theorem c_pieceCount (hx : Cd I cb T) {c : Int32} (hQ : Q (some (.int (nI (tP T c).length))) (hS sw I J)) : mCl mX1_pieceCount 1 0 0 [.ref cb, .int c] (hS sw I J) Q := by
  obtain ⟨k0, k1, k2, k3, k4, k5, k6, k7, k8⟩ := cdK hx.1
  obtain ⟨p0, p1, p2, p3, p4, p5, p6⟩ := cdP hx.1 sw
  have hl := hx.2.1
  refine mCl.of (by decide) rfl (Nat.le_of_ble_eq_true rfl) ?_
  show mOk _ _ _ _ _ [some (.ref cb), some (.int c)] _ _ _ _ _
  rcases ixc c (n := T.length) (by omega) with h | ⟨j, hj, rfl⟩
  · refine mOk.aload0n dX1_pieceCount_0 rfl ?_
    refine mOk.iload1n dX1_pieceCount_1 rfl ?_
    refine mOk.callV1 (M' := mX1_holds) dX1_pieceCount_2 ml_X1_47 ke_X1_holds (by first | assumption | rfl) (by decide) (by decide) (by simp [Value.category]) (c_holds_out hx h ?_)
    refine mOk.ifeq (tgt := 17) dX1_pieceCount_5 (by decide) (fun c5 => ?_) (fun c5 => absurd (rfl) c5)
    refine mOk.iconst (x := nI 0) dX1_pieceCount_17 (by decide) ?_
    refine mOk.iret dX1_pieceCount_18 rfl ?_
    unfold tP at hQ
    rw [tG_out (by omega) h] at hQ
    exact hQ
  · obtain ⟨q, hq, hg⟩ := tG_at hj (by omega)
    refine mOk.aload0n dX1_pieceCount_0 rfl ?_
    refine mOk.iload1n dX1_pieceCount_1 rfl ?_
    refine mOk.callV1 (M' := mX1_holds) dX1_pieceCount_2 ml_X1_47 ke_X1_holds (by first | assumption | rfl) (by decide) (by decide) (by simp [Value.category]) (c_holds_in hx hj ?_)
    refine mOk.ifeq (tgt := 17) dX1_pieceCount_5 (by decide) (fun c5 => absurd c5 ((by decide))) (fun c5 => ?_)
    refine mOk.aload0n dX1_pieceCount_8 rfl ?_
    refine mOk.getR dX1_pieceCount_9 fl_X1_24 (by first | assumption | rfl) (by first | assumption | rfl) ?_
    refine mOk.iload1n dX1_pieceCount_12 rfl ?_
    refine mOk.ialdv dX1_pieceCount_13 (by first | assumption | rfl) rfl (by omega) (by first | assumption | decide | omega) ((hx.2.2.2.1 j q hq).2.2.2.2.1) ?_
    refine mOk.goto (tgt := 18) dX1_pieceCount_14 (by decide) ?_
    refine mOk.iret dX1_pieceCount_18 rfl ?_
    unfold tP at hQ
    rw [hg] at hQ
    exact hQ
theorem Cd.le4 (hx : Cd I cb T) (c : Int32) : (tP T c).length ≤ 4 := by
  unfold tP tG
  split
  · next q hq =>
    split at hq
    · cases hq
    · exact (hx.2.2.2.1 _ q hq).2.2.2.2.2.1
  · exact Nat.zero_le _
theorem c_piece (hx : Cd I cb T) {c : Int32} {k : Nat} (hk : k < 100000) (hQ : Q (some (.int ((tP T c).getD k (-9)))) (hS sw I J)) : mCl mX1_piece 1 0 0 [.ref cb, .int c, .int (nI k)] (hS sw I J) Q := by
  obtain ⟨k0, k1, k2, k3, k4, k5, k6, k7, k8⟩ := cdK hx.1
  obtain ⟨p0, p1, p2, p3, p4, p5, p6⟩ := cdP hx.1 sw
  have hl := hx.2.1
  have h4 := hx.le4 c
  refine mCl.of (by decide) rfl (Nat.le_of_ble_eq_true rfl) ?_
  show mOk _ _ _ _ _ [some (.ref cb), some (.int c), some (.int (nI k))] _ _ _ _ _
  rcases ixc c (n := T.length) (by omega) with h | ⟨j, hj, rfl⟩
  · refine mOk.aload0n dX1_piece_0 rfl ?_
    refine mOk.iload1n dX1_piece_1 rfl ?_
    refine mOk.callV1 (M' := mX1_holds) dX1_piece_2 ml_X1_47 ke_X1_holds (by first | assumption | rfl) (by decide) (by decide) (by simp [Value.category]) (c_holds_out hx h ?_)
    refine mOk.ifeq (tgt := 27) dX1_piece_5 (by decide) (fun c5 => ?_) (fun c5 => absurd (rfl) c5)
    refine mOk.bipush (x := -9) dX1_piece_27 (by decide) ?_
    refine mOk.iret dX1_piece_29 rfl ?_
    unfold tP at hQ
    rw [tG_out (by omega) h] at hQ
    exact hQ
  · obtain ⟨q, hq, hg⟩ := tG_at hj (by omega)
    have hp : tP T (nI j) = q.2.2.2.2 := by unfold tP; rw [hg]
    rw [hp] at hQ h4
    have hz := hx.2.2.2.1 j q hq
    have hout : ¬ k < q.2.2.2.2.length → q.2.2.2.2.getD k (-9) = -9 := fun z => by rw [List.getD_eq_getElem?_getD, List.getElem?_eq_none (by omega)]; rfl
    refine mOk.aload0n dX1_piece_0 rfl ?_
    refine mOk.iload1n dX1_piece_1 rfl ?_
    refine mOk.callV1 (M' := mX1_holds) dX1_piece_2 ml_X1_47 ke_X1_holds (by first | assumption | rfl) (by decide) (by decide) (by simp [Value.category]) (c_holds_in hx hj ?_)
    refine mOk.ifeq (tgt := 27) dX1_piece_5 (by decide) (fun c5 => absurd c5 ((by decide))) (fun c5 => ?_)
    refine mOk.iload2n dX1_piece_8 rfl ?_
    refine mOk.iflt (tgt := 27) dX1_piece_9 (by decide) (fun c9 => absurd c9 (nI_neg' hk)) (fun c9 => ?_)
    refine mOk.iload2n dX1_piece_12 rfl ?_
    refine mOk.iconst (x := nI 4) dX1_piece_13 (by decide) ?_
    refine mOk.icge (tgt := 27) dX1_piece_14 (by decide) (fun c14 => ?_) (fun c14 => ?_)
    · have := (nI_le' (by omega) (by omega)).mp c14
      refine mOk.bipush (x := -9) dX1_piece_27 (by decide) ?_
      refine mOk.iret dX1_piece_29 rfl ?_
      rw [hout (by omega)] at hQ
      exact hQ
    · have hk4 : k < 4 := by
        rcases Nat.lt_or_ge k 4 with z | z
        · exact z
        · exact absurd ((nI_le' (by omega) (by omega)).mpr z) c14
      refine mOk.iload2n dX1_piece_17 rfl ?_
      refine mOk.aload0n dX1_piece_18 rfl ?_
      refine mOk.getR dX1_piece_19 fl_X1_24 (by first | assumption | rfl) (by first | assumption | rfl) ?_
      refine mOk.iload1n dX1_piece_22 rfl ?_
      refine mOk.ialdv dX1_piece_23 (by first | assumption | rfl) rfl (by omega) (by first | assumption | decide | omega) hz.2.2.2.2.1 ?_
      refine mOk.iclt (tgt := 30) dX1_piece_24 (by decide) (fun c24 => ?_) (fun c24 => ?_)
      · have hk2 := (nI_lt' (by omega) (by omega)).mp c24
        refine mOk.aload0n dX1_piece_30 rfl ?_
        refine mOk.getR dX1_piece_31 fl_X1_27 (by first | assumption | rfl) (by first | assumption | rfl) ?_
        refine mOk.iload1n dX1_piece_34 rfl ?_
        refine mOk.iconst (x := nI 4) dX1_piece_35 (by decide) ?_
        refine mOk.imul dX1_piece_36 ?_
        refine mOk.top (pk_mul j 4) ?_
        refine mOk.iload2n dX1_piece_37 rfl ?_
        refine mOk.iadd dX1_piece_38 ?_
        refine mOk.top (nI_add (j * 4) k) ?_
        refine mOk.ialdv dX1_piece_39 (by first | assumption | rfl) rfl (by omega) (by first | assumption | decide | omega) (hz.2.2.2.2.2.2 k _ (getD_at hk2 (-9))) ?_
        refine mOk.iret dX1_piece_40 rfl ?_
        exact hQ
      · refine mOk.bipush (x := -9) dX1_piece_27 (by decide) ?_
        refine mOk.iret dX1_piece_29 rfl ?_
        rw [hout (mt (nI_lt' (by omega) (by omega)).mpr c24)] at hQ
        exact hQ
theorem c_isBase (hx : Cd I cb T) {c : Int32} (hQ : Q (some (.int (if tC T c = 0 then 1 else 0))) (hS sw I J)) : mCl mX1_isBase 2 0 0 [.ref cb, .int c] (hS sw I J) Q := by
  obtain ⟨k0, k1, k2, k3, k4, k5, k6, k7, k8⟩ := cdK hx.1
  refine mCl.of (by decide) rfl (Nat.le_of_ble_eq_true rfl) ?_
  show mOk _ _ _ _ _ [some (.ref cb), some (.int c)] _ _ _ _ _
  refine mOk.aload0n dX1_isBase_0 rfl ?_
  refine mOk.iload1n dX1_isBase_1 rfl ?_
  refine mOk.callV1 (M' := mX1_classOf) dX1_isBase_2 ml_X1_51 ke_X1_classOf (by first | assumption | rfl) (by decide) (by decide) (by simp [Value.category]) (c_classOf hx ?_)
  refine mOk.ifne (tgt := 12) dX1_isBase_5 (by decide) (fun c5 => ?_) (fun c5 => ?_)
  · refine mOk.iconst (x := 0) dX1_isBase_12 (by decide) ?_
    refine mOk.zret dX1_isBase_13 rfl (by decide) ?_
    rw [if_neg c5] at hQ
    exact hQ
  · refine mOk.iconst (x := 1) dX1_isBase_8 (by decide) ?_
    refine mOk.goto (tgt := 13) dX1_isBase_9 (by decide) ?_
    refine mOk.zret dX1_isBase_13 rfl (by decide) ?_
    rw [if_pos c5] at hQ
    exact hQ
theorem c_isFull (hx : Cd I cb T) (hQ : Q (some (.int (if T.length < 24 then 0 else 1))) (hS sw I J)) : mCl mX1_isFull 0 0 0 [.ref cb] (hS sw I J) Q := by
  obtain ⟨k0, k1, k2, k3, k4, k5, k6, k7, k8⟩ := cdK hx.1
  have hl := hx.2.1
  refine mCl.of (by decide) rfl (Nat.le_of_ble_eq_true rfl) ?_
  show mOk _ _ _ _ _ [some (.ref cb)] _ _ _ _ _
  refine mOk.aload0n dX1_isFull_0 rfl ?_
  refine mOk.getIv dX1_isFull_1 fl_X1_39 (by first | assumption | rfl) hx.2.2.1 ?_
  refine mOk.bipush (x := nI 24) dX1_isFull_4 (by decide) ?_
  refine mOk.iclt (tgt := 13) dX1_isFull_6 (by decide) (fun c6 => ?_) (fun c6 => ?_)
  · refine mOk.iconst (x := 0) dX1_isFull_13 (by decide) ?_
    refine mOk.zret dX1_isFull_14 rfl (by decide) ?_
    rw [if_pos ((nI_lt' (by omega) (by omega)).mp c6)] at hQ
    exact hQ
  · refine mOk.iconst (x := 1) dX1_isFull_9 (by decide) ?_
    refine mOk.goto (tgt := 14) dX1_isFull_10 (by decide) ?_
    refine mOk.zret dX1_isFull_14 rfl (by decide) ?_
    rw [if_neg (mt (nI_lt' (by omega) (by omega)).mpr c6)] at hQ
    exact hQ
theorem c_hasRoom (hx : Cd I cb T) (hQ : Q (some (.int (if (prs T).length < 7 then 1 else 0))) (hS sw I J)) : mCl mX1_hasRoomForPair 1 0 0 [.ref cb] (hS sw I J) Q := by
  obtain ⟨k0, k1, k2, k3, k4, k5, k6, k7, k8⟩ := cdK hx.1
  obtain ⟨p0, p1, p2, p3, p4, p5, p6⟩ := cdP hx.1 sw
  have hr := hx.2.2.2.2
  have hl := hr.2.1
  refine mCl.of (by decide) rfl (Nat.le_of_ble_eq_true rfl) ?_
  show mOk _ _ _ _ _ [some (.ref cb)] _ _ _ _ _
  refine mOk.aload0n dX1_hasRoomForPair_0 rfl ?_
  refine mOk.getR dX1_hasRoomForPair_1 fl_X1_35 (by first | assumption | rfl) (by first | assumption | rfl) ?_
  refine mOk.callV0 (M' := mX5_length) dX1_hasRoomForPair_4 ml_X1_43 ke_X5_length (by first | assumption | rfl) (by decide) (by decide) (by simp [Value.category]) (c_length hr ?_)
  refine mOk.bipush (x := nI 7) dX1_hasRoomForPair_7 (by decide) ?_
  refine mOk.icge (tgt := 16) dX1_hasRoomForPair_9 (by decide) (fun c9 => ?_) (fun c9 => ?_)
  · refine mOk.iconst (x := 0) dX1_hasRoomForPair_16 (by decide) ?_
    refine mOk.zret dX1_hasRoomForPair_17 rfl (by decide) ?_
    have := (nI_le' (by omega) (by omega)).mp c9
    rw [if_neg (by omega)] at hQ
    exact hQ
  · refine mOk.iconst (x := 1) dX1_hasRoomForPair_12 (by decide) ?_
    refine mOk.goto (tgt := 17) dX1_hasRoomForPair_13 (by decide) ?_
    refine mOk.zret dX1_hasRoomForPair_17 rfl (by decide) ?_
    have := mt (nI_le' (by omega) (by omega)).mpr c9
    rw [if_pos (by omega)] at hQ
    exact hQ
end CODES
