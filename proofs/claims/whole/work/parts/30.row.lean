/-! ===== Row ===== -/
def rowAt (r ra cap : Nat) : Prop := KK[r]? = some (5, 2) ∧ KK[ra]? = some (10, cap) ∧ (∀ sw, PQ sw r 0 = some ra) ∧ cap < 100000 ∧ r ≠ ra
/-- the Row r (its array ra, of cap places) holds xs -/
def Rw (I : Nat → Nat → Int32) (r ra cap : Nat) (xs : List Int32) : Prop := rowAt r ra cap ∧ xs.length ≤ cap ∧ I r 1 = nI xs.length ∧ ∀ j x, xs[j]? = some x → I ra j = x
/-- nothing has changed but in the cells S -/
def Off (S : List Nat) (I I' : Nat → Nat → Int32) : Prop := ∀ a, a ∉ S → I' a = I a
theorem Off.rf {S : List Nat} {I : Nat → Nat → Int32} : Off S I I := fun _ _ => rfl
theorem Off.tr {S : List Nat} {I I' I'' : Nat → Nat → Int32} (h1 : Off S I I') (h2 : Off S I' I'') : Off S I I'' := fun a ha => (h2 a ha).trans (h1 a ha)
theorem Off.up {S S' : List Nat} {I I' : Nat → Nat → Int32} (h : Off S I I') (hs : ∀ a ∈ S, a ∈ S') : Off S' I I' := fun a ha => h a (fun z => ha (hs a z))
theorem Off.w {S : List Nat} {I : Nat → Nat → Int32} {a i : Nat} {x : Int32} (h : a ∈ S) : Off S I (wI I a i x) := fun b hb => wI_c (fun z => hb (z ▸ h))
theorem Rw.off {S : List Nat} {I I' : Nat → Nat → Int32} {r ra cap : Nat} {xs : List Int32} (h : Rw I r ra cap xs) (ho : Off S I I') (h1 : r ∉ S) (h2 : ra ∉ S) : Rw I' r ra cap xs := ⟨h.1, h.2.1, by rw [ho r h1]; exact h.2.2.1, by rw [ho ra h2]; exact h.2.2.2⟩
theorem nI_le' {a b : Nat} (ha : a < 100000) (hb : b < 100000) : nI a ≤ nI b ↔ a ≤ b := nI_leI (by omega) (by omega)
theorem nI_lt' {a b : Nat} (ha : a < 100000) (hb : b < 100000) : nI a < nI b ↔ a < b := nI_ltI (by omega) (by omega)
theorem nI_eq' {a b : Nat} (ha : a < 100000) (hb : b < 100000) : nI a = nI b ↔ a = b := nI_eq (by omega) (by omega)
theorem nI_neg' {a : Nat} (ha : a < 100000) : ¬ nI a < 0 := nI_pos (by omega)
theorem getD_at {xs : List Int32} {j : Nat} (h : j < xs.length) (v : Int32) : xs[j]? = some (xs.getD j v) := by
  rw [List.getD_eq_getElem?_getD, List.getElem?_eq_getElem h]; rfl
theorem Rw.at {I : Nat → Nat → Int32} {r ra cap : Nat} {xs : List Int32} (h : Rw I r ra cap xs) {j : Nat} (hj : j < xs.length) : I ra j = xs.getD j (-9) := h.2.2.2 j _ (getD_at hj _)
section ROW
variable {sw : Bool} {I : Nat → Nat → Int32} {J : Nat → Nat → Int64} {r ra cap : Nat} {xs : List Int32} {Q : Option Value → mi_H → Prop}
theorem c_length (hx : Rw I r ra cap xs) (hQ : Q (some (.int (nI xs.length))) (hS sw I J)) : mCl mX5_length 0 0 0 [.ref r] (hS sw I J) Q := by
  obtain ⟨⟨k1, k2, k3, k4, k5⟩, hl, hn, hc⟩ := hx
  refine mCl.of (by decide) rfl (Nat.le_of_ble_eq_true rfl) ?_
  show mOk _ _ _ _ _ [some (.ref r)] _ _ _ _ _
  refine mOk.aload0n dX5_length_0 rfl ?_
  refine mOk.getIv dX5_length_1 fl_X5_21 (by first | assumption | rfl) hn ?_
  refine mOk.iret dX5_length_4 rfl hQ
/-- in range -/
theorem c_has_in (hx : Rw I r ra cap xs) {j : Nat} (hj : j < xs.length) (hQ : Q (some (.int 1)) (hS sw I J)) : mCl mX5_has 0 0 0 [.ref r, .int (nI j)] (hS sw I J) Q := by
  obtain ⟨⟨k1, k2, k3, k4, k5⟩, hl, hn, hc⟩ := hx
  refine mCl.of (by decide) rfl (Nat.le_of_ble_eq_true rfl) ?_
  show mOk _ _ _ _ _ [some (.ref r), some (.int (nI j))] _ _ _ _ _
  refine mOk.iload1n dX5_has_0 rfl ?_
  refine mOk.iflt (tgt := 25) dX5_has_1 (by decide) (fun c1 => absurd c1 (nI_neg' (by omega))) (fun c1 => ?_)
  refine mOk.iload1n dX5_has_4 rfl ?_
  refine mOk.aload0n dX5_has_5 rfl ?_
  refine mOk.getIv dX5_has_6 fl_X5_21 (by first | assumption | rfl) hn ?_
  refine mOk.icge (tgt := 25) dX5_has_9 (by decide) (fun c9 => absurd c9 (mt (nI_le' (by omega) (by omega)).mp (by omega))) (fun c9 => ?_)
  refine mOk.iload1n dX5_has_12 rfl ?_
  refine mOk.aload0n dX5_has_13 rfl ?_
  refine mOk.getR dX5_has_14 fl_X5_15 (by first | assumption | rfl) (k3 sw) ?_
  refine mOk.alen dX5_has_17 (by first | assumption | rfl) rfl rfl ?_
  refine mOk.icge (tgt := 25) dX5_has_18 (by decide) (fun c18 => absurd c18 (mt (nI_le' (by omega) (by omega)).mp (by omega))) (fun c18 => ?_)
  refine mOk.iconst (x := 1) dX5_has_21 (by decide) ?_
  refine mOk.goto (tgt := 26) dX5_has_22 (by decide) ?_
  refine mOk.zret dX5_has_26 rfl (by decide) hQ
theorem c_has_out (hx : Rw I r ra cap xs) {i : Int32} (hi : i < 0 ∨ nI xs.length ≤ i) (hQ : Q (some (.int 0)) (hS sw I J)) : mCl mX5_has 0 0 0 [.ref r, .int i] (hS sw I J) Q := by
  obtain ⟨⟨k1, k2, k3, k4, k5⟩, hl, hn, hc⟩ := hx
  refine mCl.of (by decide) rfl (Nat.le_of_ble_eq_true rfl) ?_
  show mOk _ _ _ _ _ [some (.ref r), some (.int i)] _ _ _ _ _
  refine mOk.iload1n dX5_has_0 rfl ?_
  refine mOk.iflt (tgt := 25) dX5_has_1 (by decide) (fun c1 => ?_) (fun c1 => ?_)
  · refine mOk.iconst (x := 0) dX5_has_25 (by decide) ?_
    refine mOk.zret dX5_has_26 rfl (by decide) hQ
  refine mOk.iload1n dX5_has_4 rfl ?_
  refine mOk.aload0n dX5_has_5 rfl ?_
  refine mOk.getIv dX5_has_6 fl_X5_21 (by first | assumption | rfl) hn ?_
  refine mOk.icge (tgt := 25) dX5_has_9 (by decide) (fun c9 => ?_) (fun c9 => ?_)
  · refine mOk.iconst (x := 0) dX5_has_25 (by decide) ?_
    refine mOk.zret dX5_has_26 rfl (by decide) hQ
  · exact absurd hi (fun z => z.elim c1 c9)
theorem c_cell_in (hx : Rw I r ra cap xs) {j : Nat} (hj : j < xs.length) (hQ : Q (some (.int (xs.getD j (-9)))) (hS sw I J)) : mCl mX5_cell 1 0 0 [.ref r, .int (nI j)] (hS sw I J) Q := by
  have hx0 := hx
  have hv := hx.at hj
  obtain ⟨⟨k1, k2, k3, k4, k5⟩, hl, hn, hc⟩ := hx
  refine mCl.of (by decide) rfl (Nat.le_of_ble_eq_true rfl) ?_
  show mOk _ _ _ _ _ [some (.ref r), some (.int (nI j))] _ _ _ _ _
  refine mOk.aload0n dX5_cell_0 rfl ?_
  refine mOk.iload1n dX5_cell_1 rfl ?_
  refine mOk.callV1 (M' := mX5_has) dX5_cell_2 ml_X5_25 ke_X5_has (by first | assumption | rfl) (by decide) (by decide) (by simp [Value.category]) (c_has_in hx0 hj ?_)
  refine mOk.ifeq (tgt := 17) dX5_cell_5 (by decide) (fun c5 => absurd c5 ((by decide))) (fun c5 => ?_)
  refine mOk.aload0n dX5_cell_8 rfl ?_
  refine mOk.getR dX5_cell_9 fl_X5_15 (by first | assumption | rfl) (k3 sw) ?_
  refine mOk.iload1n dX5_cell_12 rfl ?_
  refine mOk.ialdv dX5_cell_13 (by first | assumption | rfl) rfl (by omega) (by first | assumption | decide | omega) hv ?_
  refine mOk.goto (tgt := 19) dX5_cell_14 (by decide) ?_
  refine mOk.iret dX5_cell_19 rfl hQ
theorem c_cell_out (hx : Rw I r ra cap xs) {i : Int32} (hi : i < 0 ∨ nI xs.length ≤ i) (hQ : Q (some (.int (-9))) (hS sw I J)) : mCl mX5_cell 1 0 0 [.ref r, .int i] (hS sw I J) Q := by
  have hx0 := hx
  obtain ⟨⟨k1, k2, k3, k4, k5⟩, hl, hn, hc⟩ := hx
  refine mCl.of (by decide) rfl (Nat.le_of_ble_eq_true rfl) ?_
  show mOk _ _ _ _ _ [some (.ref r), some (.int i)] _ _ _ _ _
  refine mOk.aload0n dX5_cell_0 rfl ?_
  refine mOk.iload1n dX5_cell_1 rfl ?_
  refine mOk.callV1 (M' := mX5_has) dX5_cell_2 ml_X5_25 ke_X5_has (by first | assumption | rfl) (by decide) (by decide) (by simp [Value.category]) (c_has_out hx0 hi ?_)
  refine mOk.ifeq (tgt := 17) dX5_cell_5 (by decide) (fun c5 => ?_) (fun c5 => absurd (rfl) c5)
  refine mOk.bipush (x := -9) dX5_cell_17 (by decide) ?_
  refine mOk.iret dX5_cell_19 rfl hQ
theorem c_rempty (hx : Rw I r ra cap xs) (hQ : ∀ I', Rw I' r ra cap [] → Off [r, ra] I I' → Q none (hS sw I' J)) : mCl mX5_empty 0 0 0 [.ref r] (hS sw I J) Q := by
  obtain ⟨⟨k1, k2, k3, k4, k5⟩, hl, hn, hc⟩ := hx
  refine mCl.of (by decide) rfl (Nat.le_of_ble_eq_true rfl) ?_
  show mOk _ _ _ _ _ [some (.ref r)] _ _ _ _ _
  refine mOk.aload0n dX5_empty_0 rfl ?_
  refine mOk.iconst (x := nI 0) dX5_empty_1 (by decide) ?_
  refine mOk.putIt dX5_empty_2 fl_X5_21 (by first | assumption | rfl) ?_
  refine mOk.vret dX5_empty_5 rfl (by decide) ?_
  exact hQ _ ⟨⟨k1, k2, k3, k4, k5⟩, Nat.zero_le _, wI_s _ _ _ _, fun j x h => by simp at h⟩ (Off.w (by simp))
theorem c_push (hx : Rw I r ra cap xs) (hlt : xs.length < cap) {v : Int32} (hQ : ∀ I', Rw I' r ra cap (xs ++ [v]) → Off [r, ra] I I' → Q (some (.int 1)) (hS sw I' J)) : mCl mX5_push 0 0 0 [.ref r, .int v] (hS sw I J) Q := by
  obtain ⟨⟨k1, k2, k3, k4, k5⟩, hl, hn, hc⟩ := hx
  refine mCl.of (by decide) rfl (Nat.le_of_ble_eq_true rfl) ?_
  show mOk _ _ _ _ _ [some (.ref r), some (.int v)] _ _ _ _ _
  refine mOk.aload0n dX5_push_0 rfl ?_
  refine mOk.getIv dX5_push_1 fl_X5_21 (by first | assumption | rfl) hn ?_
  refine mOk.iflt (tgt := 19) dX5_push_4 (by decide) (fun c4 => absurd c4 (nI_neg' (by omega))) (fun c4 => ?_)
  refine mOk.aload0n dX5_push_7 rfl ?_
  refine mOk.getIv dX5_push_8 fl_X5_21 (by first | assumption | rfl) hn ?_
  refine mOk.aload0n dX5_push_11 rfl ?_
  refine mOk.getR dX5_push_12 fl_X5_15 (by first | assumption | rfl) (k3 sw) ?_
  refine mOk.alen dX5_push_15 (by first | assumption | rfl) rfl rfl ?_
  refine mOk.iclt (tgt := 21) dX5_push_16 (by decide) (fun c16 => ?_) (fun c16 => absurd ((nI_lt' (by omega) (by omega)).mpr hlt) c16)
  refine mOk.aload0n dX5_push_21 rfl ?_
  refine mOk.getR dX5_push_22 fl_X5_15 (by first | assumption | rfl) (k3 sw) ?_
  refine mOk.aload0n dX5_push_25 rfl ?_
  refine mOk.getIv dX5_push_26 fl_X5_21 (by first | assumption | rfl) hn ?_
  refine mOk.iload1n dX5_push_29 rfl ?_
  refine mOk.iastt dX5_push_30 (by first | assumption | rfl) rfl (by omega) (by first | assumption | decide | omega) ?_
  refine mOk.aload0n dX5_push_31 rfl ?_
  refine mOk.dup dX5_push_32 rfl ?_
  refine mOk.getIv dX5_push_33 fl_X5_21 (by first | assumption | rfl) ((congrFun (wI_c k5) 1).trans hn) ?_
  refine mOk.iconst (x := nI 1) dX5_push_36 (by decide) ?_
  refine mOk.iadd dX5_push_37 ?_
  refine mOk.putIt dX5_push_38 fl_X5_21 (by first | assumption | rfl) ?_
  refine mOk.iconst (x := 1) dX5_push_41 (by decide) ?_
  refine mOk.zret dX5_push_42 rfl (by decide) ?_
  refine hQ _ ⟨⟨k1, k2, k3, k4, k5⟩, by simp; omega, ?_, fun j x h => ?_⟩ (Off.tr (Off.w (a := ra) (by simp)) (Off.w (by simp)))
  · rw [wI_s, List.length_append]; exact nI_1 _
  · rw [wI_c (Ne.symm k5)]
    rcases Nat.lt_or_ge j xs.length with q | q
    · rw [List.getElem?_append_left q] at h
      rw [wI_j (by omega)]
      exact hc j x h
    · rw [List.getElem?_append_right q] at h
      have hj : j - xs.length < 1 := (List.getElem?_eq_some_iff.mp h).1
      rw [show j = xs.length by omega] at h ⊢
      simp at h
      rw [wI_s, h]
theorem c_push_full (hx : Rw I r ra cap xs) (hlt : xs.length = cap) {v : Int32} (hQ : Q (some (.int 0)) (hS sw I J)) : mCl mX5_push 0 0 0 [.ref r, .int v] (hS sw I J) Q := by
  obtain ⟨⟨k1, k2, k3, k4, k5⟩, hl, hn, hc⟩ := hx
  refine mCl.of (by decide) rfl (Nat.le_of_ble_eq_true rfl) ?_
  show mOk _ _ _ _ _ [some (.ref r), some (.int v)] _ _ _ _ _
  refine mOk.aload0n dX5_push_0 rfl ?_
  refine mOk.getIv dX5_push_1 fl_X5_21 (by first | assumption | rfl) hn ?_
  refine mOk.iflt (tgt := 19) dX5_push_4 (by decide) (fun c4 => absurd c4 (nI_neg' (by omega))) (fun c4 => ?_)
  refine mOk.aload0n dX5_push_7 rfl ?_
  refine mOk.getIv dX5_push_8 fl_X5_21 (by first | assumption | rfl) hn ?_
  refine mOk.aload0n dX5_push_11 rfl ?_
  refine mOk.getR dX5_push_12 fl_X5_15 (by first | assumption | rfl) (k3 sw) ?_
  refine mOk.alen dX5_push_15 (by first | assumption | rfl) rfl rfl ?_
  refine mOk.iclt (tgt := 21) dX5_push_16 (by decide) (fun c16 => absurd c16 (mt (nI_lt' (by omega) (by omega)).mp (by omega))) (fun c16 => ?_)
  refine mOk.iconst (x := 0) dX5_push_19 (by decide) ?_
  refine mOk.zret dX5_push_20 rfl (by decide) hQ
theorem c_shorten (hx : Rw I r ra cap xs) {m : Nat} (hm : m ≤ xs.length) (hQ : ∀ I', Rw I' r ra cap (xs.take m) → Off [r, ra] I I' → Q none (hS sw I' J)) : mCl mX5_shorten 0 0 0 [.ref r, .int (nI m)] (hS sw I J) Q := by
  have hx0 := hx
  obtain ⟨⟨k1, k2, k3, k4, k5⟩, hl, hn, hc⟩ := hx
  refine mCl.of (by decide) rfl (Nat.le_of_ble_eq_true rfl) ?_
  show mOk _ _ _ _ _ [some (.ref r), some (.int (nI m))] _ _ _ _ _
  refine mOk.iload1n dX5_shorten_0 rfl ?_
  refine mOk.iflt (tgt := 17) dX5_shorten_1 (by decide) (fun c1 => absurd c1 (nI_neg' (by omega))) (fun c1 => ?_)
  refine mOk.iload1n dX5_shorten_4 rfl ?_
  refine mOk.aload0n dX5_shorten_5 rfl ?_
  refine mOk.getIv dX5_shorten_6 fl_X5_21 (by first | assumption | rfl) hn ?_
  refine mOk.icge (tgt := 17) dX5_shorten_9 (by decide) (fun c9 => ?_) (fun c9 => ?_)
  · refine mOk.vret dX5_shorten_17 rfl (by decide) ?_
    have e : m = xs.length := by have := (nI_le' (by omega) (by omega)).mp c9; omega
    refine hQ _ ?_ Off.rf
    rw [e, List.take_length]
    exact hx0
  · refine mOk.aload0n dX5_shorten_12 rfl ?_
    refine mOk.iload1n dX5_shorten_13 rfl ?_
    refine mOk.putIt dX5_shorten_14 fl_X5_21 (by first | assumption | rfl) ?_
    refine mOk.vret dX5_shorten_17 rfl (by decide) ?_
    refine hQ _ ⟨⟨k1, k2, k3, k4, k5⟩, by simp; omega, ?_, fun j x h => ?_⟩ (Off.w (by simp))
    · rw [wI_s, List.length_take, Nat.min_eq_left hm]
    · rw [wI_c (Ne.symm k5)]
      exact hc j x (by
        rw [List.getElem?_take] at h
        split at h
        · exact h
        · cases h)
theorem c_setCell (hx : Rw I r ra cap xs) {j : Nat} (hj : j < xs.length) {v : Int32} (hQ : ∀ I', Rw I' r ra cap (xs.set j v) → Off [r, ra] I I' → Q none (hS sw I' J)) : mCl mX5_setCell 1 0 0 [.ref r, .int (nI j), .int v] (hS sw I J) Q := by
  have hx0 := hx
  obtain ⟨⟨k1, k2, k3, k4, k5⟩, hl, hn, hc⟩ := hx
  refine mCl.of (by decide) rfl (Nat.le_of_ble_eq_true rfl) ?_
  show mOk _ _ _ _ _ [some (.ref r), some (.int (nI j)), some (.int v)] _ _ _ _ _
  refine mOk.aload0n dX5_setCell_0 rfl ?_
  refine mOk.iload1n dX5_setCell_1 rfl ?_
  refine mOk.callV1 (M' := mX5_has) dX5_setCell_2 ml_X5_25 ke_X5_has (by first | assumption | rfl) (by decide) (by decide) (by simp [Value.category]) (c_has_in hx0 hj ?_)
  refine mOk.ifeq (tgt := 15) dX5_setCell_5 (by decide) (fun c5 => absurd c5 ((by decide))) (fun c5 => ?_)
  refine mOk.aload0n dX5_setCell_8 rfl ?_
  refine mOk.getR dX5_setCell_9 fl_X5_15 (by first | assumption | rfl) (k3 sw) ?_
  refine mOk.iload1n dX5_setCell_12 rfl ?_
  refine mOk.iload2n dX5_setCell_13 rfl ?_
  refine mOk.iastt dX5_setCell_14 (by first | assumption | rfl) rfl (by omega) (by first | assumption | decide | omega) ?_
  refine mOk.vret dX5_setCell_15 rfl (by decide) ?_
  refine hQ _ ⟨⟨k1, k2, k3, k4, k5⟩, by simp; omega, ?_, fun i x h => ?_⟩ (Off.w (by simp))
  · rw [wI_c k5, List.length_set]; exact hn
  · by_cases e : j = i
    · subst e
      rw [List.getElem?_set_self hj] at h
      cases h
      exact wI_s _ _ _ _
    · rw [List.getElem?_set_ne e] at h
      rw [wI_j (fun z => e z.symm)]
      exact hc i x h
/-- two neighbours change places -/
def swp (xs : List Int32) (j : Nat) : List Int32 := (xs.set (j + 1) (xs.getD j (-9))).set j (xs.getD (j + 1) (-9))
theorem c_swap (hx : Rw I r ra cap xs) {j : Nat} (hj : j + 1 < xs.length) (hQ : ∀ I', Rw I' r ra cap (swp xs j) → Off [r, ra] I I' → Q none (hS sw I' J)) : mCl mX5_swapWithNext 1 0 0 [.ref r, .int (nI j)] (hS sw I J) Q := by
  have hx0 := hx
  have hv1 := hx.at hj
  have hv0 := hx.at (show j < xs.length by omega)
  obtain ⟨⟨k1, k2, k3, k4, k5⟩, hl, hn, hc⟩ := hx
  refine mCl.of (by decide) rfl (Nat.le_of_ble_eq_true rfl) ?_
  show mOk _ _ _ _ _ [some (.ref r), some (.int (nI j)), none] _ _ _ _ _
  refine mOk.aload0n dX5_swapWithNext_0 rfl ?_
  refine mOk.iload1n dX5_swapWithNext_1 rfl ?_
  refine mOk.callV1 (M' := mX5_has) dX5_swapWithNext_2 ml_X5_25 ke_X5_has (by first | assumption | rfl) (by decide) (by decide) (by simp [Value.category]) (c_has_in hx0 (by omega) ?_)
  refine mOk.ifeq (tgt := 48) dX5_swapWithNext_5 (by decide) (fun c5 => absurd c5 ((by decide))) (fun c5 => ?_)
  refine mOk.aload0n dX5_swapWithNext_8 rfl ?_
  refine mOk.iload1n dX5_swapWithNext_9 rfl ?_
  refine mOk.iconst (x := nI 1) dX5_swapWithNext_10 (by decide) ?_
  refine mOk.iadd dX5_swapWithNext_11 ?_
  refine mOk.top (nI_1 j) ?_
  refine mOk.callV1 (M' := mX5_has) dX5_swapWithNext_12 ml_X5_25 ke_X5_has (by first | assumption | rfl) (by decide) (by decide) (by simp [Value.category]) (c_has_in hx0 hj ?_)
  refine mOk.ifeq (tgt := 48) dX5_swapWithNext_15 (by decide) (fun c15 => absurd c15 ((by decide))) (fun c15 => ?_)
  refine mOk.aload0n dX5_swapWithNext_18 rfl ?_
  refine mOk.getR dX5_swapWithNext_19 fl_X5_15 (by first | assumption | rfl) (k3 sw) ?_
  refine mOk.iload1n dX5_swapWithNext_22 rfl ?_
  refine mOk.iconst (x := nI 1) dX5_swapWithNext_23 (by decide) ?_
  refine mOk.iadd dX5_swapWithNext_24 ?_
  refine mOk.ialdv (j := j + 1) dX5_swapWithNext_25 (by first | assumption | rfl) (nI_1 j) (by omega) (by first | assumption | decide | omega) hv1 ?_
  refine mOk.istore2n dX5_swapWithNext_26 rfl (by decide) rfl ?_
  refine mOk.aload0n dX5_swapWithNext_27 rfl ?_
  refine mOk.getR dX5_swapWithNext_28 fl_X5_15 (by first | assumption | rfl) (k3 sw) ?_
  refine mOk.iload1n dX5_swapWithNext_31 rfl ?_
  refine mOk.iconst (x := nI 1) dX5_swapWithNext_32 (by decide) ?_
  refine mOk.iadd dX5_swapWithNext_33 ?_
  refine mOk.aload0n dX5_swapWithNext_34 rfl ?_
  refine mOk.getR dX5_swapWithNext_35 fl_X5_15 (by first | assumption | rfl) (k3 sw) ?_
  refine mOk.iload1n dX5_swapWithNext_38 rfl ?_
  refine mOk.ialdv dX5_swapWithNext_39 (by first | assumption | rfl) rfl (by omega) (by first | assumption | decide | omega) hv0 ?_
  refine mOk.iastt (j := j + 1) dX5_swapWithNext_40 (by first | assumption | rfl) (nI_1 j) (by omega) (by first | assumption | decide | omega) ?_
  refine mOk.aload0n dX5_swapWithNext_41 rfl ?_
  refine mOk.getR dX5_swapWithNext_42 fl_X5_15 (by first | assumption | rfl) (k3 sw) ?_
  refine mOk.iload1n dX5_swapWithNext_45 rfl ?_
  refine mOk.iload2n dX5_swapWithNext_46 rfl ?_
  refine mOk.iastt dX5_swapWithNext_47 (by first | assumption | rfl) rfl (by omega) (by first | assumption | decide | omega) ?_
  refine mOk.vret dX5_swapWithNext_48 rfl (by decide) ?_
  refine hQ _ ⟨⟨k1, k2, k3, k4, k5⟩, by simp [swp]; omega, ?_, fun i x h => ?_⟩ (Off.tr (Off.w (a := ra) (by simp)) (Off.w (by simp)))
  · rw [wI_c k5, wI_c k5]; simp only [swp, List.length_set]; exact hn
  · unfold swp at h
    by_cases e : j = i
    · subst e
      rw [List.getElem?_set_self (by rw [List.length_set]; omega)] at h
      cases h
      exact wI_s _ _ _ _
    · rw [List.getElem?_set_ne e] at h
      rw [wI_j (fun z => e z.symm)]
      by_cases e2 : j + 1 = i
      · subst e2
        rw [List.getElem?_set_self hj] at h
        cases h
        exact wI_s _ _ _ _
      · rw [List.getElem?_set_ne e2] at h
        rw [wI_j (fun z => e2 z.symm)]
        exact hc i x h
end ROW
