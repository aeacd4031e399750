/-! ===== Row: loops ===== -/
/-- how many from the first on are the same -/
def cpl : List Int32 → List Int32 → Nat
  | x :: xs, y :: ys => if x = y then cpl xs ys + 1 else 0
  | _, _ => 0
theorem cpl_is : ∀ (xs ys : List Int32) (i : Nat), i ≤ xs.length → i ≤ ys.length → (∀ j, j < i → xs.getD j (-9) = ys.getD j (-9)) → (i = xs.length ∨ i = ys.length ∨ xs.getD i (-9) ≠ ys.getD i (-9)) → cpl xs ys = i
  | [], ys, i, h1, _, _, _ => by
    have : i = 0 := by simpa using h1
    subst this
    cases ys <;> rfl
  | x :: xs, [], i, _, h2, _, _ => by
    have : i = 0 := by simpa using h2
    subst this
    rfl
  | x :: xs, y :: ys, 0, _, _, _, h => by
    rcases h with h | h | h
    · simp at h
    · simp at h
    · have h : x ≠ y := h
      simp [cpl, h]
  | x :: xs, y :: ys, i + 1, h1, h2, h3, h => by
    have e : x = y := h3 0 (by omega)
    have := cpl_is xs ys i (by simpa using h1) (by simpa using h2) (fun j hj => h3 (j + 1) (by omega)) (by
      rcases h with h | h | h
      · exact Or.inl (by simpa using h)
      · exact Or.inr (Or.inl (by simpa using h))
      · exact Or.inr (Or.inr h))
    simp [cpl, e, this]
theorem cpl_le : ∀ (xs ys : List Int32), cpl xs ys ≤ xs.length ∧ cpl xs ys ≤ ys.length
  | [], ys => by cases ys <;> simp [cpl]
  | x :: xs, [] => by simp [cpl]
  | x :: xs, y :: ys => by
    have := cpl_le xs ys
    unfold cpl
    split <;> simp <;> omega
theorem cpl_eq : ∀ (xs ys : List Int32), xs.length = ys.length → (cpl xs ys = xs.length ↔ xs = ys)
  | [], [], _ => by simp [cpl]
  | [], y :: ys, h => by simp at h
  | x :: xs, [], h => by simp at h
  | x :: xs, y :: ys, h => by
    have h := cpl_eq xs ys (by simpa using h)
    unfold cpl
    by_cases e : x = y
    · simp [e, h]
    · simp [e]
theorem getD_rev {xs : List Int32} {j : Nat} (h : j < xs.length) : xs.reverse.getD j (-9) = xs.getD (xs.length - 1 - j) (-9) := by
  rw [List.getD_eq_getElem?_getD, List.getD_eq_getElem?_getD, List.getElem?_reverse h]
theorem getD_app {xs ys : List Int32} {j : Nat} (h : j < xs.length) : (xs ++ ys).getD j (-9) = xs.getD j (-9) := by
  rw [List.getD_eq_getElem?_getD, List.getD_eq_getElem?_getD, List.getElem?_append_left h]
theorem take_s {xs : List Int32} {i : Nat} (h : i < xs.length) : xs.take (i + 1) = xs.take i ++ [xs.getD i (-9)] := by
  rw [List.take_succ, getD_at h (-9)]; rfl
section ROW2
variable {sw : Bool} {I : Nat → Nat → Int32} {J : Nat → Nat → Int64} {r ra cap o oa ocap : Nat} {xs ys : List Int32} {Q : Option Value → mi_H → Prop}
theorem l_extend {I0 : Nat → Nat → Int32} (hfit : xs.length + ys.length ≤ cap) (ho : ∀ (i : Nat) (I' : Nat → Nat → Int32), Rw I' r ra cap (xs ++ ys.take i) → Off [r, ra] I0 I' → ∃ ocap ws, Rw I' o oa ocap ws ∧ ∀ j, j < ys.length → j < ws.length ∧ ws.getD j (-9) = ys.getD j (-9)) (hQ : ∀ I', Rw I' r ra cap (xs ++ ys) → Off [r, ra] I0 I' → Q none (hS sw I' J)) :
    ∀ (m i : Nat) (I : Nat → Nat → Int32), i + m = ys.length → Rw I r ra cap (xs ++ ys.take i) → Off [r, ra] I0 I → mOk mX5_extend 2 0 0 7 [some (.ref r), some (.ref o), some (.int (nI ys.length)), some (.int (nI i))] [] (hS sw I J) 0 0 Q := by
  intro m
  induction m with
  | zero =>
    intro i I hi hx hoff
    have hc := hx.1.2.2.2.1
    refine mOk.iload3n dX5_extend_7 rfl ?_
    refine mOk.iload2n dX5_extend_8 rfl ?_
    refine mOk.icge (tgt := 28) dX5_extend_9 (by decide) (fun c9 => ?_) (fun c9 => absurd ((nI_le' (by omega) (by omega)).mpr (by omega)) c9)
    refine mOk.vret dX5_extend_28 rfl (by decide) ?_
    rw [List.take_of_length_le (by omega)] at hx
    exact hQ _ hx hoff
  | succ m ih =>
    intro i I hi hx hoff
    have hc := hx.1.2.2.2.1
    obtain ⟨k1, -⟩ := id hx.1
    obtain ⟨ocap, ws, hw, hws⟩ := ho i I hx hoff
    obtain ⟨o1, -⟩ := id hw.1
    obtain ⟨w1, w2⟩ := hws i (by omega)
    refine mOk.iload3n dX5_extend_7 rfl ?_
    refine mOk.iload2n dX5_extend_8 rfl ?_
    refine mOk.icge (tgt := 28) dX5_extend_9 (by decide) (fun c9 => absurd c9 (mt (nI_le' (by omega) (by omega)).mp (by omega))) (fun c9 => ?_)
    refine mOk.aload0n dX5_extend_12 rfl ?_
    refine mOk.aload1n dX5_extend_13 rfl ?_
    refine mOk.iload3n dX5_extend_14 rfl ?_
    refine mOk.callV1 (M' := mX5_cell) dX5_extend_15 ml_X5_33 ke_X5_cell (by first | assumption | rfl) (by decide) (by decide) (by simp [Value.category]) (c_cell_in hw w1 ?_)
    rw [w2]
    refine mOk.callV1 (M' := mX5_push) dX5_extend_18 ml_X5_37 ke_X5_push (by first | assumption | rfl) (by decide) (by decide) (by simp [Value.category]) (c_push hx (by simp; omega) ?_)
    intro I' hx' hoff'
    refine mOk.pop dX5_extend_21 rfl ?_
    refine mOk.iinc3 dX5_extend_22 (mOk.inc1 rfl) (by decide) rfl ?_
    refine mOk.goto (tgt := 7) dX5_extend_25 (by decide) ?_
    refine ih (i + 1) I' (by omega) ?_ (hoff.tr hoff')
    rw [take_s (by omega), ← List.append_assoc]
    exact hx'
theorem c_extend (hx : Rw I r ra cap xs) (hy : Rw I o oa ocap ys) (hfit : xs.length + ys.length ≤ cap) (h1 : o ≠ r) (h2 : o ≠ ra) (h3 : oa ≠ r) (h4 : oa ≠ ra) (hQ : ∀ I', Rw I' r ra cap (xs ++ ys) → Off [r, ra] I I' → Q none (hS sw I' J)) : mCl mX5_extend 2 0 0 [.ref r, .ref o] (hS sw I J) Q := by
  obtain ⟨o1, -⟩ := id hy.1
  refine mCl.of (by decide) rfl (Nat.le_of_ble_eq_true rfl) ?_
  show mOk _ _ _ _ _ [some (.ref r), some (.ref o), none, none] _ _ _ _ _
  refine mOk.aload1n dX5_extend_0 rfl ?_
  refine mOk.getIv dX5_extend_1 fl_X5_21 (by first | assumption | rfl) hy.2.2.1 ?_
  refine mOk.istore2n dX5_extend_4 rfl (by decide) rfl ?_
  refine mOk.iconst (x := nI 0) dX5_extend_5 (by decide) ?_
  refine mOk.istore3n dX5_extend_6 rfl (by decide) rfl ?_
  refine l_extend (oa := oa) (I0 := I) hfit (fun i I' hx' hoff => ⟨ocap, ys, hy.off hoff (by simp [h1, h2]) (by simp [h3, h4]), fun j hj => ⟨hj, rfl⟩⟩) hQ ys.length 0 I (by omega) ?_ Off.rf
  rw [List.take_zero, List.append_nil]
  exact hx
theorem c_extend_same (hx : Rw I r ra cap xs) (hfit : xs.length + xs.length ≤ cap) (hQ : ∀ I', Rw I' r ra cap (xs ++ xs) → Off [r, ra] I I' → Q none (hS sw I' J)) : mCl mX5_extend 2 0 0 [.ref r, .ref r] (hS sw I J) Q := by
  obtain ⟨o1, -⟩ := id hx.1
  refine mCl.of (by decide) rfl (Nat.le_of_ble_eq_true rfl) ?_
  show mOk _ _ _ _ _ [some (.ref r), some (.ref r), none, none] _ _ _ _ _
  refine mOk.aload1n dX5_extend_0 rfl ?_
  refine mOk.getIv dX5_extend_1 fl_X5_21 (by first | assumption | rfl) hx.2.2.1 ?_
  refine mOk.istore2n dX5_extend_4 rfl (by decide) rfl ?_
  refine mOk.iconst (x := nI 0) dX5_extend_5 (by decide) ?_
  refine mOk.istore3n dX5_extend_6 rfl (by decide) rfl ?_
  refine l_extend (oa := ra) (I0 := I) hfit (fun i I' hx' hoff => ⟨cap, _, hx', fun j hj => ⟨by simp; omega, getD_app hj⟩⟩) hQ xs.length 0 I (by omega) ?_ Off.rf
  rw [List.take_zero, List.append_nil]
  exact hx
theorem c_become (hx : Rw I r ra cap xs) (hy : Rw I o oa ocap ys) (hfit : ys.length ≤ cap) (h1 : o ≠ r) (h2 : o ≠ ra) (h3 : oa ≠ r) (h4 : oa ≠ ra) (hQ : ∀ I', Rw I' r ra cap ys → Off [r, ra] I I' → Q none (hS sw I' J)) : mCl mX5_become 3 0 0 [.ref r, .ref o] (hS sw I J) Q := by
  obtain ⟨k1, k2, k3, k4, k5⟩ := id hx.1
  refine mCl.of (by decide) rfl (Nat.le_of_ble_eq_true rfl) ?_
  show mOk _ _ _ _ _ [some (.ref r), some (.ref o)] _ _ _ _ _
  refine mOk.aload1n dX5_become_0 rfl ?_
  refine mOk.aload0n dX5_become_1 rfl ?_
  refine mOk.acmpeq (tgt := 15) dX5_become_2 (by decide) (fun c2 => ?_) (fun c2 => ?_)
  · exact absurd c2 h1
  · refine mOk.aload0n dX5_become_5 rfl ?_
    refine mOk.iconst (x := nI 0) dX5_become_6 (by decide) ?_
    refine mOk.putIt dX5_become_7 fl_X5_21 (by first | assumption | rfl) ?_
    have hw : Off [r, ra] I (wI I r 1 (nI 0)) := Off.w (by simp)
    refine mOk.aload0n dX5_become_10 rfl ?_
    refine mOk.aload1n dX5_become_11 rfl ?_
    refine mOk.callV1 (M' := mX5_extend) dX5_become_12 ml_X5_29 ke_X5_extend (by first | assumption | rfl) (by decide) (by decide) (by simp [Value.category]) (c_extend (xs := []) (cap := cap) ⟨hx.1, Nat.zero_le _, wI_s _ _ _ _, fun j x h => by simp at h⟩ (hy.off hw (by simp [h1, h2]) (by simp [h3, h4])) (by simpa using hfit) h1 h2 h3 h4 ?_)
    intro I' hx' hoff'
    refine mOk.vret dX5_become_15 rfl (by decide) ?_
    exact hQ _ (by simpa using hx') (hw.tr hoff')
theorem l_ahead (hx : Rw I r ra cap xs) (hy : Rw I o oa ocap ys) (hQ : Q (some (.int (nI (cpl xs ys)))) (hS sw I J)) :
    ∀ (m i : Nat), i + m = min xs.length ys.length → (∀ j, j < i → xs.getD j (-9) = ys.getD j (-9)) → mOk mX5_alikeAhead 2 0 0 14 [some (.ref r), some (.ref o), some (.int (nI (min xs.length ys.length))), some (.int (nI i))] [] (hS sw I J) 0 0 Q := by
  have b1 := hx.1.2.2.2.1
  have b2 := hx.2.1
  obtain ⟨k1, -⟩ := id hx.1
  obtain ⟨o1, -⟩ := id hy.1
  intro m
  induction m with
  | zero =>
    intro i hi hj
    refine mOk.iload3n dX5_alikeAhead_14 rfl ?_
    refine mOk.iload2n dX5_alikeAhead_15 rfl ?_
    refine mOk.icge (tgt := 40) dX5_alikeAhead_16 (by decide) (fun c16 => ?_) (fun c16 => absurd ((nI_le' (by omega) (by omega)).mpr (by omega)) c16)
    refine mOk.iload2n dX5_alikeAhead_40 rfl ?_
    refine mOk.iret dX5_alikeAhead_41 rfl ?_
    rw [show min xs.length ys.length = cpl xs ys from (cpl_is xs ys _ (by omega) (by omega) (fun j h => hj j (by omega)) (by omega)).symm]
    exact hQ
  | succ m ih =>
    intro i hi hj
    refine mOk.iload3n dX5_alikeAhead_14 rfl ?_
    refine mOk.iload2n dX5_alikeAhead_15 rfl ?_
    refine mOk.icge (tgt := 40) dX5_alikeAhead_16 (by decide) (fun c16 => absurd c16 (mt (nI_le' (by omega) (by omega)).mp (by omega))) (fun c16 => ?_)
    refine mOk.aload0n dX5_alikeAhead_19 rfl ?_
    refine mOk.iload3n dX5_alikeAhead_20 rfl ?_
    refine mOk.callV1 (M' := mX5_cell) dX5_alikeAhead_21 ml_X5_33 ke_X5_cell (by first | assumption | rfl) (by decide) (by decide) (by simp [Value.category]) (c_cell_in hx (by omega) ?_)
    refine mOk.aload1n dX5_alikeAhead_24 rfl ?_
    refine mOk.iload3n dX5_alikeAhead_25 rfl ?_
    refine mOk.callV1 (M' := mX5_cell) dX5_alikeAhead_26 ml_X5_33 ke_X5_cell (by first | assumption | rfl) (by decide) (by decide) (by simp [Value.category]) (c_cell_in hy (by omega) ?_)
    refine mOk.iceq (tgt := 34) dX5_alikeAhead_29 (by decide) (fun c29 => ?_) (fun c29 => ?_)
    · refine mOk.iinc3 dX5_alikeAhead_34 (mOk.inc1 rfl) (by decide) rfl ?_
      refine mOk.goto (tgt := 14) dX5_alikeAhead_37 (by decide) ?_
      exact ih (i + 1) (by omega) (fun j h => by
        rcases Nat.lt_or_ge j i with q | q
        · exact hj j q
        · rw [show j = i by omega]; exact c29)
    · refine mOk.iload3n dX5_alikeAhead_32 rfl ?_
      refine mOk.iret dX5_alikeAhead_33 rfl ?_
      rw [show i = cpl xs ys from (cpl_is xs ys _ (by omega) (by omega) hj (Or.inr (Or.inr c29))).symm]
      exact hQ
theorem min_nI {a b : Nat} (ha : a < 100000) (hb : b < 100000) : (if nI b < nI a then nI b else nI a) = nI (min a b) := by
  by_cases h : b < a
  · rw [if_pos ((nI_lt' hb ha).mpr h), Nat.min_eq_right (by omega)]
  · rw [if_neg (mt (nI_lt' hb ha).mp h), Nat.min_eq_left (by omega)]
theorem c_ahead (hx : Rw I r ra cap xs) (hy : Rw I o oa ocap ys) (hQ : Q (some (.int (nI (cpl xs ys)))) (hS sw I J)) : mCl mX5_alikeAhead 2 0 0 [.ref r, .ref o] (hS sw I J) Q := by
  obtain ⟨k1, -⟩ := id hx.1
  obtain ⟨o1, -⟩ := id hy.1
  have b1 := hx.1.2.2.2.1
  have b2 := hx.2.1
  have b3 := hy.1.2.2.2.1
  have b4 := hy.2.1
  refine mCl.of (by decide) rfl (Nat.le_of_ble_eq_true rfl) ?_
  show mOk _ _ _ _ _ [some (.ref r), some (.ref o), none, none] _ _ _ _ _
  refine mOk.aload0n dX5_alikeAhead_0 rfl ?_
  refine mOk.getIv dX5_alikeAhead_1 fl_X5_21 (by first | assumption | rfl) hx.2.2.1 ?_
  refine mOk.aload1n dX5_alikeAhead_4 rfl ?_
  refine mOk.getIv dX5_alikeAhead_5 fl_X5_21 (by first | assumption | rfl) hy.2.2.1 ?_
  refine mOk.mmin dX5_alikeAhead_8 ml_X5_44 (by decide) (by decide) (by simp [Value.category]) ?_
  refine mOk.top (min_nI (by omega) (by omega)) ?_
  refine mOk.istore2n dX5_alikeAhead_11 rfl (by decide) rfl ?_
  refine mOk.iconst (x := nI 0) dX5_alikeAhead_12 (by decide) ?_
  refine mOk.istore3n dX5_alikeAhead_13 rfl (by decide) rfl ?_
  exact l_ahead hx hy hQ _ 0 (Nat.zero_add _) (fun j h => absurd h (Nat.not_lt_zero _))
theorem c_isLike (hx : Rw I r ra cap xs) (hy : Rw I o oa ocap ys) (hQ : Q (some (.int (if xs = ys then 1 else 0))) (hS sw I J)) : mCl mX5_isLike 3 0 0 [.ref r, .ref o] (hS sw I J) Q := by
  obtain ⟨k1, -⟩ := id hx.1
  obtain ⟨o1, -⟩ := id hy.1
  have b1 := hx.1.2.2.2.1
  have b2 := hx.2.1
  have b3 := hy.1.2.2.2.1
  have b4 := hy.2.1
  refine mCl.of (by decide) rfl (Nat.le_of_ble_eq_true rfl) ?_
  show mOk _ _ _ _ _ [some (.ref r), some (.ref o)] _ _ _ _ _
  refine mOk.aload0n dX5_isLike_0 rfl ?_
  refine mOk.getIv dX5_isLike_1 fl_X5_21 (by first | assumption | rfl) hx.2.2.1 ?_
  refine mOk.aload1n dX5_isLike_4 rfl ?_
  refine mOk.getIv dX5_isLike_5 fl_X5_21 (by first | assumption | rfl) hy.2.2.1 ?_
  refine mOk.icne (tgt := 27) dX5_isLike_8 (by decide) (fun c8 => ?_) (fun c8 => ?_)
  · refine mOk.iconst (x := 0) dX5_isLike_27 (by decide) ?_
    refine mOk.zret dX5_isLike_28 rfl (by decide) ?_
    rw [if_neg (fun e => c8 (by rw [e]))] at hQ
    exact hQ
  · have hl := (nI_eq' (by omega) (by omega)).mp c8
    have he := cpl_eq xs ys hl
    have hle := cpl_le xs ys
    refine mOk.aload0n dX5_isLike_11 rfl ?_
    refine mOk.aload1n dX5_isLike_12 rfl ?_
    refine mOk.callV1 (M' := mX5_alikeAhead) dX5_isLike_13 ml_X5_40 ke_X5_alikeAhead (by first | assumption | rfl) (by decide) (by decide) (by simp [Value.category]) (c_ahead hx hy ?_)
    refine mOk.aload0n dX5_isLike_16 rfl ?_
    refine mOk.getIv dX5_isLike_17 fl_X5_21 (by first | assumption | rfl) hx.2.2.1 ?_
    refine mOk.icne (tgt := 27) dX5_isLike_20 (by decide) (fun c20 => ?_) (fun c20 => ?_)
    · refine mOk.iconst (x := 0) dX5_isLike_27 (by decide) ?_
      refine mOk.zret dX5_isLike_28 rfl (by decide) ?_
      rw [if_neg (fun e => c20 (by rw [he.mpr e]))] at hQ
      exact hQ
    · refine mOk.iconst (x := 1) dX5_isLike_23 (by decide) ?_
      refine mOk.goto (tgt := 28) dX5_isLike_24 (by decide) ?_
      refine mOk.zret dX5_isLike_28 rfl (by decide) ?_
      rw [if_pos (he.mp ((nI_eq' (by omega) (by omega)).mp c20))] at hQ
      exact hQ
theorem nI_sub1 {a i : Nat} (h : i < a) : nI a - nI 1 - nI i = nI (a - 1 - i) := by
  rw [pk_sub (by omega), pk_sub (by omega)]
theorem l_behind (hx : Rw I r ra cap xs) (hy : Rw I o oa ocap ys) (hQ : Q (some (.int (nI (cpl xs.reverse ys.reverse)))) (hS sw I J)) :
    ∀ (m i : Nat), i + m = min xs.length ys.length → (∀ j, j < i → xs.reverse.getD j (-9) = ys.reverse.getD j (-9)) → mOk mX5_alikeBehind 2 0 0 14 [some (.ref r), some (.ref o), some (.int (nI (min xs.length ys.length))), some (.int (nI i))] [] (hS sw I J) 0 0 Q := by
  have b1 := hx.1.2.2.2.1
  have b2 := hx.2.1
  obtain ⟨k1, -⟩ := id hx.1
  obtain ⟨o1, -⟩ := id hy.1
  intro m
  induction m with
  | zero =>
    intro i hi hj
    refine mOk.iload3n dX5_alikeBehind_14 rfl ?_
    refine mOk.iload2n dX5_alikeBehind_15 rfl ?_
    refine mOk.icge (tgt := 54) dX5_alikeBehind_16 (by decide) (fun c16 => ?_) (fun c16 => absurd ((nI_le' (by omega) (by omega)).mpr (by omega)) c16)
    refine mOk.iload2n dX5_alikeBehind_54 rfl ?_
    refine mOk.iret dX5_alikeBehind_55 rfl ?_
    rw [show min xs.length ys.length = cpl xs.reverse ys.reverse from (cpl_is _ _ _ (by simp; omega) (by simp; omega) (fun j h => hj j (by omega)) (by simp; omega)).symm]
    exact hQ
  | succ m ih =>
    intro i hi hj
    refine mOk.iload3n dX5_alikeBehind_14 rfl ?_
    refine mOk.iload2n dX5_alikeBehind_15 rfl ?_
    refine mOk.icge (tgt := 54) dX5_alikeBehind_16 (by decide) (fun c16 => absurd c16 (mt (nI_le' (by omega) (by omega)).mp (by omega))) (fun c16 => ?_)
    refine mOk.aload0n dX5_alikeBehind_19 rfl ?_
    refine mOk.aload0n dX5_alikeBehind_20 rfl ?_
    refine mOk.getIv dX5_alikeBehind_21 fl_X5_21 (by first | assumption | rfl) hx.2.2.1 ?_
    refine mOk.iconst (x := nI 1) dX5_alikeBehind_24 (by decide) ?_
    refine mOk.isub dX5_alikeBehind_25 ?_
    refine mOk.iload3n dX5_alikeBehind_26 rfl ?_
    refine mOk.isub dX5_alikeBehind_27 ?_
    refine mOk.top (nI_sub1 (by omega)) ?_
    refine mOk.callV1 (M' := mX5_cell) dX5_alikeBehind_28 ml_X5_33 ke_X5_cell (by first | assumption | rfl) (by decide) (by decide) (by simp [Value.category]) (c_cell_in hx (by omega) ?_)
    refine mOk.aload1n dX5_alikeBehind_31 rfl ?_
    refine mOk.aload1n dX5_alikeBehind_32 rfl ?_
    refine mOk.getIv dX5_alikeBehind_33 fl_X5_21 (by first | assumption | rfl) hy.2.2.1 ?_
    refine mOk.iconst (x := nI 1) dX5_alikeBehind_36 (by decide) ?_
    refine mOk.isub dX5_alikeBehind_37 ?_
    refine mOk.iload3n dX5_alikeBehind_38 rfl ?_
    refine mOk.isub dX5_alikeBehind_39 ?_
    refine mOk.top (nI_sub1 (by omega)) ?_
    refine mOk.callV1 (M' := mX5_cell) dX5_alikeBehind_40 ml_X5_33 ke_X5_cell (by first | assumption | rfl) (by decide) (by decide) (by simp [Value.category]) (c_cell_in hy (by omega) ?_)
    rw [← getD_rev (show i < xs.length by omega), ← getD_rev (show i < ys.length by omega)]
    refine mOk.iceq (tgt := 48) dX5_alikeBehind_43 (by decide) (fun c43 => ?_) (fun c43 => ?_)
    · refine mOk.iinc3 dX5_alikeBehind_48 (mOk.inc1 rfl) (by decide) rfl ?_
      refine mOk.goto (tgt := 14) dX5_alikeBehind_51 (by decide) ?_
      exact ih (i + 1) (by omega) (fun j h => by
        rcases Nat.lt_or_ge j i with q | q
        · exact hj j q
        · rw [show j = i by omega]; exact c43)
    · refine mOk.iload3n dX5_alikeBehind_46 rfl ?_
      refine mOk.iret dX5_alikeBehind_47 rfl ?_
      rw [show i = cpl xs.reverse ys.reverse from (cpl_is _ _ _ (by simp; omega) (by simp; omega) hj (Or.inr (Or.inr c43))).symm]
      exact hQ
theorem c_behind (hx : Rw I r ra cap xs) (hy : Rw I o oa ocap ys) (hQ : Q (some (.int (nI (cpl xs.reverse ys.reverse)))) (hS sw I J)) : mCl mX5_alikeBehind 2 0 0 [.ref r, .ref o] (hS sw I J) Q := by
  obtain ⟨k1, -⟩ := id hx.1
  obtain ⟨o1, -⟩ := id hy.1
  have b1 := hx.1.2.2.2.1
  have b2 := hx.2.1
  have b3 := hy.1.2.2.2.1
  have b4 := hy.2.1
  refine mCl.of (by decide) rfl (Nat.le_of_ble_eq_true rfl) ?_
  show mOk _ _ _ _ _ [some (.ref r), some (.ref o), none, none] _ _ _ _ _
  refine mOk.aload0n dX5_alikeBehind_0 rfl ?_
  refine mOk.getIv dX5_alikeBehind_1 fl_X5_21 (by first | assumption | rfl) hx.2.2.1 ?_
  refine mOk.aload1n dX5_alikeBehind_4 rfl ?_
  refine mOk.getIv dX5_alikeBehind_5 fl_X5_21 (by first | assumption | rfl) hy.2.2.1 ?_
  refine mOk.mmin dX5_alikeBehind_8 ml_X5_44 (by decide) (by decide) (by simp [Value.category]) ?_
  refine mOk.top (min_nI (by omega) (by omega)) ?_
  refine mOk.istore2n dX5_alikeBehind_11 rfl (by decide) rfl ?_
  refine mOk.iconst (x := nI 0) dX5_alikeBehind_12 (by decide) ?_
  refine mOk.istore3n dX5_alikeBehind_13 rfl (by decide) rfl ?_
  exact l_behind hx hy hQ _ 0 (Nat.zero_add _) (fun j h => absurd h (Nat.not_lt_zero _))
end ROW2
