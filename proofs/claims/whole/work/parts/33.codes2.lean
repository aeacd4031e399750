/-! ===== Codes: loops, growth ===== -/
theorem drop_c {xs : List Int32} {i : Nat} (h : i < xs.length) : xs.drop i = xs.getD i (-9) :: xs.drop (i + 1) := by
  rw [List.drop_eq_getElem_cons h, List.getD_eq_getElem?_getD, List.getElem?_eq_getElem h]; rfl
/-- the first that is so, or NONE -/
def fnd (p : Int32 → Bool) : List Int32 → Int32
  | [] => -9
  | x :: xs => if p x = true then x else fnd p xs
def isPr (T : List CR) (a b : Int32) (c : Int32) : Bool := decide (tF T c = a) && decide (tS T c = b)
theorem isPr_iff {T : List CR} {a b c : Int32} : isPr T a b c = true ↔ tF T c = a ∧ tS T c = b := by simp [isPr]
def pairC (T : List CR) (a b : Int32) : Int32 := fnd (isPr T a b) (prs T)
def isSec (T : List CR) (b : Int32) : Bool := (prs T).any (fun c => decide (tS T c = b))
/-- the pieces ps stand in xs at s -/
def stn (ps xs : List Int32) (s : Nat) : Prop := ∀ k, k < ps.length → s + k < xs.length ∧ xs.getD (s + k) (-9) = ps.getD k (-9)
def cntK (T : List CR) (kd : Int32) : Nat := T.countP (fun q => decide (q.1 = kd))
def cntM (T : List CR) : Nat := T.countP (fun q => !decide (q.2.1 = 0))
def mF (T : List CR) (a : Int32) : Prop := (tC T a = 0 ∧ (tK T a = 0 ∨ tK T a = 1)) ∧ (tP T a).length < 4
section CODES2
variable {sw : Bool} {I : Nat → Nat → Int32} {J : Nat → Nat → Int64} {cb : Nat} {T : List CR} {Q : Option Value → mi_H → Prop}
theorem l_pairOf (hx : Cd I cb T) {a b : Int32} (hQ : Q (some (.int (pairC T a b))) (hS sw I J)) :
    ∀ (m i : Nat) (l4 : Option Value), mi_s [some (.ref cb), some (.int a), some (.int b), some (.int (nI i)), l4] 4 = true → i + m = (prs T).length → pairC T a b = fnd (isPr T a b) ((prs T).drop i) → mOk mX1_pairOf 2 0 0 2 [some (.ref cb), some (.int a), some (.int b), some (.int (nI i)), l4] [] (hS sw I J) 0 0 Q := by
  obtain ⟨k0, k1, k2, k3, k4, k5, k6, k7, k8⟩ := cdK hx.1
  obtain ⟨p0, p1, p2, p3, p4, p5, p6⟩ := cdP hx.1 sw
  have hr := hx.2.2.2.2
  have hl := hr.2.1
  intro m
  induction m with
  | zero =>
    intro i l4 h4 hi hf
    refine mOk.iload3n dX1_pairOf_2 rfl ?_
    refine mOk.aload0n dX1_pairOf_3 rfl ?_
    refine mOk.getR dX1_pairOf_4 fl_X1_35 (by first | assumption | rfl) (by first | assumption | rfl) ?_
    refine mOk.callV0 (M' := mX5_length) dX1_pairOf_7 ml_X1_43 ke_X5_length (by first | assumption | rfl) (by decide) (by decide) (by simp [Value.category]) (c_length hr ?_)
    refine mOk.icge (tgt := 52) dX1_pairOf_10 (by decide) (fun c10 => ?_) (fun c10 => absurd ((nI_le' (by omega) (by omega)).mpr (by omega)) c10)
    refine mOk.bipush (x := -9) dX1_pairOf_52 (by decide) ?_
    refine mOk.iret dX1_pairOf_54 rfl ?_
    rw [hf, List.drop_of_length_le (by omega)] at hQ
    exact hQ
  | succ m ih =>
    intro i l4 h4 hi hf
    rw [drop_c (by omega)] at hf
    refine mOk.iload3n dX1_pairOf_2 rfl ?_
    refine mOk.aload0n dX1_pairOf_3 rfl ?_
    refine mOk.getR dX1_pairOf_4 fl_X1_35 (by first | assumption | rfl) (by first | assumption | rfl) ?_
    refine mOk.callV0 (M' := mX5_length) dX1_pairOf_7 ml_X1_43 ke_X5_length (by first | assumption | rfl) (by decide) (by decide) (by simp [Value.category]) (c_length hr ?_)
    refine mOk.icge (tgt := 52) dX1_pairOf_10 (by decide) (fun c10 => absurd c10 (mt (nI_le' (by omega) (by omega)).mp (by omega))) (fun c10 => ?_)
    refine mOk.aload0n dX1_pairOf_13 rfl ?_
    refine mOk.getR dX1_pairOf_14 fl_X1_35 (by first | assumption | rfl) (by first | assumption | rfl) ?_
    refine mOk.iload3n dX1_pairOf_17 rfl ?_
    refine mOk.callV1 (M' := mX5_cell) dX1_pairOf_18 ml_X1_55 ke_X5_cell (by first | assumption | rfl) (by decide) (by decide) (by simp [Value.category]) (c_cell_in hr (by omega) ?_)
    refine mOk.istore4 dX1_pairOf_21 (by decide) rfl ?_
    refine mOk.aload0n dX1_pairOf_23 rfl ?_
    refine mOk.iload4 dX1_pairOf_24 ?_
    refine mOk.callV1 (M' := mX1_firstOf) dX1_pairOf_26 ml_X1_58 ke_X1_firstOf (by first | assumption | rfl) (by decide) (by decide) (by simp [Value.category]) (c_firstOf hx ?_)
    refine mOk.iload1n dX1_pairOf_29 rfl ?_
    refine mOk.icne (tgt := 46) dX1_pairOf_30 (by decide) (fun c30 => ?_) (fun c30 => ?_)
    · refine mOk.iinc3 dX1_pairOf_46 (mOk.inc1 rfl) (by decide) rfl ?_
      refine mOk.goto (tgt := 2) dX1_pairOf_49 (by decide) ?_
      exact ih (i + 1) _ rfl (by omega) (by rw [hf, fnd, if_neg (mt isPr_iff.mp (fun z => c30 z.1))])
    · refine mOk.aload0n dX1_pairOf_33 rfl ?_
      refine mOk.iload4 dX1_pairOf_34 ?_
      refine mOk.callV1 (M' := mX1_secondOf) dX1_pairOf_36 ml_X1_61 ke_X1_secondOf (by first | assumption | rfl) (by decide) (by decide) (by simp [Value.category]) (c_secondOf hx ?_)
      refine mOk.iload2n dX1_pairOf_39 rfl ?_
      refine mOk.icne (tgt := 46) dX1_pairOf_40 (by decide) (fun c40 => ?_) (fun c40 => ?_)
      · refine mOk.iinc3 dX1_pairOf_46 (mOk.inc1 rfl) (by decide) rfl ?_
        refine mOk.goto (tgt := 2) dX1_pairOf_49 (by decide) ?_
        exact ih (i + 1) _ rfl (by omega) (by rw [hf, fnd, if_neg (mt isPr_iff.mp (fun z => c40 z.2))])
      · refine mOk.iload4 dX1_pairOf_43 ?_
        refine mOk.iret dX1_pairOf_45 rfl ?_
        rw [hf, fnd, if_pos (isPr_iff.mpr ⟨c30, c40⟩)] at hQ
        exact hQ
theorem c_pairOf (hx : Cd I cb T) {a b : Int32} (hQ : Q (some (.int (pairC T a b))) (hS sw I J)) : mCl mX1_pairOf 2 0 0 [.ref cb, .int a, .int b] (hS sw I J) Q := by
  refine mCl.of (by decide) rfl (Nat.le_of_ble_eq_true rfl) ?_
  show mOk _ _ _ _ _ [some (.ref cb), some (.int a), some (.int b), none, none] _ _ _ _ _
  refine mOk.iconst (x := nI 0) dX1_pairOf_0 (by decide) ?_
  refine mOk.istore3n dX1_pairOf_1 rfl (by decide) rfl ?_
  exact l_pairOf hx hQ _ 0 none rfl (Nat.zero_add _) rfl
theorem l_isSec (hx : Cd I cb T) {b : Int32} (hQ : Q (some (.int (if isSec T b = true then 1 else 0))) (hS sw I J)) :
    ∀ (m i : Nat), i + m = (prs T).length → isSec T b = ((prs T).drop i).any (fun c => decide (tS T c = b)) → mOk mX1_isSecondOfPair 2 0 0 2 [some (.ref cb), some (.int b), some (.int (nI i))] [] (hS sw I J) 0 0 Q := by
  obtain ⟨k0, k1, k2, k3, k4, k5, k6, k7, k8⟩ := cdK hx.1
  obtain ⟨p0, p1, p2, p3, p4, p5, p6⟩ := cdP hx.1 sw
  have hr := hx.2.2.2.2
  have hl := hr.2.1
  intro m
  induction m with
  | zero =>
    intro i hi hf
    refine mOk.iload2n dX1_isSecondOfPair_2 rfl ?_
    refine mOk.aload0n dX1_isSecondOfPair_3 rfl ?_
    refine mOk.getR dX1_isSecondOfPair_4 fl_X1_35 (by first | assumption | rfl) (by first | assumption | rfl) ?_
    refine mOk.callV0 (M' := mX5_length) dX1_isSecondOfPair_7 ml_X1_43 ke_X5_length (by first | assumption | rfl) (by decide) (by decide) (by simp [Value.category]) (c_length hr ?_)
    refine mOk.icge (tgt := 37) dX1_isSecondOfPair_10 (by decide) (fun c10 => ?_) (fun c10 => absurd ((nI_le' (by omega) (by omega)).mpr (by omega)) c10)
    refine mOk.iconst (x := 0) dX1_isSecondOfPair_37 (by decide) ?_
    refine mOk.zret dX1_isSecondOfPair_38 rfl (by decide) ?_
    rw [hf, List.drop_of_length_le (by omega)] at hQ
    exact hQ
  | succ m ih =>
    intro i hi hf
    rw [drop_c (by omega), List.any_cons] at hf
    refine mOk.iload2n dX1_isSecondOfPair_2 rfl ?_
    refine mOk.aload0n dX1_isSecondOfPair_3 rfl ?_
    refine mOk.getR dX1_isSecondOfPair_4 fl_X1_35 (by first | assumption | rfl) (by first | assumption | rfl) ?_
    refine mOk.callV0 (M' := mX5_length) dX1_isSecondOfPair_7 ml_X1_43 ke_X5_length (by first | assumption | rfl) (by decide) (by decide) (by simp [Value.category]) (c_length hr ?_)
    refine mOk.icge (tgt := 37) dX1_isSecondOfPair_10 (by decide) (fun c10 => absurd c10 (mt (nI_le' (by omega) (by omega)).mp (by omega))) (fun c10 => ?_)
    refine mOk.aload0n dX1_isSecondOfPair_13 rfl ?_
    refine mOk.aload0n dX1_isSecondOfPair_14 rfl ?_
    refine mOk.getR dX1_isSecondOfPair_15 fl_X1_35 (by first | assumption | rfl) (by first | assumption | rfl) ?_
    refine mOk.iload2n dX1_isSecondOfPair_18 rfl ?_
    refine mOk.callV1 (M' := mX5_cell) dX1_isSecondOfPair_19 ml_X1_55 ke_X5_cell (by first | assumption | rfl) (by decide) (by decide) (by simp [Value.category]) (c_cell_in hr (by omega) ?_)
    refine mOk.callV1 (M' := mX1_secondOf) dX1_isSecondOfPair_22 ml_X1_61 ke_X1_secondOf (by first | assumption | rfl) (by decide) (by decide) (by simp [Value.category]) (c_secondOf hx ?_)
    refine mOk.iload1n dX1_isSecondOfPair_25 rfl ?_
    refine mOk.icne (tgt := 31) dX1_isSecondOfPair_26 (by decide) (fun c26 => ?_) (fun c26 => ?_)
    · refine mOk.iinc2 dX1_isSecondOfPair_31 (mOk.inc1 rfl) (by decide) rfl ?_
      refine mOk.goto (tgt := 2) dX1_isSecondOfPair_34 (by decide) ?_
      exact ih (i + 1) (by omega) (by rw [hf, decide_eq_false c26, Bool.false_or])
    · refine mOk.iconst (x := 1) dX1_isSecondOfPair_29 (by decide) ?_
      refine mOk.zret dX1_isSecondOfPair_30 rfl (by decide) ?_
      rw [hf, decide_eq_true c26, Bool.true_or] at hQ
      exact hQ
theorem c_isSec (hx : Cd I cb T) {b : Int32} (hQ : Q (some (.int (if isSec T b = true then 1 else 0))) (hS sw I J)) : mCl mX1_isSecondOfPair 2 0 0 [.ref cb, .int b] (hS sw I J) Q := by
  refine mCl.of (by decide) rfl (Nat.le_of_ble_eq_true rfl) ?_
  show mOk _ _ _ _ _ [some (.ref cb), some (.int b), none] _ _ _ _ _
  refine mOk.iconst (x := nI 0) dX1_isSecondOfPair_0 (by decide) ?_
  refine mOk.istore2n dX1_isSecondOfPair_1 rfl (by decide) rfl ?_
  exact l_isSec hx hQ _ 0 (Nat.zero_add _) rfl
theorem l_stand (hx : Cd I cb T) {r ra cap : Nat} {xs : List Int32} (hr : Rw I r ra cap xs) {c : Int32} {s : Nat} (hs : s < 100000) (h1 : stn (tP T c) xs s → Q (some (.int 1)) (hS sw I J)) (h0 : ¬ stn (tP T c) xs s → Q (some (.int 0)) (hS sw I J)) :
    ∀ (m i : Nat), i + m = (tP T c).length → (∀ k, k < i → s + k < xs.length ∧ xs.getD (s + k) (-9) = (tP T c).getD k (-9)) → mOk mX1_piecesStandAt 2 0 0 3 [some (.ref cb), some (.int c), some (.ref r), some (.int (nI s)), some (.int (nI i))] [] (hS sw I J) 0 0 Q := by
  obtain ⟨k0, -⟩ := cdK hx.1
  obtain ⟨r0, -⟩ := id hr.1
  have h4 := hx.le4 c
  have b1 := hr.1.2.2.2.1
  have b2 := hr.2.1
  intro m
  induction m with
  | zero =>
    intro i hi hk
    refine mOk.iload4 dX1_piecesStandAt_3 ?_
    refine mOk.aload0n dX1_piecesStandAt_5 rfl ?_
    refine mOk.iload1n dX1_piecesStandAt_6 rfl ?_
    refine mOk.callV1 (M' := mX1_pieceCount) dX1_piecesStandAt_7 ml_X1_64 ke_X1_pieceCount (by first | assumption | rfl) (by decide) (by decide) (by simp [Value.category]) (c_pieceCount hx ?_)
    refine mOk.icge (tgt := 50) dX1_piecesStandAt_10 (by decide) (fun c10 => ?_) (fun c10 => absurd ((nI_le' (by omega) (by omega)).mpr (by omega)) c10)
    refine mOk.iconst (x := 1) dX1_piecesStandAt_50 (by decide) ?_
    refine mOk.zret dX1_piecesStandAt_51 rfl (by decide) ?_
    exact h1 (fun k hk' => hk k (by omega))
  | succ m ih =>
    intro i hi hk
    refine mOk.iload4 dX1_piecesStandAt_3 ?_
    refine mOk.aload0n dX1_piecesStandAt_5 rfl ?_
    refine mOk.iload1n dX1_piecesStandAt_6 rfl ?_
    refine mOk.callV1 (M' := mX1_pieceCount) dX1_piecesStandAt_7 ml_X1_64 ke_X1_pieceCount (by first | assumption | rfl) (by decide) (by decide) (by simp [Value.category]) (c_pieceCount hx ?_)
    refine mOk.icge (tgt := 50) dX1_piecesStandAt_10 (by decide) (fun c10 => absurd c10 (mt (nI_le' (by omega) (by omega)).mp (by omega))) (fun c10 => ?_)
    refine mOk.aload2n dX1_piecesStandAt_13 rfl ?_
    refine mOk.iload3n dX1_piecesStandAt_14 rfl ?_
    refine mOk.iload4 dX1_piecesStandAt_15 ?_
    refine mOk.iadd dX1_piecesStandAt_17 ?_
    refine mOk.top (nI_add s i) ?_
    by_cases hin : s + i < xs.length
    · refine mOk.callV1 (M' := mX5_has) dX1_piecesStandAt_18 ml_X1_67 ke_X5_has (by first | assumption | rfl) (by decide) (by decide) (by simp [Value.category]) (c_has_in hr hin ?_)
      refine mOk.ifeq (tgt := 42) dX1_piecesStandAt_21 (by decide) (fun c21 => absurd c21 ((by decide))) (fun c21 => ?_)
      refine mOk.aload2n dX1_piecesStandAt_24 rfl ?_
      refine mOk.iload3n dX1_piecesStandAt_25 rfl ?_
      refine mOk.iload4 dX1_piecesStandAt_26 ?_
      refine mOk.iadd dX1_piecesStandAt_28 ?_
      refine mOk.top (nI_add s i) ?_
      refine mOk.callV1 (M' := mX5_cell) dX1_piecesStandAt_29 ml_X1_55 ke_X5_cell (by first | assumption | rfl) (by decide) (by decide) (by simp [Value.category]) (c_cell_in hr hin ?_)
      refine mOk.aload0n dX1_piecesStandAt_32 rfl ?_
      refine mOk.iload1n dX1_piecesStandAt_33 rfl ?_
      refine mOk.iload4 dX1_piecesStandAt_34 ?_
      refine mOk.callV2 (M' := mX1_piece) dX1_piecesStandAt_36 ml_X1_70 ke_X1_piece (by first | assumption | rfl) (by decide) (by decide) (by simp [Value.category]) (c_piece hx (by omega) ?_)
      refine mOk.iceq (tgt := 44) dX1_piecesStandAt_39 (by decide) (fun c39 => ?_) (fun c39 => ?_)
      · refine mOk.iinc4 dX1_piecesStandAt_44 (mOk.inc1 rfl) (by decide) rfl ?_
        refine mOk.goto (tgt := 3) dX1_piecesStandAt_47 (by decide) ?_
        exact ih (i + 1) (by omega) (fun k hk' => by
          rcases Nat.lt_or_ge k i with q | q
          · exact hk k q
          · rw [show k = i by omega]; exact ⟨hin, c39⟩)
      · refine mOk.iconst (x := 0) dX1_piecesStandAt_42 (by decide) ?_
        refine mOk.zret dX1_piecesStandAt_43 rfl (by decide) ?_
        exact h0 (fun z => c39 (z i (by omega)).2)
    · refine mOk.callV1 (M' := mX5_has) dX1_piecesStandAt_18 ml_X1_67 ke_X5_has (by first | assumption | rfl) (by decide) (by decide) (by simp [Value.category]) (c_has_out hr (Or.inr ((nI_leI (by omega) (by omega)).mpr (by omega))) ?_)
      refine mOk.ifeq (tgt := 42) dX1_piecesStandAt_21 (by decide) (fun c21 => ?_) (fun c21 => absurd (rfl) c21)
      refine mOk.iconst (x := 0) dX1_piecesStandAt_42 (by decide) ?_
      refine mOk.zret dX1_piecesStandAt_43 rfl (by decide) ?_
      exact h0 (fun z => hin (z i (by omega)).1)
theorem c_stand (hx : Cd I cb T) {r ra cap : Nat} {xs : List Int32} (hr : Rw I r ra cap xs) {c : Int32} {s : Nat} (hs : s < 100000) (h1 : stn (tP T c) xs s → Q (some (.int 1)) (hS sw I J)) (h0 : ¬ stn (tP T c) xs s → Q (some (.int 0)) (hS sw I J)) : mCl mX1_piecesStandAt 2 0 0 [.ref cb, .int c, .ref r, .int (nI s)] (hS sw I J) Q := by
  refine mCl.of (by decide) rfl (Nat.le_of_ble_eq_true rfl) ?_
  show mOk _ _ _ _ _ [some (.ref cb), some (.int c), some (.ref r), some (.int (nI s)), none] _ _ _ _ _
  refine mOk.iconst (x := nI 0) dX1_piecesStandAt_0 (by decide) ?_
  refine mOk.istore4 dX1_piecesStandAt_1 (by decide) rfl ?_
  exact l_stand hx hr hs h1 h0 _ 0 (Nat.zero_add _) (fun k h => absurd h (Nat.not_lt_zero _))
theorem take_T {T : List CR} {i : Nat} {q : CR} (h : T[i]? = some q) : T.take (i + 1) = T.take i ++ [q] := by
  rw [List.take_succ, h]; rfl
theorem cntK_le (T : List CR) (kd : Int32) : cntK T kd ≤ T.length := List.countP_le_length
theorem l_countKind (hx : Cd I cb T) {kd : Int32} (hQ : Q (some (.int (nI (cntK T kd)))) (hS sw I J)) :
    ∀ (m i : Nat), i + m = T.length → mOk mX1_countKind 2 0 0 4 [some (.ref cb), some (.int kd), some (.int (nI (cntK (T.take i) kd))), some (.int (nI i))] [] (hS sw I J) 0 0 Q := by
  obtain ⟨k0, k1, k2, k3, k4, k5, k6, k7, k8⟩ := cdK hx.1
  have hl := hx.2.1
  intro m
  induction m with
  | zero =>
    intro i hi
    refine mOk.iload3n dX1_countKind_4 rfl ?_
    refine mOk.aload0n dX1_countKind_5 rfl ?_
    refine mOk.getIv dX1_countKind_6 fl_X1_39 (by first | assumption | rfl) hx.2.2.1 ?_
    refine mOk.icge (tgt := 30) dX1_countKind_9 (by decide) (fun c9 => ?_) (fun c9 => absurd ((nI_le' (by omega) (by omega)).mpr (by omega)) c9)
    refine mOk.iload2n dX1_countKind_30 rfl ?_
    refine mOk.iret dX1_countKind_31 rfl ?_
    rw [List.take_of_length_le (by omega)]
    exact hQ
  | succ m ih =>
    intro i hi
    obtain ⟨q, hq, hg⟩ := tG_at (show i < T.length by omega) (by omega)
    have hk : tK T (nI i) = q.1 := by unfold tK; rw [hg]
    have ht : cntK (T.take (i + 1)) kd = cntK (T.take i) kd + (if q.1 = kd then 1 else 0) := by
      unfold cntK
      rw [take_T hq, List.countP_append]
      by_cases h : q.1 = kd <;> simp [h]
    refine mOk.iload3n dX1_countKind_4 rfl ?_
    refine mOk.aload0n dX1_countKind_5 rfl ?_
    refine mOk.getIv dX1_countKind_6 fl_X1_39 (by first | assumption | rfl) hx.2.2.1 ?_
    refine mOk.icge (tgt := 30) dX1_countKind_9 (by decide) (fun c9 => absurd c9 (mt (nI_le' (by omega) (by omega)).mp (by omega))) (fun c9 => ?_)
    refine mOk.aload0n dX1_countKind_12 rfl ?_
    refine mOk.iload3n dX1_countKind_13 rfl ?_
    refine mOk.callV1 (M' := mX1_kindOf) dX1_countKind_14 ml_X1_74 ke_X1_kindOf (by first | assumption | rfl) (by decide) (by decide) (by simp [Value.category]) (c_kindOf hx ?_)
    rw [hk]
    have IH := ih (i + 1) (by omega)
    rw [ht] at IH
    refine mOk.iload1n dX1_countKind_17 rfl ?_
    refine mOk.icne (tgt := 24) dX1_countKind_18 (by decide) (fun c18 => ?_) (fun c18 => ?_)
    · rw [if_neg c18] at IH
      refine mOk.iinc3 dX1_countKind_24 (mOk.inc1 rfl) (by decide) rfl ?_
      refine mOk.goto (tgt := 4) dX1_countKind_27 (by decide) ?_
      exact IH
    · rw [if_pos c18] at IH
      refine mOk.iinc2 dX1_countKind_21 (mOk.inc1 rfl) (by decide) rfl ?_
      refine mOk.iinc3 dX1_countKind_24 (mOk.inc1 rfl) (by decide) rfl ?_
      refine mOk.goto (tgt := 4) dX1_countKind_27 (by decide) ?_
      exact IH
theorem c_countKind (hx : Cd I cb T) {kd : Int32} (hQ : Q (some (.int (nI (cntK T kd)))) (hS sw I J)) : mCl mX1_countKind 2 0 0 [.ref cb, .int kd] (hS sw I J) Q := by
  refine mCl.of (by decide) rfl (Nat.le_of_ble_eq_true rfl) ?_
  show mOk _ _ _ _ _ [some (.ref cb), some (.int kd), none, none] _ _ _ _ _
  refine mOk.iconst (x := nI 0) dX1_countKind_0 (by decide) ?_
  refine mOk.istore2n dX1_countKind_1 rfl (by decide) rfl ?_
  refine mOk.iconst (x := nI 0) dX1_countKind_2 (by decide) ?_
  refine mOk.istore3n dX1_countKind_3 rfl (by decide) rfl ?_
  exact l_countKind hx hQ _ 0 (Nat.zero_add _)
theorem l_countMarks (hx : Cd I cb T) (hQ : Q (some (.int (nI (cntM T)))) (hS sw I J)) :
    ∀ (m i : Nat), i + m = T.length → mOk mX1_countMarks 3 0 0 4 [some (.ref cb), some (.int (nI (cntM (T.take i)))), some (.int (nI i))] [] (hS sw I J) 0 0 Q := by
  obtain ⟨k0, k1, k2, k3, k4, k5, k6, k7, k8⟩ := cdK hx.1
  have hl := hx.2.1
  intro m
  induction m with
  | zero =>
    intro i hi
    refine mOk.iload2n dX1_countMarks_4 rfl ?_
    refine mOk.aload0n dX1_countMarks_5 rfl ?_
    refine mOk.getIv dX1_countMarks_6 fl_X1_39 (by first | assumption | rfl) hx.2.2.1 ?_
    refine mOk.icge (tgt := 29) dX1_countMarks_9 (by decide) (fun c9 => ?_) (fun c9 => absurd ((nI_le' (by omega) (by omega)).mpr (by omega)) c9)
    refine mOk.iload1n dX1_countMarks_29 rfl ?_
    refine mOk.iret dX1_countMarks_30 rfl ?_
    rw [List.take_of_length_le (by omega)]
    exact hQ
  | succ m ih =>
    intro i hi
    obtain ⟨q, hq, hg⟩ := tG_at (show i < T.length by omega) (by omega)
    have hk : tC T (nI i) = q.2.1 := by unfold tC; rw [hg]
    have ht : cntM (T.take (i + 1)) = cntM (T.take i) + (if q.2.1 = 0 then 0 else 1) := by
      unfold cntM
      rw [take_T hq, List.countP_append]
      by_cases h : q.2.1 = 0 <;> simp [h]
    have IH := ih (i + 1) (by omega)
    rw [ht] at IH
    refine mOk.iload2n dX1_countMarks_4 rfl ?_
    refine mOk.aload0n dX1_countMarks_5 rfl ?_
    refine mOk.getIv dX1_countMarks_6 fl_X1_39 (by first | assumption | rfl) hx.2.2.1 ?_
    refine mOk.icge (tgt := 29) dX1_countMarks_9 (by decide) (fun c9 => absurd c9 (mt (nI_le' (by omega) (by omega)).mp (by omega))) (fun c9 => ?_)
    refine mOk.aload0n dX1_countMarks_12 rfl ?_
    refine mOk.iload2n dX1_countMarks_13 rfl ?_
    refine mOk.callV1 (M' := mX1_isBase) dX1_countMarks_14 ml_X1_77 ke_X1_isBase (by first | assumption | rfl) (by decide) (by decide) (by simp [Value.category]) (c_isBase hx ?_)
    rw [hk]
    by_cases h0 : q.2.1 = 0
    · rw [if_pos h0] at IH ⊢
      refine mOk.ifne (tgt := 23) dX1_countMarks_17 (by decide) (fun c17 => ?_) (fun c17 => absurd c17 ((by decide)))
      refine mOk.iinc2 dX1_countMarks_23 (mOk.inc1 rfl) (by decide) rfl ?_
      refine mOk.goto (tgt := 4) dX1_countMarks_26 (by decide) ?_
      exact IH
    · rw [if_neg h0] at IH ⊢
      refine mOk.ifne (tgt := 23) dX1_countMarks_17 (by decide) (fun c17 => absurd (rfl) c17) (fun c17 => ?_)
      refine mOk.iinc1 dX1_countMarks_20 (mOk.inc1 rfl) (by decide) rfl ?_
      refine mOk.iinc2 dX1_countMarks_23 (mOk.inc1 rfl) (by decide) rfl ?_
      refine mOk.goto (tgt := 4) dX1_countMarks_26 (by decide) ?_
      exact IH
theorem c_countMarks (hx : Cd I cb T) (hQ : Q (some (.int (nI (cntM T)))) (hS sw I J)) : mCl mX1_countMarks 3 0 0 [.ref cb] (hS sw I J) Q := by
  refine mCl.of (by decide) rfl (Nat.le_of_ble_eq_true rfl) ?_
  show mOk _ _ _ _ _ [some (.ref cb), none, none] _ _ _ _ _
  refine mOk.iconst (x := nI 0) dX1_countMarks_0 (by decide) ?_
  refine mOk.istore1n dX1_countMarks_1 rfl (by decide) rfl ?_
  refine mOk.iconst (x := nI 0) dX1_countMarks_2 (by decide) ?_
  refine mOk.istore2n dX1_countMarks_3 rfl (by decide) rfl ?_
  exact l_countMarks hx hQ _ 0 (Nat.zero_add _)
theorem c_mayFirst (hx : Cd I cb T) {a : Int32} (h1 : mF T a → Q (some (.int 1)) (hS sw I J)) (h0 : ¬ mF T a → Q (some (.int 0)) (hS sw I J)) : mCl mX1_mayBeFirst 2 0 0 [.ref cb, .int a] (hS sw I J) Q := by
  obtain ⟨k0, -⟩ := cdK hx.1
  have h4 := hx.le4 a
  refine mCl.of (by decide) rfl (Nat.le_of_ble_eq_true rfl) ?_
  show mOk _ _ _ _ _ [some (.ref cb), some (.int a), none, none] _ _ _ _ _
  refine mOk.aload0n dX1_mayBeFirst_0 rfl ?_
  refine mOk.iload1n dX1_mayBeFirst_1 rfl ?_
  refine mOk.callV1 (M' := mX1_kindOf) dX1_mayBeFirst_2 ml_X1_74 ke_X1_kindOf (by first | assumption | rfl) (by decide) (by decide) (by simp [Value.category]) (c_kindOf hx ?_)
  refine mOk.istore2n dX1_mayBeFirst_5 rfl (by decide) rfl ?_
  refine mOk.aload0n dX1_mayBeFirst_6 rfl ?_
  refine mOk.iload1n dX1_mayBeFirst_7 rfl ?_
  refine mOk.callV1 (M' := mX1_classOf) dX1_mayBeFirst_8 ml_X1_51 ke_X1_classOf (by first | assumption | rfl) (by decide) (by decide) (by simp [Value.category]) (c_classOf hx ?_)
  have key0 : ¬ (tC T a = 0 ∧ (tK T a = 0 ∨ tK T a = 1)) → mOk mX1_mayBeFirst 2 0 0 27 [some (.ref cb), some (.int a), some (.int (tK T a)), none] [] (hS sw I J) 0 0 Q := fun hn => by
    refine mOk.iconst (x := 0) dX1_mayBeFirst_27 (by decide) ?_
    refine mOk.istore3n dX1_mayBeFirst_28 rfl (by decide) rfl ?_
    refine mOk.iload3n dX1_mayBeFirst_29 rfl ?_
    refine mOk.ifeq (tgt := 46) dX1_mayBeFirst_30 (by decide) (fun c30 => ?_) (fun c30 => absurd (rfl) c30)
    refine mOk.iconst (x := 0) dX1_mayBeFirst_46 (by decide) ?_
    refine mOk.zret dX1_mayBeFirst_47 rfl (by decide) ?_
    exact h0 (fun z => hn z.1)
  have key1 : (tC T a = 0 ∧ (tK T a = 0 ∨ tK T a = 1)) → mOk mX1_mayBeFirst 2 0 0 23 [some (.ref cb), some (.int a), some (.int (tK T a)), none] [] (hS sw I J) 0 0 Q := fun hn => by
    refine mOk.iconst (x := 1) dX1_mayBeFirst_23 (by decide) ?_
    refine mOk.goto (tgt := 28) dX1_mayBeFirst_24 (by decide) ?_
    refine mOk.istore3n dX1_mayBeFirst_28 rfl (by decide) rfl ?_
    refine mOk.iload3n dX1_mayBeFirst_29 rfl ?_
    refine mOk.ifeq (tgt := 46) dX1_mayBeFirst_30 (by decide) (fun c30 => absurd c30 ((by decide))) (fun c30 => ?_)
    refine mOk.aload0n dX1_mayBeFirst_33 rfl ?_
    refine mOk.iload1n dX1_mayBeFirst_34 rfl ?_
    refine mOk.callV1 (M' := mX1_pieceCount) dX1_mayBeFirst_35 ml_X1_64 ke_X1_pieceCount (by first | assumption | rfl) (by decide) (by decide) (by simp [Value.category]) (c_pieceCount hx ?_)
    refine mOk.iconst (x := nI 4) dX1_mayBeFirst_38 (by decide) ?_
    refine mOk.icge (tgt := 46) dX1_mayBeFirst_39 (by decide) (fun c39 => ?_) (fun c39 => ?_)
    · refine mOk.iconst (x := 0) dX1_mayBeFirst_46 (by decide) ?_
      refine mOk.zret dX1_mayBeFirst_47 rfl (by decide) ?_
      have := (nI_le' (by omega) (by omega)).mp c39
      exact h0 (fun z => by have := z.2; omega)
    · refine mOk.iconst (x := 1) dX1_mayBeFirst_42 (by decide) ?_
      refine mOk.goto (tgt := 47) dX1_mayBeFirst_43 (by decide) ?_
      refine mOk.zret dX1_mayBeFirst_47 rfl (by decide) ?_
      have := mt (nI_le' (by omega) (by omega)).mpr c39
      exact h1 ⟨hn, by omega⟩
  refine mOk.ifne (tgt := 27) dX1_mayBeFirst_11 (by decide) (fun c11 => ?_) (fun c11 => ?_)
  · exact key0 (fun z => c11 z.1)
  · refine mOk.iload2n dX1_mayBeFirst_14 rfl ?_
    refine mOk.ifeq (tgt := 23) dX1_mayBeFirst_15 (by decide) (fun c15 => ?_) (fun c15 => ?_)
    · exact key1 ⟨c11, Or.inl c15⟩
    · refine mOk.iload2n dX1_mayBeFirst_18 rfl ?_
      refine mOk.iconst (x := 1) dX1_mayBeFirst_19 (by decide) ?_
      refine mOk.icne (tgt := 27) dX1_mayBeFirst_20 (by decide) (fun c20 => ?_) (fun c20 => ?_)
      · exact key0 (fun z => z.2.elim c15 c20)
      · exact key1 ⟨c11, Or.inr c20⟩
/-- b may stand behind a -/
def mS (T : List CR) (kd a b : Int32) : Prop := tK T b = 0 ∧ (kd ≠ 1 ∨ tC T b = 0 ∨ ¬ tC T b < tC T ((tP T a).getD ((tP T a).length - 1) (-9)))
theorem c_maySecond (hx : Cd I cb T) {kd a b : Int32} (ha : 0 < (tP T a).length) (h1 : mS T kd a b → Q (some (.int 1)) (hS sw I J)) (h0 : ¬ mS T kd a b → Q (some (.int 0)) (hS sw I J)) : mCl mX1_mayBeSecond 2 0 0 [.ref cb, .int kd, .int a, .int b] (hS sw I J) Q := by
  obtain ⟨k0, -⟩ := cdK hx.1
  have h4 := hx.le4 a
  refine mCl.of (by decide) rfl (Nat.le_of_ble_eq_true rfl) ?_
  show mOk _ _ _ _ _ [some (.ref cb), some (.int kd), some (.int a), some (.int b), none, none] _ _ _ _ _
  refine mOk.aload0n dX1_mayBeSecond_0 rfl ?_
  refine mOk.iload3n dX1_mayBeSecond_1 rfl ?_
  refine mOk.callV1 (M' := mX1_kindOf) dX1_mayBeSecond_2 ml_X1_74 ke_X1_kindOf (by first | assumption | rfl) (by decide) (by decide) (by simp [Value.category]) (c_kindOf hx ?_)
  refine mOk.ifeq (tgt := 10) dX1_mayBeSecond_5 (by decide) (fun c5 => ?_) (fun c5 => ?_)
  · refine mOk.aload0n dX1_mayBeSecond_10 rfl ?_
    refine mOk.iload3n dX1_mayBeSecond_11 rfl ?_
    refine mOk.callV1 (M' := mX1_classOf) dX1_mayBeSecond_12 ml_X1_51 ke_X1_classOf (by first | assumption | rfl) (by decide) (by decide) (by simp [Value.category]) (c_classOf hx ?_)
    refine mOk.istore4 dX1_mayBeSecond_15 (by decide) rfl ?_
    refine mOk.aload0n dX1_mayBeSecond_17 rfl ?_
    refine mOk.iload2n dX1_mayBeSecond_18 rfl ?_
    refine mOk.aload0n dX1_mayBeSecond_19 rfl ?_
    refine mOk.iload2n dX1_mayBeSecond_20 rfl ?_
    refine mOk.callV1 (M' := mX1_pieceCount) dX1_mayBeSecond_21 ml_X1_64 ke_X1_pieceCount (by first | assumption | rfl) (by decide) (by decide) (by simp [Value.category]) (c_pieceCount hx ?_)
    refine mOk.iconst (x := nI 1) dX1_mayBeSecond_24 (by decide) ?_
    refine mOk.isub dX1_mayBeSecond_25 ?_
    refine mOk.top (pk_sub (a := (tP T a).length) (b := 1) (by omega)) ?_
    refine mOk.callV2 (M' := mX1_piece) dX1_mayBeSecond_26 ml_X1_70 ke_X1_piece (by first | assumption | rfl) (by decide) (by decide) (by simp [Value.category]) (c_piece hx (by omega) ?_)
    refine mOk.istore5 dX1_mayBeSecond_29 (by decide) rfl ?_
    refine mOk.iload1n dX1_mayBeSecond_31 rfl ?_
    refine mOk.iconst (x := 1) dX1_mayBeSecond_32 (by decide) ?_
    refine mOk.icne (tgt := 52) dX1_mayBeSecond_33 (by decide) (fun c33 => ?_) (fun c33 => ?_)
    · refine mOk.iconst (x := 1) dX1_mayBeSecond_52 (by decide) ?_
      refine mOk.goto (tgt := 57) dX1_mayBeSecond_53 (by decide) ?_
      refine mOk.zret dX1_mayBeSecond_57 rfl (by decide) ?_
      exact h1 ⟨c5, Or.inl c33⟩
    · refine mOk.iload4 dX1_mayBeSecond_36 ?_
      refine mOk.ifeq (tgt := 52) dX1_mayBeSecond_38 (by decide) (fun c38 => ?_) (fun c38 => ?_)
      · refine mOk.iconst (x := 1) dX1_mayBeSecond_52 (by decide) ?_
        refine mOk.goto (tgt := 57) dX1_mayBeSecond_53 (by decide) ?_
        refine mOk.zret dX1_mayBeSecond_57 rfl (by decide) ?_
        exact h1 ⟨c5, Or.inr (Or.inl c38)⟩
      · refine mOk.iload4 dX1_mayBeSecond_41 ?_
        refine mOk.aload0n dX1_mayBeSecond_43 rfl ?_
        refine mOk.iload5 dX1_mayBeSecond_44 ?_
        refine mOk.callV1 (M' := mX1_classOf) dX1_mayBeSecond_46 ml_X1_51 ke_X1_classOf (by first | assumption | rfl) (by decide) (by decide) (by simp [Value.category]) (c_classOf hx ?_)
        refine mOk.iclt (tgt := 56) dX1_mayBeSecond_49 (by decide) (fun c49 => ?_) (fun c49 => ?_)
        · refine mOk.iconst (x := 0) dX1_mayBeSecond_56 (by decide) ?_
          refine mOk.zret dX1_mayBeSecond_57 rfl (by decide) ?_
          exact h0 (fun z => z.2.elim (fun w => w c33) (fun w => w.elim c38 (fun v => v c49)))
        · refine mOk.iconst (x := 1) dX1_mayBeSecond_52 (by decide) ?_
          refine mOk.goto (tgt := 57) dX1_mayBeSecond_53 (by decide) ?_
          refine mOk.zret dX1_mayBeSecond_57 rfl (by decide) ?_
          exact h1 ⟨c5, Or.inr (Or.inr c49)⟩
  · refine mOk.iconst (x := 0) dX1_mayBeSecond_8 (by decide) ?_
    refine mOk.zret dX1_mayBeSecond_9 rfl (by decide) ?_
    exact h0 (fun z => c5 z.1)
end CODES2
