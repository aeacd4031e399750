/-! ===== Codes: a code comes ===== -/
def cS (cb : Nat) : List Nat := [cb, cb + 1, cb + 2, cb + 3, cb + 4, cb + 5, cb + 6, cb + 7, cb + 8]
theorem Cd.eq {I I' : Nat → Nat → Int32} {cb : Nat} {T : List CR} (hx : Cd I cb T) (h0 : I' cb 7 = I cb 7) (h1 : ∀ i j, 1 ≤ i → i ≤ 5 → j < T.length → I' (cb + i) j = I (cb + i) j) (h6 : ∀ j, j < T.length * 4 → I' (cb + 6) j = I (cb + 6) j) (h7 : I' (cb + 7) = I (cb + 7)) (h8 : I' (cb + 8) = I (cb + 8)) : Cd I' cb T := by
  obtain ⟨a1, a2, a3, a4, a5⟩ := hx
  refine ⟨a1, a2, h0.trans a3, fun j q hq => ?_, a5.1, a5.2.1, by rw [h7]; exact a5.2.2.1, by rw [h8]; exact a5.2.2.2⟩
  have hj : j < T.length := (List.getElem?_eq_some_iff.mp hq).1
  obtain ⟨b1, b2, b3, b4, b5, b6, b7⟩ := a4 j q hq
  refine ⟨(h1 1 j (by omega) (by omega) hj).trans b1, (h1 2 j (by omega) (by omega) hj).trans b2, (h1 3 j (by omega) (by omega) hj).trans b3, (h1 4 j (by omega) (by omega) hj).trans b4, (h1 5 j (by omega) (by omega) hj).trans b5, b6, fun k p hk => (h6 _ ?_).trans (b7 k p hk)⟩
  have : k < q.2.2.2.2.length := (List.getElem?_eq_some_iff.mp hk).1
  omega
theorem Cd.off {S : List Nat} {I I' : Nat → Nat → Int32} {cb : Nat} {T : List CR} (hx : Cd I cb T) (ho : Off S I I') (hs : ∀ a ∈ cS cb, a ∉ S) : Cd I' cb T := by
  have h : ∀ a ∈ cS cb, I' a = I a := fun a ha => ho a (hs a ha)
  refine hx.eq ?_ (fun i j h1 h2 _ => ?_) (fun j _ => ?_) ?_ ?_
  · rw [h cb (by simp [cS])]
  · rw [h (cb + i) (by simp [cS]; omega)]
  · rw [h (cb + 6) (by simp [cS])]
  · exact h _ (by simp [cS])
  · exact h _ (by simp [cS])
/-- a code that is being added, behind those of T -/
def Pn (I : Nat → Nat → Int32) (cb : Nat) (T : List CR) (q : CR) : Prop := Cd I cb T ∧ T.length < 24 ∧ I (cb + 1) T.length = q.1 ∧ I (cb + 2) T.length = q.2.1 ∧ I (cb + 3) T.length = q.2.2.1 ∧ I (cb + 4) T.length = q.2.2.2.1 ∧ I (cb + 5) T.length = nI q.2.2.2.2.length ∧ q.2.2.2.2.length ≤ 4 ∧ ∀ k p, q.2.2.2.2[k]? = some p → I (cb + 6) (T.length * 4 + k) = p
section CODES3
variable {sw : Bool} {I : Nat → Nat → Int32} {J : Nat → Nat → Int64} {cb : Nat} {T : List CR} {Q : Option Value → mi_H → Prop}
theorem c_addPiece {q : CR} (hx : Pn I cb T q) (h4 : q.2.2.2.2.length < 4) {p : Int32} (hQ : ∀ I', Pn I' cb T (q.1, q.2.1, q.2.2.1, q.2.2.2.1, q.2.2.2.2 ++ [p]) → Off (cS cb) I I' → Q none (hS sw I' J)) : mCl mX1_addPiece 0 0 0 [.ref cb, .int p] (hS sw I J) Q := by
  obtain ⟨hc, hn, e1, e2, e3, e4, e5, e6, e7⟩ := hx
  obtain ⟨k0, k1, k2, k3, k4, k5, k6, k7, k8⟩ := cdK hc.1
  obtain ⟨p0, p1, p2, p3, p4, p5, p6⟩ := cdP hc.1 sw
  have hsz := hc.2.2.1
  refine mCl.of (by decide) rfl (Nat.le_of_ble_eq_true rfl) ?_
  show mOk _ _ _ _ _ [some (.ref cb), some (.int p), none] _ _ _ _ _
  refine mOk.aload0n dX1_addPiece_0 rfl ?_
  refine mOk.getIv dX1_addPiece_1 fl_X1_39 (by first | assumption | rfl) hsz ?_
  refine mOk.iflt (tgt := 16) dX1_addPiece_4 (by decide) (fun c4 => absurd c4 (nI_neg' (by omega))) (fun c4 => ?_)
  refine mOk.aload0n dX1_addPiece_7 rfl ?_
  refine mOk.getIv dX1_addPiece_8 fl_X1_39 (by first | assumption | rfl) hsz ?_
  refine mOk.bipush (x := nI 24) dX1_addPiece_11 (by decide) ?_
  refine mOk.iclt (tgt := 17) dX1_addPiece_13 (by decide) (fun c13 => ?_) (fun c13 => absurd ((nI_lt' (by omega) (by omega)).mpr hn) c13)
  refine mOk.aload0n dX1_addPiece_17 rfl ?_
  refine mOk.getR dX1_addPiece_18 fl_X1_24 (by first | assumption | rfl) (by first | assumption | rfl) ?_
  refine mOk.aload0n dX1_addPiece_21 rfl ?_
  refine mOk.getIv dX1_addPiece_22 fl_X1_39 (by first | assumption | rfl) hsz ?_
  refine mOk.ialdv dX1_addPiece_25 (by first | assumption | rfl) rfl (by omega) (by first | assumption | decide | omega) e5 ?_
  refine mOk.istore2n dX1_addPiece_26 rfl (by decide) rfl ?_
  refine mOk.iload2n dX1_addPiece_27 rfl ?_
  refine mOk.iflt (tgt := 36) dX1_addPiece_28 (by decide) (fun c28 => absurd c28 (nI_neg' (by omega))) (fun c28 => ?_)
  refine mOk.iload2n dX1_addPiece_31 rfl ?_
  refine mOk.iconst (x := nI 4) dX1_addPiece_32 (by decide) ?_
  refine mOk.iclt (tgt := 37) dX1_addPiece_33 (by decide) (fun c33 => ?_) (fun c33 => absurd ((nI_lt' (by omega) (by omega)).mpr h4) c33)
  refine mOk.aload0n dX1_addPiece_37 rfl ?_
  refine mOk.getR dX1_addPiece_38 fl_X1_27 (by first | assumption | rfl) (by first | assumption | rfl) ?_
  refine mOk.aload0n dX1_addPiece_41 rfl ?_
  refine mOk.getIv dX1_addPiece_42 fl_X1_39 (by first | assumption | rfl) hsz ?_
  refine mOk.iconst (x := nI 4) dX1_addPiece_45 (by decide) ?_
  refine mOk.imul dX1_addPiece_46 ?_
  refine mOk.top (pk_mul T.length 4) ?_
  refine mOk.iload2n dX1_addPiece_47 rfl ?_
  refine mOk.iadd dX1_addPiece_48 ?_
  refine mOk.top (nI_add (T.length * 4) q.2.2.2.2.length) ?_
  refine mOk.iload1n dX1_addPiece_49 rfl ?_
  refine mOk.iastt dX1_addPiece_50 (by first | assumption | rfl) rfl (by omega) (by first | assumption | decide | omega) ?_
  refine mOk.aload0n dX1_addPiece_51 rfl ?_
  refine mOk.getR dX1_addPiece_52 fl_X1_24 (by first | assumption | rfl) (by first | assumption | rfl) ?_
  refine mOk.aload0n dX1_addPiece_55 rfl ?_
  refine mOk.getIv dX1_addPiece_56 fl_X1_39 (by first | assumption | rfl) ((congrFun (wI_c (by omega)) 7).trans hsz) ?_
  refine mOk.iload2n dX1_addPiece_59 rfl ?_
  refine mOk.iconst (x := nI 1) dX1_addPiece_60 (by decide) ?_
  refine mOk.iadd dX1_addPiece_61 ?_
  refine mOk.top (nI_1 q.2.2.2.2.length) ?_
  refine mOk.iastt dX1_addPiece_62 (by first | assumption | rfl) rfl (by omega) (by first | assumption | decide | omega) ?_
  refine mOk.vret dX1_addPiece_63 rfl (by decide) ?_
  have g : ∀ a j, a ≠ cb + 5 → a ≠ cb + 6 → wI (wI I (cb + 6) (T.length * 4 + q.2.2.2.2.length) p) (cb + 5) T.length (nI (q.2.2.2.2.length + 1)) a j = I a j := fun a j h1 h2 => by rw [wI_c h1, wI_c h2]
  refine hQ _ ⟨hc.eq (g _ _ (by omega) (by omega)) (fun i j h1 h2 hj => ?_) (fun j hj => ?_) ?_ ?_, hn, (g _ _ (by omega) (by omega)).trans e1, (g _ _ (by omega) (by omega)).trans e2, (g _ _ (by omega) (by omega)).trans e3, (g _ _ (by omega) (by omega)).trans e4, ?_, by simp; omega, fun k p' hk => ?_⟩ ?_
  · rw [wI_j (by omega), wI_c (by omega)]
  · rw [wI_c (by omega), wI_j (by omega)]
  · rw [wI_c (by omega), wI_c (by omega)]
  · rw [wI_c (by omega), wI_c (by omega)]
  · rw [wI_s]; simp
  · rw [wI_c (by omega)]
    rcases Nat.lt_or_ge k q.2.2.2.2.length with z | z
    · rw [List.getElem?_append_left z] at hk
      rw [wI_j (by omega)]
      exact e7 k p' hk
    · rw [List.getElem?_append_right z] at hk
      have hj : k - q.2.2.2.2.length < 1 := (List.getElem?_eq_some_iff.mp hk).1
      rw [show k = q.2.2.2.2.length by omega] at hk ⊢
      simp at hk
      rw [wI_s, hk]
  · exact (Off.w (a := cb + 6) (by simp [cS])).tr (Off.w (by simp [cS]))
theorem l_addPieces {I0 : Nat → Nat → Int32} {q : CR} {c : Int32} (h4 : q.2.2.2.2.length + (tP T c).length ≤ 4) (hQ : ∀ I', Pn I' cb T (q.1, q.2.1, q.2.2.1, q.2.2.2.1, q.2.2.2.2 ++ tP T c) → Off (cS cb) I0 I' → Q none (hS sw I' J)) :
    ∀ (m i : Nat) (I : Nat → Nat → Int32), i + m = (tP T c).length → Pn I cb T (q.1, q.2.1, q.2.2.1, q.2.2.2.1, q.2.2.2.2 ++ (tP T c).take i) → Off (cS cb) I0 I → mOk mX1_addPiecesOf 2 0 0 2 [some (.ref cb), some (.int c), some (.int (nI i))] [] (hS sw I J) 0 0 Q := by
  intro m
  induction m with
  | zero =>
    intro i I hi hx ho
    obtain ⟨k0, -⟩ := cdK hx.1.1
    refine mOk.iload2n dX1_addPiecesOf_2 rfl ?_
    refine mOk.aload0n dX1_addPiecesOf_3 rfl ?_
    refine mOk.iload1n dX1_addPiecesOf_4 rfl ?_
    refine mOk.callV1 (M' := mX1_pieceCount) dX1_addPiecesOf_5 ml_X1_64 ke_X1_pieceCount (by first | assumption | rfl) (by decide) (by decide) (by simp [Value.category]) (c_pieceCount hx.1 ?_)
    refine mOk.icge (tgt := 27) dX1_addPiecesOf_8 (by decide) (fun c8 => ?_) (fun c8 => absurd ((nI_le' (by omega) (by omega)).mpr (by omega)) c8)
    refine mOk.vret dX1_addPiecesOf_27 rfl (by decide) ?_
    rw [List.take_of_length_le (by omega)] at hx
    exact hQ _ hx ho
  | succ m ih =>
    intro i I hi hx ho
    obtain ⟨k0, -⟩ := cdK hx.1.1
    refine mOk.iload2n dX1_addPiecesOf_2 rfl ?_
    refine mOk.aload0n dX1_addPiecesOf_3 rfl ?_
    refine mOk.iload1n dX1_addPiecesOf_4 rfl ?_
    refine mOk.callV1 (M' := mX1_pieceCount) dX1_addPiecesOf_5 ml_X1_64 ke_X1_pieceCount (by first | assumption | rfl) (by decide) (by decide) (by simp [Value.category]) (c_pieceCount hx.1 ?_)
    refine mOk.icge (tgt := 27) dX1_addPiecesOf_8 (by decide) (fun c8 => absurd c8 (mt (nI_le' (by omega) (by omega)).mp (by omega))) (fun c8 => ?_)
    refine mOk.aload0n dX1_addPiecesOf_11 rfl ?_
    refine mOk.aload0n dX1_addPiecesOf_12 rfl ?_
    refine mOk.iload1n dX1_addPiecesOf_13 rfl ?_
    refine mOk.iload2n dX1_addPiecesOf_14 rfl ?_
    refine mOk.callV2 (M' := mX1_piece) dX1_addPiecesOf_15 ml_X1_70 ke_X1_piece (by first | assumption | rfl) (by decide) (by decide) (by simp [Value.category]) (c_piece hx.1 (by omega) ?_)
    refine mOk.callV1 (M' := mX1_addPiece) dX1_addPiecesOf_18 ml_X1_83 ke_X1_addPiece (by first | assumption | rfl) (by decide) (by decide) (by simp [Value.category]) (c_addPiece hx (by simp; omega) ?_)
    intro I' hx' ho'
    refine mOk.iinc2 dX1_addPiecesOf_21 (mOk.inc1 rfl) (by decide) rfl ?_
    refine mOk.goto (tgt := 2) dX1_addPiecesOf_24 (by decide) ?_
    refine ih (i + 1) I' (by omega) ?_ (ho.tr ho')
    rw [take_s (by omega), ← List.append_assoc]
    exact hx'
theorem c_addPieces {q : CR} (hx : Pn I cb T q) {c : Int32} (h4 : q.2.2.2.2.length + (tP T c).length ≤ 4) (hQ : ∀ I', Pn I' cb T (q.1, q.2.1, q.2.2.1, q.2.2.2.1, q.2.2.2.2 ++ tP T c) → Off (cS cb) I I' → Q none (hS sw I' J)) : mCl mX1_addPiecesOf 2 0 0 [.ref cb, .int c] (hS sw I J) Q := by
  refine mCl.of (by decide) rfl (Nat.le_of_ble_eq_true rfl) ?_
  show mOk _ _ _ _ _ [some (.ref cb), some (.int c), none] _ _ _ _ _
  refine mOk.iconst (x := nI 0) dX1_addPiecesOf_0 (by decide) ?_
  refine mOk.istore2n dX1_addPiecesOf_1 rfl (by decide) rfl ?_
  refine l_addPieces h4 hQ _ 0 I (Nat.zero_add _) ?_ Off.rf
  rw [List.take_zero, List.append_nil]
  exact hx
theorem c_cempty (hx : Cd I cb T) (hQ : ∀ I', Cd I' cb [] → Off (cS cb) I I' → Q none (hS sw I' J)) : mCl mX1_empty 1 0 0 [.ref cb] (hS sw I J) Q := by
  obtain ⟨k0, k1, k2, k3, k4, k5, k6, k7, k8⟩ := cdK hx.1
  obtain ⟨p0, p1, p2, p3, p4, p5, p6⟩ := cdP hx.1 sw
  refine mCl.of (by decide) rfl (Nat.le_of_ble_eq_true rfl) ?_
  show mOk _ _ _ _ _ [some (.ref cb)] _ _ _ _ _
  refine mOk.aload0n dX1_empty_0 rfl ?_
  refine mOk.iconst (x := nI 0) dX1_empty_1 (by decide) ?_
  refine mOk.putIt dX1_empty_2 fl_X1_39 (by first | assumption | rfl) ?_
  refine mOk.aload0n dX1_empty_5 rfl ?_
  refine mOk.getR dX1_empty_6 fl_X1_35 (by first | assumption | rfl) (by first | assumption | rfl) ?_
  refine mOk.callV0 (M' := mX5_empty) dX1_empty_9 ml_X1_80 ke_X5_empty (by first | assumption | rfl) (by decide) (by decide) (by simp [Value.category]) (c_rempty (hx.2.2.2.2.off (S := [cb]) (Off.w (by simp)) (by simp) (by simp)) ?_)
  intro I' hr ho
  refine mOk.vret dX1_empty_12 rfl (by decide) ?_
  refine hQ _ ⟨hx.1, Nat.zero_le _, ?_, fun j q h => by simp at h, hr⟩ ((Off.w (a := cb) (by simp [cS])).tr (ho.up (by intro a ha; simp [cS] at ha ⊢; omega)))
  rw [ho cb (by simp), wI_s]; rfl
def addR (T : List CR) (kd cl a b : Int32) : CR := (kd, cl, a, b, (if kd = 0 then [nI T.length] else []) ++ tP T a ++ tP T b)
theorem c_add (hx : Cd I cb T) (hn : T.length < 24) {kd cl a b : Int32} (h4 : (addR T kd cl a b).2.2.2.2.length ≤ 4) (h7 : kd = 1 → (prs T).length < 7) (hQ : ∀ I', Cd I' cb (T ++ [addR T kd cl a b]) → Off (cS cb) I I' → Q none (hS sw I' J)) : mCl mX1_add 3 0 0 [.ref cb, .int kd, .int cl, .int a, .int b] (hS sw I J) Q := by
  obtain ⟨k0, k1, k2, k3, k4, k5, k6, k7, k8⟩ := cdK hx.1
  obtain ⟨p0, p1, p2, p3, p4, p5, p6⟩ := cdP hx.1 sw
  have hsz := hx.2.2.1
  refine mCl.of (by decide) rfl (Nat.le_of_ble_eq_true rfl) ?_
  show mOk _ _ _ _ _ [some (.ref cb), some (.int kd), some (.int cl), some (.int a), some (.int b)] _ _ _ _ _
  refine mOk.aload0n dX1_add_0 rfl ?_
  refine mOk.getIv dX1_add_1 fl_X1_39 (by first | assumption | rfl) hsz ?_
  refine mOk.iflt (tgt := 16) dX1_add_4 (by decide) (fun c4 => absurd c4 (nI_neg' (by omega))) (fun c4 => ?_)
  refine mOk.aload0n dX1_add_7 rfl ?_
  refine mOk.getIv dX1_add_8 fl_X1_39 (by first | assumption | rfl) hsz ?_
  refine mOk.bipush (x := nI 24) dX1_add_11 (by decide) ?_
  refine mOk.iclt (tgt := 17) dX1_add_13 (by decide) (fun c13 => ?_) (fun c13 => absurd ((nI_lt' (by omega) (by omega)).mpr hn) c13)
  refine mOk.aload0n dX1_add_17 rfl ?_
  refine mOk.getR dX1_add_18 fl_X1_9 (by first | assumption | rfl) (by first | assumption | rfl) ?_
  refine mOk.aload0n dX1_add_21 rfl ?_
  refine mOk.getIv dX1_add_22 fl_X1_39 (by first | assumption | rfl) hsz ?_
  refine mOk.iload1n dX1_add_25 rfl ?_
  refine mOk.iastt dX1_add_26 (by first | assumption | rfl) rfl (by omega) (by first | assumption | decide | omega) ?_
  refine mOk.aload0n dX1_add_27 rfl ?_
  refine mOk.getR dX1_add_28 fl_X1_15 (by first | assumption | rfl) (by first | assumption | rfl) ?_
  refine mOk.aload0n dX1_add_31 rfl ?_
  refine mOk.getIv dX1_add_32 fl_X1_39 (by first | assumption | rfl) ((congrFun (wI_c (by omega)) 7).trans hsz) ?_
  refine mOk.iload2n dX1_add_35 rfl ?_
  refine mOk.iastt dX1_add_36 (by first | assumption | rfl) rfl (by omega) (by first | assumption | decide | omega) ?_
  refine mOk.aload0n dX1_add_37 rfl ?_
  refine mOk.getR dX1_add_38 fl_X1_18 (by first | assumption | rfl) (by first | assumption | rfl) ?_
  refine mOk.aload0n dX1_add_41 rfl ?_
  refine mOk.getIv dX1_add_42 fl_X1_39 (by first | assumption | rfl) ((congrFun (wI_c (by omega)) 7).trans ((congrFun (wI_c (by omega)) 7).trans hsz)) ?_
  refine mOk.iload3n dX1_add_45 rfl ?_
  refine mOk.iastt dX1_add_46 (by first | assumption | rfl) rfl (by omega) (by first | assumption | decide | omega) ?_
  refine mOk.aload0n dX1_add_47 rfl ?_
  refine mOk.getR dX1_add_48 fl_X1_21 (by first | assumption | rfl) (by first | assumption | rfl) ?_
  refine mOk.aload0n dX1_add_51 rfl ?_
  refine mOk.getIv dX1_add_52 fl_X1_39 (by first | assumption | rfl) ((congrFun (wI_c (by omega)) 7).trans ((congrFun (wI_c (by omega)) 7).trans ((congrFun (wI_c (by omega)) 7).trans hsz))) ?_
  refine mOk.iload4 dX1_add_55 ?_
  refine mOk.iastt dX1_add_57 (by first | assumption | rfl) rfl (by omega) (by first | assumption | decide | omega) ?_
  refine mOk.aload0n dX1_add_58 rfl ?_
  refine mOk.getR dX1_add_59 fl_X1_24 (by first | assumption | rfl) (by first | assumption | rfl) ?_
  refine mOk.aload0n dX1_add_62 rfl ?_
  refine mOk.getIv dX1_add_63 fl_X1_39 (by first | assumption | rfl) ((congrFun (wI_c (by omega)) 7).trans ((congrFun (wI_c (by omega)) 7).trans ((congrFun (wI_c (by omega)) 7).trans ((congrFun (wI_c (by omega)) 7).trans hsz)))) ?_
  refine mOk.iconst (x := nI 0) dX1_add_66 (by decide) ?_
  refine mOk.iastt dX1_add_67 (by first | assumption | rfl) rfl (by omega) (by first | assumption | decide | omega) ?_
  generalize hI1 : wI (wI (wI (wI (wI I (cb + 1) T.length kd) (cb + 2) T.length cl) (cb + 3) T.length a) (cb + 4) T.length b) (cb + 5) T.length (nI 0) = I1
  have ho1 : Off (cS cb) I I1 := by
    rw [← hI1]
    exact (Off.w (a := cb + 1) (by simp [cS])).tr ((Off.w (a := cb + 2) (by simp [cS])).tr ((Off.w (a := cb + 3) (by simp [cS])).tr ((Off.w (a := cb + 4) (by simp [cS])).tr (Off.w (by simp [cS])))))
  have hp1 : Pn I1 cb T (kd, cl, a, b, []) := by
    rw [← hI1]
    refine ⟨hx.eq ?_ (fun i j h1 h2 hj => ?_) (fun j hj => ?_) ?_ ?_, hn, ?_, ?_, ?_, ?_, ?_, by simp, fun k p h => by simp at h⟩
    · simp only [wI_c (show cb ≠ cb + 5 by omega), wI_c (show cb ≠ cb + 4 by omega), wI_c (show cb ≠ cb + 3 by omega), wI_c (show cb ≠ cb + 2 by omega), wI_c (show cb ≠ cb + 1 by omega)]
    · rw [wI_j (by omega), wI_j (by omega), wI_j (by omega), wI_j (by omega), wI_j (by omega)]
    · rw [wI_c (by omega), wI_c (by omega), wI_c (by omega), wI_c (by omega), wI_c (by omega)]
    · rw [wI_c (by omega), wI_c (by omega), wI_c (by omega), wI_c (by omega), wI_c (by omega)]
    · rw [wI_c (by omega), wI_c (by omega), wI_c (by omega), wI_c (by omega), wI_c (by omega)]
    · rw [wI_c (by omega), wI_c (by omega), wI_c (by omega), wI_c (by omega), wI_s]
    · rw [wI_c (by omega), wI_c (by omega), wI_c (by omega), wI_s]
    · rw [wI_c (by omega), wI_c (by omega), wI_s]
    · rw [wI_c (by omega), wI_s]
    · rw [wI_s]; rfl
  have key : ∀ I2, Pn I2 cb T (kd, cl, a, b, if kd = 0 then [nI T.length] else []) → Off (cS cb) I I2 → mOk mX1_add 3 0 0 80 [some (.ref cb), some (.int kd), some (.int cl), some (.int a), some (.int b)] [] (hS sw I2 J) 0 0 Q := by
    intro I2 hp2 ho2
    have h4' : ((if kd = 0 then [nI T.length] else []) : List Int32).length + (tP T a).length + (tP T b).length ≤ 4 := by simpa [addR, Nat.add_assoc] using h4
    refine mOk.aload0n dX1_add_80 rfl ?_
    refine mOk.iload3n dX1_add_81 rfl ?_
    refine mOk.callV1 (M' := mX1_addPiecesOf) dX1_add_82 ml_X1_86 ke_X1_addPiecesOf (by first | assumption | rfl) (by decide) (by decide) (by simp [Value.category]) (c_addPieces hp2 (Nat.le_trans (Nat.le_add_right _ (tP T b).length) h4') ?_)
    intro I3 hp3 ho3
    refine mOk.aload0n dX1_add_85 rfl ?_
    refine mOk.iload4 dX1_add_86 ?_
    refine mOk.callV1 (M' := mX1_addPiecesOf) dX1_add_88 ml_X1_86 ke_X1_addPiecesOf (by first | assumption | rfl) (by decide) (by decide) (by simp [Value.category]) (c_addPieces hp3 (by show List.length (_ ++ _) + _ ≤ 4; rw [List.length_append]; omega) ?_)
    intro I4 hp4 ho4
    have ho : Off (cS cb) I I4 := ho2.tr (ho3.tr ho4)
    obtain ⟨hc4, -, e1, e2, e3, e4, e5, e6, e7⟩ := hp4
    have fin : ∀ I5, Off [cb + 7, cb + 8] I4 I5 → Rw I5 (cb + 7) (cb + 8) 7 (prs (T ++ [addR T kd cl a b])) → Off (cS cb) I I5 → mOk mX1_add 3 0 0 108 [some (.ref cb), some (.int kd), some (.int cl), some (.int a), some (.int b)] [] (hS sw I5 J) 0 0 Q := by
      intro I5 h5 hr5 ho5
      have hsz5 : I5 cb 7 = nI T.length := by rw [h5 cb (by simp)]; exact hc4.2.2.1
      refine mOk.aload0n dX1_add_108 rfl ?_
      refine mOk.dup dX1_add_109 rfl ?_
      refine mOk.getIv dX1_add_110 fl_X1_39 (by first | assumption | rfl) hsz5 ?_
      refine mOk.iconst (x := nI 1) dX1_add_113 (by decide) ?_
      refine mOk.iadd dX1_add_114 ?_
      refine mOk.top (nI_1 T.length) ?_
      refine mOk.putIt dX1_add_115 fl_X1_39 (by first | assumption | rfl) ?_
      refine mOk.vret dX1_add_118 rfl (by decide) ?_
      refine hQ _ ⟨hx.1, by simp; omega, by rw [wI_s]; simp, fun j q hq => ?_, hr5.off (S := [cb]) (Off.w (by simp)) (by simp) (by simp)⟩ (ho5.tr (Off.w (by simp [cS])))
      have g : ∀ i, 1 ≤ i → i ≤ 6 → wI I5 cb 7 (nI (T.length + 1)) (cb + i) = I4 (cb + i) := fun i h1 h2 => by rw [wI_c (by omega), h5 _ (by simp; omega)]
      rw [g 1 (by omega) (by omega), g 2 (by omega) (by omega), g 3 (by omega) (by omega), g 4 (by omega) (by omega), g 5 (by omega) (by omega), g 6 (by omega) (by omega)]
      rcases Nat.lt_or_ge j T.length with z | z
      · rw [List.getElem?_append_left z] at hq
        exact hc4.2.2.2.1 j q hq
      · rw [List.getElem?_append_right z] at hq
        have hj : j - T.length < 1 := (List.getElem?_eq_some_iff.mp hq).1
        rw [show j = T.length by omega] at hq ⊢
        simp at hq
        subst hq
        exact ⟨e1, e2, e3, e4, e5, e6, e7⟩
    have hr4 := hc4.2.2.2.2
    refine mOk.iload1n dX1_add_91 rfl ?_
    refine mOk.iconst (x := 1) dX1_add_92 (by decide) ?_
    refine mOk.icne (tgt := 108) dX1_add_93 (by decide) (fun c93 => ?_) (fun c93 => ?_)
    · refine fin I4 Off.rf ?_ ho
      rw [prs_app, if_neg (show ¬ (addR T kd cl a b).1 = 1 from c93), List.append_nil]
      exact hr4
    · refine mOk.aload0n dX1_add_96 rfl ?_
      refine mOk.getR dX1_add_97 fl_X1_35 (by first | assumption | rfl) (by first | assumption | rfl) ?_
      refine mOk.aload0n dX1_add_100 rfl ?_
      refine mOk.getIv dX1_add_101 fl_X1_39 (by first | assumption | rfl) hc4.2.2.1 ?_
      refine mOk.callV1 (M' := mX5_push) dX1_add_104 ml_X1_89 ke_X5_push (by first | assumption | rfl) (by decide) (by decide) (by simp [Value.category]) (c_push hr4 (h7 c93) ?_)
      intro I5 hr5 ho5
      refine mOk.pop dX1_add_107 rfl ?_
      refine fin I5 ho5 ?_ (ho.tr (ho5.up (by intro x hx; simp [cS] at hx ⊢; omega)))
      rw [prs_app, if_pos (show (addR T kd cl a b).1 = 1 from c93)]
      exact hr5
  refine mOk.iload1n dX1_add_68 rfl ?_
  refine mOk.ifne (tgt := 80) dX1_add_69 (by decide) (fun c69 => ?_) (fun c69 => ?_)
  · rw [if_neg c69] at key
    exact key I1 hp1 ho1
  · rw [if_pos c69] at key
    refine mOk.aload0n dX1_add_72 rfl ?_
    refine mOk.aload0n dX1_add_73 rfl ?_
    refine mOk.getIv dX1_add_74 fl_X1_39 (by first | assumption | rfl) hp1.1.2.2.1 ?_
    refine mOk.callV1 (M' := mX1_addPiece) dX1_add_77 ml_X1_83 ke_X1_addPiece (by first | assumption | rfl) (by decide) (by decide) (by simp [Value.category]) (c_addPiece hp1 (by simp) ?_)
    intro I2 hp2 ho2
    exact key I2 hp2 (ho1.tr ho2)
end CODES3
