/-! ===== the reference: the pipe, images, counts ===== -/
section MODEL8
variable {sw : Bool} {I : Nat → Nat → Int32} {J : Nat → Nat → Int64} {Q : Option Value → mi_H → Prop} {bs : List Nat} {T : List CR} {tx : Nat → List Int32} {pp : List Nat} {hs : List (Nat × List Int32)} {im : ImT}
theorem M_pipes_out {r : Int32} (hr : r < 0 ∨ nI 6 ≤ r) (hQ : Q (some (.int (-1))) (hS sw I J)) : mCl mX9_pipes 2 0 0 [.ref 97, .int r] (hS sw I J) Q := by
  refine mCl.of (by decide) rfl (Nat.le_of_ble_eq_true rfl) ?_
  show mOk _ _ _ _ _ [some (.ref 97), some (.int r)] _ _ _ _ _
  refine mOk.iload1n dX9_pipes_0 rfl ?_
  refine mOk.callS1 (M' := mX9_isRule) dX9_pipes_1 ml_X9_190 ke_X9_isRule rfl (by decide) (by decide) (by simp [Value.category]) (c_misRule_n hr ?_)
  refine mOk.ifne (tgt := 9) dX9_pipes_4 (by decide) (fun c4 => absurd (rfl) c4) (fun c4 => ?_)
  refine mOk.iconst (x := -1) dX9_pipes_7 (by decide) ?_
  refine mOk.iret dX9_pipes_8 rfl hQ
theorem M_pipes_full {r : Nat} (h : InvM I bs T tx pp hs im) (hr : r < 6) (hl : pp.length = 4) (hQ : Q (some (.int (-3))) (hS sw I J)) : mCl mX9_pipes 2 0 0 [.ref 97, .int (nI r)] (hS sw I J) Q := by
  obtain ⟨h1, h2, h3, h4, h5, h6⟩ := h
  refine mCl.of (by decide) rfl (Nat.le_of_ble_eq_true rfl) ?_
  show mOk _ _ _ _ _ [some (.ref 97), some (.int (nI r))] _ _ _ _ _
  refine mOk.iload1n dX9_pipes_0 rfl ?_
  refine mOk.callS1 (M' := mX9_isRule) dX9_pipes_1 ml_X9_190 ke_X9_isRule rfl (by decide) (by decide) (by simp [Value.category]) (c_misRule_y hr ?_)
  refine mOk.ifne (tgt := 9) dX9_pipes_4 (by decide) (fun c4 => ?_) (fun c4 => absurd c4 ((by decide)))
  refine mOk.aload0n dX9_pipes_9 rfl ?_
  refine mOk.getIv dX9_pipes_10 fl_X9_141 (by first | assumption | rfl) h4.2.1 ?_
  refine mOk.iconst (x := nI 4) dX9_pipes_13 (by decide) ?_
  refine mOk.icne (tgt := 20) dX9_pipes_14 (by decide) (fun c14 => absurd ((by rw [hl])) c14) (fun c14 => ?_)
  refine mOk.bipush (x := -3) dX9_pipes_17 (by decide) ?_
  refine mOk.iret dX9_pipes_19 rfl hQ
theorem M_pipes_in {r : Nat} (h : InvM I bs T tx pp hs im) (hr : r < 6) (hl : pp.length < 4) (hQ : ∀ I', InvM I' bs T tx (pp ++ [r]) hs im → Of [14] [108] I I' → Q (some (.int (nI (pp.length + 1)))) (hS sw I' J)) : mCl mX9_pipes 2 0 0 [.ref 97, .int (nI r)] (hS sw I J) Q := by
  obtain ⟨h1, h2, h3, h4, h5, h6⟩ := h
  refine mCl.of (by decide) rfl (Nat.le_of_ble_eq_true rfl) ?_
  show mOk _ _ _ _ _ [some (.ref 97), some (.int (nI r))] _ _ _ _ _
  refine mOk.iload1n dX9_pipes_0 rfl ?_
  refine mOk.callS1 (M' := mX9_isRule) dX9_pipes_1 ml_X9_190 ke_X9_isRule rfl (by decide) (by decide) (by simp [Value.category]) (c_misRule_y hr ?_)
  refine mOk.ifne (tgt := 9) dX9_pipes_4 (by decide) (fun c4 => ?_) (fun c4 => absurd c4 ((by decide)))
  refine mOk.aload0n dX9_pipes_9 rfl ?_
  refine mOk.getIv dX9_pipes_10 fl_X9_141 (by first | assumption | rfl) h4.2.1 ?_
  refine mOk.iconst (x := nI 4) dX9_pipes_13 (by decide) ?_
  refine mOk.icne (tgt := 20) dX9_pipes_14 (by decide) (fun c14 => ?_) (fun c14 => absurd c14 (mt (nI_eq' (by omega) (by omega)).mp (by omega)))
  refine mOk.aload0n dX9_pipes_20 rfl ?_
  refine mOk.getR dX9_pipes_21 fl_X9_40 (by first | assumption | rfl) (by first | assumption | rfl) ?_
  refine mOk.aload0n dX9_pipes_24 rfl ?_
  refine mOk.getIv dX9_pipes_25 fl_X9_141 (by first | assumption | rfl) h4.2.1 ?_
  refine mOk.iload1n dX9_pipes_28 rfl ?_
  refine mOk.iastt dX9_pipes_29 (by first | assumption | rfl) rfl (by omega) (by first | assumption | decide | omega) ?_
  have e14 : wI I 108 pp.length (nI r) 97 14 = nI pp.length := by rw [wI_c (by decide)]; exact h4.2.1
  refine mOk.aload0n dX9_pipes_30 rfl ?_
  refine mOk.dup dX9_pipes_31 rfl ?_
  refine mOk.getIv dX9_pipes_32 fl_X9_141 (by first | assumption | rfl) e14 ?_
  refine mOk.iconst (x := nI 1) dX9_pipes_35 (by decide) ?_
  refine mOk.iadd dX9_pipes_36 ?_
  refine mOk.top ((nI_add _ _)) ?_
  refine mOk.putIt dX9_pipes_37 fl_X9_141 (by first | assumption | rfl) ?_
  refine mOk.aload0n dX9_pipes_40 rfl ?_
  refine mOk.getIv dX9_pipes_41 fl_X9_141 (by first | assumption | rfl) (wI_s (wI I 108 pp.length (nI r)) 97 14 (nI (pp.length + 1))) ?_
  refine mOk.iret dX9_pipes_44 rfl ?_
  have o : Of [14] [108] I (wI (wI I 108 pp.length (nI r)) 97 14 (nI (pp.length + 1))) := (Of.a (by decide) (by decide)).tr (Of.f (by decide))
  refine hQ _ ⟨h1.of o (by decide) (by decide), h2.of o (by decide) (by decide), h3.of o (by decide) (by decide), ⟨by simp; omega, by rw [wI_s]; simp, fun j hj => ?_⟩, h5.of o (by decide) (by decide), h6.of o (by decide)⟩ o
  rw [wI_c (by decide)]
  simp at hj
  rcases Nat.lt_or_ge j pp.length with z | z
  · rw [wI_j (by omega), h4.2.2 j z, List.getD_eq_getElem?_getD, List.getD_eq_getElem?_getD, List.getElem?_append_left z]
  · rw [show j = pp.length by omega, wI_s]
    simp
theorem M_unpipe (h : InvM I bs T tx pp hs im) (hQ : ∀ I', InvM I' bs T tx [] hs im → Of [14] [] I I' → Q (some (.int (nI pp.length))) (hS sw I' J)) : mCl mX9_unpipe 0 0 0 [.ref 97] (hS sw I J) Q := by
  obtain ⟨h1, h2, h3, h4, h5, h6⟩ := h
  refine mCl.of (by decide) rfl (Nat.le_of_ble_eq_true rfl) ?_
  show mOk _ _ _ _ _ [some (.ref 97), none] _ _ _ _ _
  refine mOk.aload0n dX9_unpipe_0 rfl ?_
  refine mOk.getIv dX9_unpipe_1 fl_X9_141 (by first | assumption | rfl) h4.2.1 ?_
  refine mOk.istore1n dX9_unpipe_4 rfl (by decide) rfl ?_
  refine mOk.aload0n dX9_unpipe_5 rfl ?_
  refine mOk.iconst (x := nI 0) dX9_unpipe_6 (by decide) ?_
  refine mOk.putIt dX9_unpipe_7 fl_X9_141 (by first | assumption | rfl) ?_
  have o : Of [14] [] I (wI I 97 14 (nI 0)) := Of.f (by decide)
  refine mOk.iload1n dX9_unpipe_10 rfl ?_
  refine mOk.iret dX9_unpipe_11 rfl ?_
  exact hQ _ ⟨h1.of o (by decide) (by decide), h2.of o (by decide) (by decide), h3.of o (by decide) (by decide), ⟨by simp, by rw [wI_s]; rfl, by simp⟩, h5.of o (by decide) (by decide), h6.of o (by decide)⟩ o
theorem c_allMany (h3 : MX I tx) (hQ : Q (some (.int (nI (tot tx 4)))) (hS sw I J)) : mCl mX9_allMany 0 0 0 [.ref 97] (hS sw I J) Q := by
  have e : (tx 0).length + (tx 1).length + (tx 2).length + (tx 3).length = tot tx 4 := by
    show _ = 0 + (tx 0).length + (tx 1).length + (tx 2).length + (tx 3).length
    omega
  refine mCl.of (by decide) rfl (Nat.le_of_ble_eq_true rfl) ?_
  show mOk _ _ _ _ _ [some (.ref 97)] _ _ _ _ _
  refine mOk.aload0n dX9_allMany_0 rfl ?_
  refine mOk.getR dX9_allMany_1 fl_X9_34 (by first | assumption | rfl) (by first | assumption | rfl) ?_
  refine mOk.iconst (x := nI 0) dX9_allMany_4 (by decide) ?_
  refine mOk.ialdv (j := 0) dX9_allMany_5 (by first | assumption | rfl) rfl (by omega) (by first | assumption | decide | omega) (h3 0 (by decide)).2.1 ?_
  refine mOk.aload0n dX9_allMany_6 rfl ?_
  refine mOk.getR dX9_allMany_7 fl_X9_34 (by first | assumption | rfl) (by first | assumption | rfl) ?_
  refine mOk.iconst (x := nI 1) dX9_allMany_10 (by decide) ?_
  refine mOk.ialdv (j := 1) dX9_allMany_11 (by first | assumption | rfl) rfl (by omega) (by first | assumption | decide | omega) (h3 1 (by decide)).2.1 ?_
  refine mOk.iadd dX9_allMany_12 ?_
  refine mOk.top ((nI_add _ _)) ?_
  refine mOk.aload0n dX9_allMany_13 rfl ?_
  refine mOk.getR dX9_allMany_14 fl_X9_34 (by first | assumption | rfl) (by first | assumption | rfl) ?_
  refine mOk.iconst (x := nI 2) dX9_allMany_17 (by decide) ?_
  refine mOk.ialdv (j := 2) dX9_allMany_18 (by first | assumption | rfl) rfl (by omega) (by first | assumption | decide | omega) (h3 2 (by decide)).2.1 ?_
  refine mOk.iadd dX9_allMany_19 ?_
  refine mOk.top ((nI_add _ _)) ?_
  refine mOk.aload0n dX9_allMany_20 rfl ?_
  refine mOk.getR dX9_allMany_21 fl_X9_34 (by first | assumption | rfl) (by first | assumption | rfl) ?_
  refine mOk.iconst (x := nI 3) dX9_allMany_24 (by decide) ?_
  refine mOk.ialdv (j := 3) dX9_allMany_25 (by first | assumption | rfl) rfl (by omega) (by first | assumption | decide | omega) (h3 3 (by decide)).2.1 ?_
  refine mOk.iadd dX9_allMany_26 ?_
  refine mOk.top ((nI_add _ _)) ?_
  refine mOk.iret dX9_allMany_27 rfl ?_
  rw [e]
  exact hQ
theorem M_count_out {w : Int32} (hw : w < 0 ∨ nI 8 ≤ w) (hQ : Q (some (.int (-1))) (hS sw I J)) : mCl mX9_count 1 0 0 [.ref 97, .int w] (hS sw I J) Q := by
  refine mCl.of (by decide) rfl (Nat.le_of_ble_eq_true rfl) ?_
  show mOk _ _ _ _ _ [some (.ref 97), some (.int w)] _ _ _ _ _
  refine mOk.iload1n dX9_count_0 rfl ?_
  refine mOk.iconst (x := nI 0) dX9_count_1 (by decide) ?_
  refine mOk.bipush (x := nI 7) dX9_count_2 (by decide) ?_
  refine mOk.callS3 (M' := mX9_in) dX9_count_4 ml_X9_66 ke_X9_in rfl (by decide) (by decide) (by simp [Value.category]) (c_in_n (hw.imp id (i32_ltg (by omega))) ?_)
  refine mOk.ifne (tgt := 12) dX9_count_7 (by decide) (fun c7 => absurd (rfl) c7) (fun c7 => ?_)
  refine mOk.iconst (x := -1) dX9_count_10 (by decide) ?_
  refine mOk.iret dX9_count_11 rfl hQ
theorem M_count_in {w : Nat} (h : InvM I bs T tx pp hs im) (hTO : TOk T) (hw : w < 8) (hQ : Q (some (.int (nI (cnt8 bs T pp hs w)))) (hS sw I J)) : mCl mX9_count 1 0 0 [.ref 97, .int (nI w)] (hS sw I J) Q := by
  obtain ⟨h1, h2, h3, h4, h5, h6⟩ := h
  refine mCl.of (by decide) rfl (Nat.le_of_ble_eq_true rfl) ?_
  show mOk _ _ _ _ _ [some (.ref 97), some (.int (nI w))] _ _ _ _ _
  refine mOk.iload1n dX9_count_0 rfl ?_
  refine mOk.iconst (x := nI 0) dX9_count_1 (by decide) ?_
  refine mOk.bipush (x := nI 7) dX9_count_2 (by decide) ?_
  refine mOk.callS3 (M' := mX9_in) dX9_count_4 ml_X9_66 ke_X9_in rfl (by decide) (by decide) (by simp [Value.category]) (c_in_y (nI_neg' (by omega)) (mt (nI_lt' (by omega) (by omega)).mp (by omega)) ?_)
  refine mOk.ifne (tgt := 12) dX9_count_7 (by decide) (fun c7 => ?_) (fun c7 => absurd c7 ((by decide)))
  rcases (show w = 0 ∨ w = 1 ∨ w = 2 ∨ w = 3 ∨ w = 4 ∨ w = 5 ∨ w = 6 ∨ w = 7 by omega) with rfl | rfl | rfl | rfl | rfl | rfl | rfl | rfl
  · refine mOk.iload1n dX9_count_12 rfl ?_
    refine mOk.tableIn (off := 43) (tgt := 56) dX9_count_13 (by decide) (by decide) (by decide) (by decide) ?_
    refine mOk.aload0n dX9_count_56 rfl ?_
    refine mOk.getIv dX9_count_57 fl_X9_62 (by first | assumption | rfl) h1.2.1 ?_
    refine mOk.iret dX9_count_60 rfl hQ
  · refine mOk.iload1n dX9_count_12 rfl ?_
    refine mOk.tableIn (off := 48) (tgt := 61) dX9_count_13 (by decide) (by decide) (by decide) (by decide) ?_
    refine mOk.aload0n dX9_count_61 rfl ?_
    refine mOk.callV0 (M' := mX9_marks) dX9_count_62 ml_X9_230 ke_X9_marks (by first | assumption | rfl) (by decide) (by decide) (by simp [Value.category]) (c_marks h1 hTO ?_)
    refine mOk.iret dX9_count_65 rfl hQ
  · refine mOk.iload1n dX9_count_12 rfl ?_
    refine mOk.tableIn (off := 53) (tgt := 66) dX9_count_13 (by decide) (by decide) (by decide) (by decide) ?_
    refine mOk.aload0n dX9_count_66 rfl ?_
    refine mOk.iconst (x := 1) dX9_count_67 (by decide) ?_
    refine mOk.callV1 (M' := mX9_sortMany) dX9_count_68 ml_X9_116 ke_X9_sortMany (by first | assumption | rfl) (by decide) (by decide) (by simp [Value.category]) (c_sortMany h1 ?_)
    refine mOk.iret dX9_count_71 rfl hQ
  · refine mOk.iload1n dX9_count_12 rfl ?_
    refine mOk.tableIn (off := 59) (tgt := 72) dX9_count_13 (by decide) (by decide) (by decide) (by decide) ?_
    refine mOk.aload0n dX9_count_72 rfl ?_
    refine mOk.iconst (x := 2) dX9_count_73 (by decide) ?_
    refine mOk.callV1 (M' := mX9_sortMany) dX9_count_74 ml_X9_116 ke_X9_sortMany (by first | assumption | rfl) (by decide) (by decide) (by simp [Value.category]) (c_sortMany h1 ?_)
    refine mOk.iret dX9_count_77 rfl hQ
  · refine mOk.iload1n dX9_count_12 rfl ?_
    refine mOk.tableIn (off := 65) (tgt := 78) dX9_count_13 (by decide) (by decide) (by decide) (by decide) ?_
    refine mOk.aload0n dX9_count_78 rfl ?_
    refine mOk.iconst (x := 3) dX9_count_79 (by decide) ?_
    refine mOk.callV1 (M' := mX9_sortMany) dX9_count_80 ml_X9_116 ke_X9_sortMany (by first | assumption | rfl) (by decide) (by decide) (by simp [Value.category]) (c_sortMany h1 ?_)
    refine mOk.iret dX9_count_83 rfl hQ
  · refine mOk.iload1n dX9_count_12 rfl ?_
    refine mOk.tableIn (off := 71) (tgt := 84) dX9_count_13 (by decide) (by decide) (by decide) (by decide) ?_
    refine mOk.aload0n dX9_count_84 rfl ?_
    refine mOk.getIv dX9_count_85 fl_X9_141 (by first | assumption | rfl) h4.2.1 ?_
    refine mOk.iret dX9_count_88 rfl hQ
  · refine mOk.iload1n dX9_count_12 rfl ?_
    refine mOk.tableIn (off := 76) (tgt := 89) dX9_count_13 (by decide) (by decide) (by decide) (by decide) ?_
    refine mOk.aload0n dX9_count_89 rfl ?_
    refine mOk.getIv dX9_count_90 fl_X9_144 (by first | assumption | rfl) h5.2.1 ?_
    refine mOk.iret dX9_count_93 rfl hQ
  · refine mOk.iload1n dX9_count_12 rfl ?_
    refine mOk.tableOut (tgt := 94) dX9_count_13 (Or.inr (by decide)) (by decide) ?_
    refine mOk.aload0n dX9_count_94 rfl ?_
    refine mOk.getIv dX9_count_95 fl_X9_82 (by first | assumption | rfl) h2.1 ?_
    refine mOk.iret dX9_count_98 rfl hQ
theorem M_keep_out {i : Int32} (hi : i < 0 ∨ nI 2 ≤ i) (hQ : Q (some (.int (-1))) (hS sw I J)) : mCl mX9_keep 1 0 0 [.ref 97, .int i] (hS sw I J) Q := by
  refine mCl.of (by decide) rfl (Nat.le_of_ble_eq_true rfl) ?_
  show mOk _ _ _ _ _ [some (.ref 97), some (.int i), none, none] _ _ _ _ _
  refine mOk.iload1n dX9_keep_0 rfl ?_
  refine mOk.iconst (x := nI 0) dX9_keep_1 (by decide) ?_
  refine mOk.iconst (x := nI 1) dX9_keep_2 (by decide) ?_
  refine mOk.callS3 (M' := mX9_in) dX9_keep_3 ml_X9_66 ke_X9_in rfl (by decide) (by decide) (by simp [Value.category]) (c_in_n (hi.imp id (i32_ltg (by omega))) ?_)
  refine mOk.ifne (tgt := 11) dX9_keep_6 (by decide) (fun c6 => absurd (rfl) c6) (fun c6 => ?_)
  refine mOk.iconst (x := -1) dX9_keep_9 (by decide) ?_
  refine mOk.iret dX9_keep_10 rfl hQ
/-- what an image holds, as it is written -/
def KpI (I0 I : Nat → Nat → Int32) (i k1 k2 : Nat) (n : Int32) : Prop := I 114 (74 * i) = 1 ∧ I 114 (74 * i + 1) = n ∧ (∀ j, j < k1 → I 114 (74 * i + 2 + j) = I0 108 j ∧ I 114 (74 * i + 6 + j) = I0 106 j) ∧ (∀ j, j < k2 → I 114 (74 * i + 10 + j) = I0 107 j) ∧ (∀ j, (j < 74 * i ∨ 74 * i + 74 ≤ j) → I 114 j = I0 114 j)
theorem l_keep2 {I0 : Nat → Nat → Int32} {i : Nat} {n : Int32} (hi : i < 2) (hX : MX I0 tx) (hQ : ∀ I', KpI I0 I' i 4 64 n → Of [] [114] I0 I' → Q (some (.int (nI (tot tx 4)))) (hS sw I' J)) :
    ∀ (m k : Nat) (I : Nat → Nat → Int32), k + m = 64 → KpI I0 I i 4 k n → Of [] [114] I0 I → mOk mX9_keep 1 0 0 83 [some (.ref 97), some (.int (nI i)), some (.int (nI (74 * i))), some (.int (nI k))] [] (hS sw I J) 0 0 Q := by
  intro m
  induction m with
  | zero =>
    intro k I hm hK ho
    rw [show k = 64 by omega] at hK
    refine mOk.iload3n dX9_keep_83 rfl ?_
    refine mOk.bipush (x := nI 64) dX9_keep_84 (by decide) ?_
    refine mOk.icge (tgt := 112) dX9_keep_86 (by decide) (fun c86 => ?_) (fun c86 => absurd ((nI_le' (by omega) (by omega)).mpr (by omega)) c86)
    refine mOk.aload0n dX9_keep_112 rfl ?_
    refine mOk.callV0 (M' := mX9_allMany) dX9_keep_113 ml_X9_227 ke_X9_allMany (by first | assumption | rfl) (by decide) (by decide) (by simp [Value.category]) (c_allMany (hX.of ho (by decide) (by decide)) ?_)
    refine mOk.iret dX9_keep_116 rfl ?_
    exact hQ I hK ho
  | succ m ih =>
    intro k I hm hK ho
    obtain ⟨k1, k2, k3, k4, k5⟩ := hK
    refine mOk.iload3n dX9_keep_83 rfl ?_
    refine mOk.bipush (x := nI 64) dX9_keep_84 (by decide) ?_
    refine mOk.icge (tgt := 112) dX9_keep_86 (by decide) (fun c86 => absurd c86 (mt (nI_le' (by omega) (by omega)).mp (by omega))) (fun c86 => ?_)
    refine mOk.aload0n dX9_keep_89 rfl ?_
    refine mOk.getR dX9_keep_90 fl_X9_59 (by first | assumption | rfl) (by first | assumption | rfl) ?_
    refine mOk.iload2n dX9_keep_93 rfl ?_
    refine mOk.bipush (x := nI 10) dX9_keep_94 (by decide) ?_
    refine mOk.iadd dX9_keep_96 ?_
    refine mOk.top ((nI_add _ _)) ?_
    refine mOk.iload3n dX9_keep_97 rfl ?_
    refine mOk.iadd dX9_keep_98 ?_
    refine mOk.top ((nI_add _ _)) ?_
    refine mOk.aload0n dX9_keep_99 rfl ?_
    refine mOk.getR dX9_keep_100 fl_X9_37 (by first | assumption | rfl) (by first | assumption | rfl) ?_
    refine mOk.iload3n dX9_keep_103 rfl ?_
    refine mOk.ialdv dX9_keep_104 (by first | assumption | rfl) rfl (by omega) (by first | assumption | decide | omega) (congrFun (ho.1 107 (by decide) (by decide)) k) ?_
    refine mOk.iastt dX9_keep_105 (by first | assumption | rfl) rfl (by omega) (by first | assumption | decide | omega) ?_
    refine mOk.iinc3 dX9_keep_106 (mOk.inc1 rfl) (by decide) rfl ?_
    refine mOk.goto (tgt := 83) dX9_keep_109 (by decide) ?_
    refine ih (k + 1) _ (by omega) ⟨by rw [wI_j (by omega)]; exact k1, by rw [wI_j (by omega)]; exact k2, fun j hj => ?_, fun j hj => ?_, fun j hj => ?_⟩ (ho.tr (Of.a (by decide) (by decide)))
    · rw [wI_j (by omega), wI_j (by omega)]
      exact k3 j hj
    · rcases Nat.lt_or_ge j k with z | z
      · rw [wI_j (by omega)]
        exact k4 j z
      · rw [show j = k by omega, wI_s]
    · rw [wI_j (by omega)]
      exact k5 j hj
theorem l_keep1 {I0 : Nat → Nat → Int32} {i : Nat} {n : Int32} (hi : i < 2) (hX : MX I0 tx) (hQ : ∀ I', KpI I0 I' i 4 64 n → Of [] [114] I0 I' → Q (some (.int (nI (tot tx 4)))) (hS sw I' J)) :
    ∀ (m k : Nat) (I : Nat → Nat → Int32), k + m = 4 → KpI I0 I i k 0 n → Of [] [114] I0 I → mOk mX9_keep 1 0 0 37 [some (.ref 97), some (.int (nI i)), some (.int (nI (74 * i))), some (.int (nI k))] [] (hS sw I J) 0 0 Q := by
  intro m
  induction m with
  | zero =>
    intro k I hm hK ho
    rw [show k = 4 by omega] at hK
    refine mOk.iload3n dX9_keep_37 rfl ?_
    refine mOk.iconst (x := nI 4) dX9_keep_38 (by decide) ?_
    refine mOk.icge (tgt := 81) dX9_keep_39 (by decide) (fun c39 => ?_) (fun c39 => absurd ((nI_le' (by omega) (by omega)).mpr (by omega)) c39)
    refine mOk.iconst (x := nI 0) dX9_keep_81 (by decide) ?_
    refine mOk.istore3n dX9_keep_82 rfl (by decide) rfl ?_
    exact l_keep2 hi hX hQ 64 0 I rfl hK ho
  | succ m ih =>
    intro k I hm hK ho
    obtain ⟨k1, k2, k3, k4, k5⟩ := hK
    have e106 : ∀ j x, wI I 114 j x 106 k = I0 106 k := fun j x => by rw [wI_c (by decide), ho.1 106 (by decide) (by decide)]
    refine mOk.iload3n dX9_keep_37 rfl ?_
    refine mOk.iconst (x := nI 4) dX9_keep_38 (by decide) ?_
    refine mOk.icge (tgt := 81) dX9_keep_39 (by decide) (fun c39 => absurd c39 (mt (nI_le' (by omega) (by omega)).mp (by omega))) (fun c39 => ?_)
    refine mOk.aload0n dX9_keep_42 rfl ?_
    refine mOk.getR dX9_keep_43 fl_X9_59 (by first | assumption | rfl) (by first | assumption | rfl) ?_
    refine mOk.iload2n dX9_keep_46 rfl ?_
    refine mOk.iconst (x := nI 2) dX9_keep_47 (by decide) ?_
    refine mOk.iadd dX9_keep_48 ?_
    refine mOk.top ((nI_add _ _)) ?_
    refine mOk.iload3n dX9_keep_49 rfl ?_
    refine mOk.iadd dX9_keep_50 ?_
    refine mOk.top ((nI_add _ _)) ?_
    refine mOk.aload0n dX9_keep_51 rfl ?_
    refine mOk.getR dX9_keep_52 fl_X9_40 (by first | assumption | rfl) (by first | assumption | rfl) ?_
    refine mOk.iload3n dX9_keep_55 rfl ?_
    refine mOk.ialdv dX9_keep_56 (by first | assumption | rfl) rfl (by omega) (by first | assumption | decide | omega) (congrFun (ho.1 108 (by decide) (by decide)) k) ?_
    refine mOk.iastt dX9_keep_57 (by first | assumption | rfl) rfl (by omega) (by first | assumption | decide | omega) ?_
    refine mOk.aload0n dX9_keep_58 rfl ?_
    refine mOk.getR dX9_keep_59 fl_X9_59 (by first | assumption | rfl) (by first | assumption | rfl) ?_
    refine mOk.iload2n dX9_keep_62 rfl ?_
    refine mOk.bipush (x := nI 6) dX9_keep_63 (by decide) ?_
    refine mOk.iadd dX9_keep_65 ?_
    refine mOk.top ((nI_add _ _)) ?_
    refine mOk.iload3n dX9_keep_66 rfl ?_
    refine mOk.iadd dX9_keep_67 ?_
    refine mOk.top ((nI_add _ _)) ?_
    refine mOk.aload0n dX9_keep_68 rfl ?_
    refine mOk.getR dX9_keep_69 fl_X9_34 (by first | assumption | rfl) (by first | assumption | rfl) ?_
    refine mOk.iload3n dX9_keep_72 rfl ?_
    refine mOk.ialdv dX9_keep_73 (by first | assumption | rfl) rfl (by omega) (by first | assumption | decide | omega) (e106 (74 * i + 2 + k) (I0 108 k)) ?_
    refine mOk.iastt dX9_keep_74 (by first | assumption | rfl) rfl (by omega) (by first | assumption | decide | omega) ?_
    refine mOk.iinc3 dX9_keep_75 (mOk.inc1 rfl) (by decide) rfl ?_
    refine mOk.goto (tgt := 37) dX9_keep_78 (by decide) ?_
    refine ih (k + 1) _ (by omega) ⟨by rw [wI_j (by omega), wI_j (by omega)]; exact k1, by rw [wI_j (by omega), wI_j (by omega)]; exact k2, fun j hj => ?_, fun j hj => absurd hj (Nat.not_lt_zero j), fun j hj => ?_⟩ (ho.tr ((Of.a (by decide) (by decide)).tr (Of.a (by decide) (by decide))))
    · rcases Nat.lt_or_ge j k with z | z
      · rw [wI_j (by omega), wI_j (by omega), wI_j (by omega), wI_j (by omega)]
        exact k3 j z
      · rw [show j = k by omega]
        exact ⟨by rw [wI_j (by omega), wI_s], by rw [wI_s]⟩
    · rw [wI_j (by omega), wI_j (by omega)]
      exact k5 j hj
theorem M_keep_in {i : Nat} (h : InvM I bs T tx pp hs im) (hi : i < 2) (hQ : ∀ I', InvM I' bs T tx pp hs (va_up im i (some (tx, pp))) → Of [] [114] I I' → Q (some (.int (nI (tot tx 4)))) (hS sw I' J)) : mCl mX9_keep 1 0 0 [.ref 97, .int (nI i)] (hS sw I J) Q := by
  obtain ⟨h1, h2, h3, h4, h5, h6⟩ := h
  refine mCl.of (by decide) rfl (Nat.le_of_ble_eq_true rfl) ?_
  show mOk _ _ _ _ _ [some (.ref 97), some (.int (nI i)), none, none] _ _ _ _ _
  refine mOk.iload1n dX9_keep_0 rfl ?_
  refine mOk.iconst (x := nI 0) dX9_keep_1 (by decide) ?_
  refine mOk.iconst (x := nI 1) dX9_keep_2 (by decide) ?_
  refine mOk.callS3 (M' := mX9_in) dX9_keep_3 ml_X9_66 ke_X9_in rfl (by decide) (by decide) (by simp [Value.category]) (c_in_y (nI_neg' (by omega)) (mt (nI_lt' (by omega) (by omega)).mp (by omega)) ?_)
  refine mOk.ifne (tgt := 11) dX9_keep_6 (by decide) (fun c6 => ?_) (fun c6 => absurd c6 ((by decide)))
  refine mOk.bipush (x := nI 74) dX9_keep_11 (by decide) ?_
  refine mOk.iload1n dX9_keep_13 rfl ?_
  refine mOk.imul dX9_keep_14 ?_
  refine mOk.top ((pk_mul _ _)) ?_
  refine mOk.istore2n dX9_keep_15 rfl (by decide) rfl ?_
  refine mOk.aload0n dX9_keep_16 rfl ?_
  refine mOk.getR dX9_keep_17 fl_X9_59 (by first | assumption | rfl) (by first | assumption | rfl) ?_
  refine mOk.iload2n dX9_keep_20 rfl ?_
  refine mOk.iconst (x := 1) dX9_keep_21 (by decide) ?_
  refine mOk.iastt dX9_keep_22 (by first | assumption | rfl) rfl (by omega) (by first | assumption | decide | omega) ?_
  have e14 : wI I 114 (74 * i) 1 97 14 = nI pp.length := by rw [wI_c (by decide)]; exact h4.2.1
  refine mOk.aload0n dX9_keep_23 rfl ?_
  refine mOk.getR dX9_keep_24 fl_X9_59 (by first | assumption | rfl) (by first | assumption | rfl) ?_
  refine mOk.iload2n dX9_keep_27 rfl ?_
  refine mOk.iconst (x := nI 1) dX9_keep_28 (by decide) ?_
  refine mOk.iadd dX9_keep_29 ?_
  refine mOk.top ((nI_add _ _)) ?_
  refine mOk.aload0n dX9_keep_30 rfl ?_
  refine mOk.getIv dX9_keep_31 fl_X9_141 (by first | assumption | rfl) e14 ?_
  refine mOk.iastt dX9_keep_34 (by first | assumption | rfl) rfl (by omega) (by first | assumption | decide | omega) ?_
  refine mOk.iconst (x := nI 0) dX9_keep_35 (by decide) ?_
  refine mOk.istore3n dX9_keep_36 rfl (by decide) rfl ?_
  refine l_keep1 (I0 := I) (n := nI pp.length) (tx := tx) hi h3 (fun I' hK ho => ?_) 4 0 _ rfl ⟨by rw [wI_j (by omega), wI_s], by rw [wI_s], fun j hj => absurd hj (Nat.not_lt_zero j), fun j hj => absurd hj (Nat.not_lt_zero j), fun j hj => by rw [wI_j (by omega), wI_j (by omega)]⟩ ((Of.a (by decide) (by decide)).tr (Of.a (by decide) (by decide)))
  obtain ⟨k1, k2, k3, k4, k5⟩ := hK
  refine hQ I' ⟨h1.of ho (by decide) (by decide), h2.of ho (by decide) (by decide), h3.of ho (by decide) (by decide), h4.of ho (by decide) (by decide), h5.of ho (by decide) (by decide), fun j hj => ?_⟩ ho
  by_cases e : j = i
  · subst e
    rw [va_up_s]
    refine ⟨k1, k2, h4.1, fun k hk => ?_, fun t ht => ?_⟩
    · rw [(k3 k (by have := h4.1; have hk' : k < pp.length := hk; omega)).1]
      exact h4.2.2 k hk
    · obtain ⟨x1, x2, x3⟩ := h3 t ht
      refine ⟨x1, by rw [(k3 t ht).2]; exact x2, fun k c hk => ?_⟩
      have hkl := (List.getElem?_eq_some_iff.mp hk).1
      have hkl' : k < (tx t).length := hkl
      rw [k4 _ (by omega)]
      exact x3 k c hk
  · rw [va_up_n e]
    have := h6 j hj
    unfold MI1 at this ⊢
    cases hz : im j with
    | none =>
      rw [hz] at this
      show I' 114 (74 * j) = 0
      rw [k5 _ (by omega)]
      exact this
    | some b =>
      rw [hz] at this
      obtain ⟨z1, z2, z3, z4, z5⟩ := this
      refine ⟨by rw [k5 _ (by omega)]; exact z1, by rw [k5 _ (by omega)]; exact z2, z3, fun k hk => by rw [k5 _ (by omega)]; exact z4 k hk, fun t ht => ?_⟩
      obtain ⟨x1, x2, x3⟩ := z5 t ht
      refine ⟨x1, by rw [k5 _ (by omega)]; exact x2, fun k c hk => ?_⟩
      have hkl := (List.getElem?_eq_some_iff.mp hk).1
      rw [k5 _ (by omega)]
      exact x3 k c hk
theorem M_back_out {i : Int32} (hi : i < 0 ∨ nI 2 ≤ i) (hQ : Q (some (.int (-1))) (hS sw I J)) : mCl mX9_back 1 0 0 [.ref 97, .int i] (hS sw I J) Q := by
  refine mCl.of (by decide) rfl (Nat.le_of_ble_eq_true rfl) ?_
  show mOk _ _ _ _ _ [some (.ref 97), some (.int i), none, none] _ _ _ _ _
  refine mOk.iload1n dX9_back_0 rfl ?_
  refine mOk.iconst (x := nI 0) dX9_back_1 (by decide) ?_
  refine mOk.iconst (x := nI 1) dX9_back_2 (by decide) ?_
  refine mOk.callS3 (M' := mX9_in) dX9_back_3 ml_X9_66 ke_X9_in rfl (by decide) (by decide) (by simp [Value.category]) (c_in_n (hi.imp id (i32_ltg (by omega))) ?_)
  refine mOk.ifne (tgt := 11) dX9_back_6 (by decide) (fun c6 => absurd (rfl) c6) (fun c6 => ?_)
  refine mOk.iconst (x := -1) dX9_back_9 (by decide) ?_
  refine mOk.iret dX9_back_10 rfl hQ
theorem M_back_none {i : Nat} (h : InvM I bs T tx pp hs im) (hi : i < 2) (hz : im i = none) (hQ : Q (some (.int (-2))) (hS sw I J)) : mCl mX9_back 1 0 0 [.ref 97, .int (nI i)] (hS sw I J) Q := by
  have h6 := h.2.2.2.2.2 i hi
  rw [hz] at h6
  have h6' : I 114 (74 * i) = 0 := h6
  refine mCl.of (by decide) rfl (Nat.le_of_ble_eq_true rfl) ?_
  show mOk _ _ _ _ _ [some (.ref 97), some (.int (nI i)), none, none] _ _ _ _ _
  refine mOk.iload1n dX9_back_0 rfl ?_
  refine mOk.iconst (x := nI 0) dX9_back_1 (by decide) ?_
  refine mOk.iconst (x := nI 1) dX9_back_2 (by decide) ?_
  refine mOk.callS3 (M' := mX9_in) dX9_back_3 ml_X9_66 ke_X9_in rfl (by decide) (by decide) (by simp [Value.category]) (c_in_y (nI_neg' (by omega)) (mt (nI_lt' (by omega) (by omega)).mp (by omega)) ?_)
  refine mOk.ifne (tgt := 11) dX9_back_6 (by decide) (fun c6 => ?_) (fun c6 => absurd c6 ((by decide)))
  refine mOk.bipush (x := nI 74) dX9_back_11 (by decide) ?_
  refine mOk.iload1n dX9_back_13 rfl ?_
  refine mOk.imul dX9_back_14 ?_
  refine mOk.top ((pk_mul _ _)) ?_
  refine mOk.istore2n dX9_back_15 rfl (by decide) rfl ?_
  refine mOk.aload0n dX9_back_16 rfl ?_
  refine mOk.getR dX9_back_17 fl_X9_59 (by first | assumption | rfl) (by first | assumption | rfl) ?_
  refine mOk.iload2n dX9_back_20 rfl ?_
  refine mOk.ialdv dX9_back_21 (by first | assumption | rfl) rfl (by omega) (by first | assumption | decide | omega) h6' ?_
  refine mOk.ifne (tgt := 28) dX9_back_22 (by decide) (fun c22 => absurd (rfl) c22) (fun c22 => ?_)
  refine mOk.bipush (x := -2) dX9_back_25 (by decide) ?_
  refine mOk.iret dX9_back_27 rfl hQ
theorem l_back2 {I0 : Nat → Nat → Int32} {i : Nat} {b : Nat → List Int32} (hi : i < 2) (hQ : ∀ I', (∀ j, j < 64 → I' 107 j = I0 114 (74 * i + 10 + j)) → Of [17] [107] I0 I' → I' 97 17 = nI 0 → Q (some (.int (nI (tot b 4)))) (hS sw I' J)) (hX : ∀ I', (∀ j, j < 64 → I' 107 j = I0 114 (74 * i + 10 + j)) → Of [17] [107] I0 I' → MX I' b) :
    ∀ (m k : Nat) (I : Nat → Nat → Int32), k + m = 64 → (∀ j, j < k → I 107 j = I0 114 (74 * i + 10 + j)) → Of [] [107] I0 I → mOk mX9_back 1 0 0 88 [some (.ref 97), some (.int (nI i)), some (.int (nI (74 * i))), some (.int (nI k))] [] (hS sw I J) 0 0 Q := by
  intro m
  induction m with
  | zero =>
    intro k I hm hK ho
    rw [show k = 64 by omega] at hK
    refine mOk.iload3n dX9_back_88 rfl ?_
    refine mOk.bipush (x := nI 64) dX9_back_89 (by decide) ?_
    refine mOk.icge (tgt := 117) dX9_back_91 (by decide) (fun c91 => ?_) (fun c91 => absurd ((nI_le' (by omega) (by omega)).mpr (by omega)) c91)
    refine mOk.aload0n dX9_back_117 rfl ?_
    refine mOk.iconst (x := nI 0) dX9_back_118 (by decide) ?_
    refine mOk.putIt dX9_back_119 fl_X9_144 (by first | assumption | rfl) ?_
    have o : Of [17] [107] I0 (wI I 97 17 (nI 0)) := (ho.up (by decide) (by decide)).tr (Of.f (by decide))
    have hK2 : ∀ j, j < 64 → wI I 97 17 (nI 0) 107 j = I0 114 (74 * i + 10 + j) := fun j hj => by rw [wI_c (by decide)]; exact hK j hj
    refine mOk.aload0n dX9_back_122 rfl ?_
    refine mOk.callV0 (M' := mX9_allMany) dX9_back_123 ml_X9_227 ke_X9_allMany (by first | assumption | rfl) (by decide) (by decide) (by simp [Value.category]) (c_allMany (hX _ hK2 o) ?_)
    refine mOk.iret dX9_back_126 rfl ?_
    exact hQ _ hK2 o (wI_s _ _ _ _)
  | succ m ih =>
    intro k I hm hK ho
    refine mOk.iload3n dX9_back_88 rfl ?_
    refine mOk.bipush (x := nI 64) dX9_back_89 (by decide) ?_
    refine mOk.icge (tgt := 117) dX9_back_91 (by decide) (fun c91 => absurd c91 (mt (nI_le' (by omega) (by omega)).mp (by omega))) (fun c91 => ?_)
    refine mOk.aload0n dX9_back_94 rfl ?_
    refine mOk.getR dX9_back_95 fl_X9_37 (by first | assumption | rfl) (by first | assumption | rfl) ?_
    refine mOk.iload3n dX9_back_98 rfl ?_
    refine mOk.aload0n dX9_back_99 rfl ?_
    refine mOk.getR dX9_back_100 fl_X9_59 (by first | assumption | rfl) (by first | assumption | rfl) ?_
    refine mOk.iload2n dX9_back_103 rfl ?_
    refine mOk.bipush (x := nI 10) dX9_back_104 (by decide) ?_
    refine mOk.iadd dX9_back_106 ?_
    refine mOk.top ((nI_add _ _)) ?_
    refine mOk.iload3n dX9_back_107 rfl ?_
    refine mOk.iadd dX9_back_108 ?_
    refine mOk.top ((nI_add _ _)) ?_
    refine mOk.ialdv dX9_back_109 (by first | assumption | rfl) rfl (by omega) (by first | assumption | decide | omega) (congrFun (ho.1 114 (by decide) (by decide)) (74 * i + 10 + k)) ?_
    refine mOk.iastt dX9_back_110 (by first | assumption | rfl) rfl (by omega) (by first | assumption | decide | omega) ?_
    refine mOk.iinc3 dX9_back_111 (mOk.inc1 rfl) (by decide) rfl ?_
    refine mOk.goto (tgt := 88) dX9_back_114 (by decide) ?_
    refine ih (k + 1) _ (by omega) (fun j hj => ?_) (ho.tr (Of.a (by decide) (by decide)))
    rcases Nat.lt_or_ge j k with z | z
    · rw [wI_j (by omega)]
      exact hK j z
    · rw [show j = k by omega, wI_s]
theorem l_back1 {I0 : Nat → Nat → Int32} {i : Nat} (hi : i < 2) (kk : ∀ I', (∀ j, j < 4 → I' 108 j = I0 114 (74 * i + 2 + j) ∧ I' 106 j = I0 114 (74 * i + 6 + j)) → Of [] [106, 108] I0 I' → mOk mX9_back 1 0 0 88 [some (.ref 97), some (.int (nI i)), some (.int (nI (74 * i))), some (.int (nI 0))] [] (hS sw I' J) 0 0 Q) :
    ∀ (m k : Nat) (I : Nat → Nat → Int32), k + m = 4 → (∀ j, j < k → I 108 j = I0 114 (74 * i + 2 + j) ∧ I 106 j = I0 114 (74 * i + 6 + j)) → Of [] [106, 108] I0 I → mOk mX9_back 1 0 0 42 [some (.ref 97), some (.int (nI i)), some (.int (nI (74 * i))), some (.int (nI k))] [] (hS sw I J) 0 0 Q := by
  intro m
  induction m with
  | zero =>
    intro k I hm hK ho
    rw [show k = 4 by omega] at hK
    refine mOk.iload3n dX9_back_42 rfl ?_
    refine mOk.iconst (x := nI 4) dX9_back_43 (by decide) ?_
    refine mOk.icge (tgt := 86) dX9_back_44 (by decide) (fun c44 => ?_) (fun c44 => absurd ((nI_le' (by omega) (by omega)).mpr (by omega)) c44)
    refine mOk.iconst (x := nI 0) dX9_back_86 (by decide) ?_
    refine mOk.istore3n dX9_back_87 rfl (by decide) rfl ?_
    exact kk I hK ho
  | succ m ih =>
    intro k I hm hK ho
    have e114 : ∀ j x, wI I 108 j x 114 (74 * i + 6 + k) = I0 114 (74 * i + 6 + k) := fun j x => by rw [wI_c (by decide), ho.1 114 (by decide) (by decide)]
    refine mOk.iload3n dX9_back_42 rfl ?_
    refine mOk.iconst (x := nI 4) dX9_back_43 (by decide) ?_
    refine mOk.icge (tgt := 86) dX9_back_44 (by decide) (fun c44 => absurd c44 (mt (nI_le' (by omega) (by omega)).mp (by omega))) (fun c44 => ?_)
    refine mOk.aload0n dX9_back_47 rfl ?_
    refine mOk.getR dX9_back_48 fl_X9_40 (by first | assumption | rfl) (by first | assumption | rfl) ?_
    refine mOk.iload3n dX9_back_51 rfl ?_
    refine mOk.aload0n dX9_back_52 rfl ?_
    refine mOk.getR dX9_back_53 fl_X9_59 (by first | assumption | rfl) (by first | assumption | rfl) ?_
    refine mOk.iload2n dX9_back_56 rfl ?_
    refine mOk.iconst (x := nI 2) dX9_back_57 (by decide) ?_
    refine mOk.iadd dX9_back_58 ?_
    refine mOk.top ((nI_add _ _)) ?_
    refine mOk.iload3n dX9_back_59 rfl ?_
    refine mOk.iadd dX9_back_60 ?_
    refine mOk.top ((nI_add _ _)) ?_
    refine mOk.ialdv dX9_back_61 (by first | assumption | rfl) rfl (by omega) (by first | assumption | decide | omega) (congrFun (ho.1 114 (by decide) (by decide)) (74 * i + 2 + k)) ?_
    refine mOk.iastt dX9_back_62 (by first | assumption | rfl) rfl (by omega) (by first | assumption | decide | omega) ?_
    refine mOk.aload0n dX9_back_63 rfl ?_
    refine mOk.getR dX9_back_64 fl_X9_34 (by first | assumption | rfl) (by first | assumption | rfl) ?_
    refine mOk.iload3n dX9_back_67 rfl ?_
    refine mOk.aload0n dX9_back_68 rfl ?_
    refine mOk.getR dX9_back_69 fl_X9_59 (by first | assumption | rfl) (by first | assumption | rfl) ?_
    refine mOk.iload2n dX9_back_72 rfl ?_
    refine mOk.bipush (x := nI 6) dX9_back_73 (by decide) ?_
    refine mOk.iadd dX9_back_75 ?_
    refine mOk.top ((nI_add _ _)) ?_
    refine mOk.iload3n dX9_back_76 rfl ?_
    refine mOk.iadd dX9_back_77 ?_
    refine mOk.top ((nI_add _ _)) ?_
    refine mOk.ialdv dX9_back_78 (by first | assumption | rfl) rfl (by omega) (by first | assumption | decide | omega) (e114 k (I0 114 (74 * i + 2 + k))) ?_
    refine mOk.iastt dX9_back_79 (by first | assumption | rfl) rfl (by omega) (by first | assumption | decide | omega) ?_
    refine mOk.iinc3 dX9_back_80 (mOk.inc1 rfl) (by decide) rfl ?_
    refine mOk.goto (tgt := 42) dX9_back_83 (by decide) ?_
    refine ih (k + 1) _ (by omega) (fun j hj => ?_) (ho.tr ((Of.a (by decide) (by decide)).tr (Of.a (by decide) (by decide))))
    rcases Nat.lt_or_ge j k with z | z
    · rw [wI_c (by decide), wI_j (by omega), wI_j (by omega), wI_c (by decide)]
      exact hK j z
    · rw [show j = k by omega]
      exact ⟨by rw [wI_c (by decide), wI_s], by rw [wI_s]⟩
theorem M_back_in {i : Nat} {b : (Nat → List Int32) × List Nat} (h : InvM I bs T tx pp hs im) (hi : i < 2) (hz : im i = some b) (hQ : ∀ I', InvM I' bs T b.1 b.2 [] im → Of [14, 17] [106, 107, 108] I I' → Q (some (.int (nI (tot b.1 4)))) (hS sw I' J)) : mCl mX9_back 1 0 0 [.ref 97, .int (nI i)] (hS sw I J) Q := by
  obtain ⟨h1, h2, h3, h4, h5, h6⟩ := h
  have hi6 := h6 i hi
  rw [hz] at hi6
  obtain ⟨z1, z2, z3, z4, z5⟩ := hi6
  refine mCl.of (by decide) rfl (Nat.le_of_ble_eq_true rfl) ?_
  show mOk _ _ _ _ _ [some (.ref 97), some (.int (nI i)), none, none] _ _ _ _ _
  refine mOk.iload1n dX9_back_0 rfl ?_
  refine mOk.iconst (x := nI 0) dX9_back_1 (by decide) ?_
  refine mOk.iconst (x := nI 1) dX9_back_2 (by decide) ?_
  refine mOk.callS3 (M' := mX9_in) dX9_back_3 ml_X9_66 ke_X9_in rfl (by decide) (by decide) (by simp [Value.category]) (c_in_y (nI_neg' (by omega)) (mt (nI_lt' (by omega) (by omega)).mp (by omega)) ?_)
  refine mOk.ifne (tgt := 11) dX9_back_6 (by decide) (fun c6 => ?_) (fun c6 => absurd c6 ((by decide)))
  refine mOk.bipush (x := nI 74) dX9_back_11 (by decide) ?_
  refine mOk.iload1n dX9_back_13 rfl ?_
  refine mOk.imul dX9_back_14 ?_
  refine mOk.top ((pk_mul _ _)) ?_
  refine mOk.istore2n dX9_back_15 rfl (by decide) rfl ?_
  refine mOk.aload0n dX9_back_16 rfl ?_
  refine mOk.getR dX9_back_17 fl_X9_59 (by first | assumption | rfl) (by first | assumption | rfl) ?_
  refine mOk.iload2n dX9_back_20 rfl ?_
  refine mOk.ialdv dX9_back_21 (by first | assumption | rfl) rfl (by omega) (by first | assumption | decide | omega) z1 ?_
  refine mOk.ifne (tgt := 28) dX9_back_22 (by decide) (fun c22 => ?_) (fun c22 => absurd c22 ((by decide)))
  refine mOk.aload0n dX9_back_28 rfl ?_
  refine mOk.aload0n dX9_back_29 rfl ?_
  refine mOk.getR dX9_back_30 fl_X9_59 (by first | assumption | rfl) (by first | assumption | rfl) ?_
  refine mOk.iload2n dX9_back_33 rfl ?_
  refine mOk.iconst (x := nI 1) dX9_back_34 (by decide) ?_
  refine mOk.iadd dX9_back_35 ?_
  refine mOk.top ((nI_add _ _)) ?_
  refine mOk.ialdv dX9_back_36 (by first | assumption | rfl) rfl (by omega) (by first | assumption | decide | omega) z2 ?_
  refine mOk.putIt dX9_back_37 fl_X9_141 (by first | assumption | rfl) ?_
  refine mOk.iconst (x := nI 0) dX9_back_40 (by decide) ?_
  refine mOk.istore3n dX9_back_41 rfl (by decide) rfl ?_
  have o1 : Of [14] [] I (wI I 97 14 (nI b.2.length)) := Of.f (by decide)
  have e114 : wI I 97 14 (nI b.2.length) 114 = I 114 := wI_c (by decide)
  refine l_back1 (I0 := wI I 97 14 (nI b.2.length)) hi (fun I2 g1 g2 => ?_) 4 0 _ rfl (fun j hj => absurd hj (Nat.not_lt_zero j)) Of.rf
  have e2 : I2 114 = I 114 := by rw [g2.1 114 (by decide) (by decide), e114]
  rw [e114] at g1
  have hX : ∀ I', (∀ j, j < 64 → I' 107 j = I2 114 (74 * i + 10 + j)) → Of [17] [107] I2 I' → MX I' b.1 := by
    intro I' f1 f2 t ht
    obtain ⟨x1, x2, x3⟩ := z5 t ht
    refine ⟨x1, by rw [f2.1 106 (by decide) (by decide), (g1 t ht).2]; exact x2, fun k c hk => ?_⟩
    have hkl := (List.getElem?_eq_some_iff.mp hk).1
    rw [f1 _ (by omega), e2]
    exact x3 k c hk
  refine l_back2 (I0 := I2) (b := b.1) hi (fun I3 f1 f2 f3 => ?_) hX 64 0 I2 rfl (fun j hj => absurd hj (Nat.not_lt_zero j)) Of.rf
  have o : Of [14, 17] [106, 107, 108] I I3 := (o1.up (by decide) (by decide)).tr ((g2.up (by decide) (by decide)).tr (f2.up (by decide) (by decide)))
  refine hQ I3 ⟨h1.of o (by decide) (by decide), h2.of o (by decide) (by decide), hX I3 f1 f2, ⟨z3, ?_, fun k hk => ?_⟩, ⟨by simp, by rw [f3]; rfl, fun k q hk => by simp at hk⟩, h6.of o (by decide)⟩ o
  · rw [f2.2 14 (by decide), g2.2 14 (by decide), wI_s]
  · rw [f2.1 108 (by decide) (by decide), (g1 k (by omega)).1]
    exact z4 k hk
end MODEL8
