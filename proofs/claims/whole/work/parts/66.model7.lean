/-! ===== the reference: texts change; the pipe, images, counts ===== -/
section MODEL7
variable {sw : Bool} {I : Nat → Nat → Int32} {J : Nat → Nat → Int64} {Q : Option Value → mi_H → Prop} {bs : List Nat} {T : List CR} {tx : Nat → List Int32} {pp : List Nat} {hs : List (Nat × List Int32)} {im : ImT}
theorem c_adds {t : Nat} {c : Int32} (ht : t < 4) (hX : MX I tx) (hl : (tx t).length < 16) (hQ : ∀ I', MX I' (va_up tx t (tx t ++ [c])) → Of [] [106, 107] I I' → Q none (hS sw I' J)) : mCl mX9_adds 0 0 0 [.ref 97, .int (nI t), .int c] (hS sw I J) Q := by
  obtain ⟨x1, x2, x3⟩ := hX t ht
  refine mCl.of (by decide) rfl (Nat.le_of_ble_eq_true rfl) ?_
  show mOk _ _ _ _ _ [some (.ref 97), some (.int (nI t)), some (.int c)] _ _ _ _ _
  refine mOk.aload0n dX9_adds_0 rfl ?_
  refine mOk.getR dX9_adds_1 fl_X9_37 (by first | assumption | rfl) (by first | assumption | rfl) ?_
  refine mOk.bipush (x := nI 16) dX9_adds_4 (by decide) ?_
  refine mOk.iload1n dX9_adds_6 rfl ?_
  refine mOk.imul dX9_adds_7 ?_
  refine mOk.top ((pk_mul _ _)) ?_
  refine mOk.aload0n dX9_adds_8 rfl ?_
  refine mOk.getR dX9_adds_9 fl_X9_34 (by first | assumption | rfl) (by first | assumption | rfl) ?_
  refine mOk.iload1n dX9_adds_12 rfl ?_
  refine mOk.ialdv dX9_adds_13 (by first | assumption | rfl) rfl (by omega) (by first | assumption | decide | omega) x2 ?_
  refine mOk.iadd dX9_adds_14 ?_
  refine mOk.top ((nI_add _ _)) ?_
  refine mOk.iload2n dX9_adds_15 rfl ?_
  refine mOk.iastt dX9_adds_16 (by first | assumption | rfl) rfl (by omega) (by first | assumption | decide | omega) ?_
  have e106 : wI I 107 (16 * t + (tx t).length) c 106 t = nI (tx t).length := by rw [wI_c (by decide)]; exact x2
  refine mOk.aload0n dX9_adds_17 rfl ?_
  refine mOk.getR dX9_adds_18 fl_X9_34 (by first | assumption | rfl) (by first | assumption | rfl) ?_
  refine mOk.iload1n dX9_adds_21 rfl ?_
  refine mOk.dup2 dX9_adds_22 rfl rfl ?_
  refine mOk.ialdv dX9_adds_23 (by first | assumption | rfl) rfl (by omega) (by first | assumption | decide | omega) e106 ?_
  refine mOk.iconst (x := nI 1) dX9_adds_24 (by decide) ?_
  refine mOk.iadd dX9_adds_25 ?_
  refine mOk.top ((nI_add _ _)) ?_
  refine mOk.iastt dX9_adds_26 (by first | assumption | rfl) rfl (by omega) (by first | assumption | decide | omega) ?_
  refine mOk.vret dX9_adds_27 rfl (by decide) ?_
  refine hQ _ (fun u hu => ?_) ((Of.a (by decide) (by decide)).tr (Of.a (by decide) (by decide)))
  by_cases e : u = t
  · subst e
    rw [va_up_s]
    refine ⟨by simp; omega, by rw [wI_s]; simp, fun k d hk => ?_⟩
    have hkl := (List.getElem?_eq_some_iff.mp hk).1
    simp at hkl
    rw [wI_c (by decide)]
    rcases Nat.lt_or_ge k (tx u).length with z | z
    · rw [List.getElem?_append_left z] at hk
      rw [wI_j (by omega)]
      exact x3 k d hk
    · rw [show k = (tx u).length by omega] at hk ⊢
      rw [wI_s]
      simpa using hk
  · rw [va_up_n e]
    obtain ⟨y1, y2, y3⟩ := hX u hu
    refine ⟨y1, by rw [wI_j (by omega), wI_c (by decide)]; exact y2, fun k d hk => ?_⟩
    have hkl := (List.getElem?_eq_some_iff.mp hk).1
    rw [wI_c (by decide), wI_j (by omega)]
    exact y3 k d hk
theorem M_puts_tout {t c : Int32} (ht : t < 0 ∨ nI 4 ≤ t) (hQ : Q (some (.int (-1))) (hS sw I J)) : mCl mX9_puts 2 0 0 [.ref 97, .int t, .int c] (hS sw I J) Q := by
  refine mCl.of (by decide) rfl (Nat.le_of_ble_eq_true rfl) ?_
  show mOk _ _ _ _ _ [some (.ref 97), some (.int t), some (.int c)] _ _ _ _ _
  refine mOk.iload1n dX9_puts_0 rfl ?_
  refine mOk.callS1 (M' := mX9_isText) dX9_puts_1 ml_X9_147 ke_X9_isText rfl (by decide) (by decide) (by simp [Value.category]) (c_isText_n ht ?_)
  refine mOk.ifeq (tgt := 15) dX9_puts_4 (by decide) (fun c4 => ?_) (fun c4 => absurd (rfl) c4)
  refine mOk.iconst (x := -1) dX9_puts_15 (by decide) ?_
  refine mOk.iret dX9_puts_16 rfl hQ
theorem M_puts_cout {t : Nat} {c : Int32} (h : Md I T) (ht : t < 4) (hc : c < 0 ∨ nI T.length ≤ c) (hQ : Q (some (.int (-1))) (hS sw I J)) : mCl mX9_puts 2 0 0 [.ref 97, .int (nI t), .int c] (hS sw I J) Q := by
  refine mCl.of (by decide) rfl (Nat.le_of_ble_eq_true rfl) ?_
  show mOk _ _ _ _ _ [some (.ref 97), some (.int (nI t)), some (.int c)] _ _ _ _ _
  refine mOk.iload1n dX9_puts_0 rfl ?_
  refine mOk.callS1 (M' := mX9_isText) dX9_puts_1 ml_X9_147 ke_X9_isText rfl (by decide) (by decide) (by simp [Value.category]) (c_isText_y ht ?_)
  refine mOk.ifeq (tgt := 15) dX9_puts_4 (by decide) (fun c4 => absurd c4 ((by decide))) (fun c4 => ?_)
  refine mOk.aload0n dX9_puts_7 rfl ?_
  refine mOk.iload2n dX9_puts_8 rfl ?_
  refine mOk.callV1 (M' := mX9_isCode) dX9_puts_9 ml_X9_74 ke_X9_isCode (by first | assumption | rfl) (by decide) (by decide) (by simp [Value.category]) (c_isCode_n h hc ?_)
  refine mOk.ifne (tgt := 17) dX9_puts_12 (by decide) (fun c12 => absurd (rfl) c12) (fun c12 => ?_)
  refine mOk.iconst (x := -1) dX9_puts_15 (by decide) ?_
  refine mOk.iret dX9_puts_16 rfl hQ
theorem M_puts_full {t j : Nat} (h : InvM I bs T tx pp hs im) (ht : t < 4) (hj : j < T.length) (hf : (tx t).length = 16) (hQ : Q (some (.int (-3))) (hS sw I J)) : mCl mX9_puts 2 0 0 [.ref 97, .int (nI t), .int (nI j)] (hS sw I J) Q := by
  obtain ⟨h1, h2, h3, h4, h5, h6⟩ := h
  refine mCl.of (by decide) rfl (Nat.le_of_ble_eq_true rfl) ?_
  show mOk _ _ _ _ _ [some (.ref 97), some (.int (nI t)), some (.int (nI j))] _ _ _ _ _
  refine mOk.iload1n dX9_puts_0 rfl ?_
  refine mOk.callS1 (M' := mX9_isText) dX9_puts_1 ml_X9_147 ke_X9_isText rfl (by decide) (by decide) (by simp [Value.category]) (c_isText_y ht ?_)
  refine mOk.ifeq (tgt := 15) dX9_puts_4 (by decide) (fun c4 => absurd c4 ((by decide))) (fun c4 => ?_)
  refine mOk.aload0n dX9_puts_7 rfl ?_
  refine mOk.iload2n dX9_puts_8 rfl ?_
  refine mOk.callV1 (M' := mX9_isCode) dX9_puts_9 ml_X9_74 ke_X9_isCode (by first | assumption | rfl) (by decide) (by decide) (by simp [Value.category]) (c_isCode_y h1 hj ?_)
  refine mOk.ifne (tgt := 17) dX9_puts_12 (by decide) (fun c12 => ?_) (fun c12 => absurd c12 ((by decide)))
  refine mOk.aload0n dX9_puts_17 rfl ?_
  refine mOk.getR dX9_puts_18 fl_X9_34 (by first | assumption | rfl) (by first | assumption | rfl) ?_
  refine mOk.iload1n dX9_puts_21 rfl ?_
  refine mOk.ialdv dX9_puts_22 (by first | assumption | rfl) rfl (by omega) (by first | assumption | decide | omega) (h3 t ht).2.1 ?_
  refine mOk.bipush (x := nI 16) dX9_puts_23 (by decide) ?_
  refine mOk.icne (tgt := 31) dX9_puts_25 (by decide) (fun c25 => absurd ((by rw [hf])) c25) (fun c25 => ?_)
  refine mOk.bipush (x := -3) dX9_puts_28 (by decide) ?_
  refine mOk.iret dX9_puts_30 rfl hQ
abbrev FN : List Nat := [17]
abbrev SN : List Nat := [106, 107, 109]
theorem M_puts_in {t j : Nat} (h : InvM I bs T tx pp hs im) (ht : t < 4) (hj : j < T.length) (hf : (tx t).length < 16) (hQ : ∀ I', InvM I' bs T (va_up tx t (tx t ++ [nI j])) pp (((t, tx t) :: hs).take 10) im → Of FN SN I I' → Q (some (.int (nI ((tx t).length + 1)))) (hS sw I' J)) : mCl mX9_puts 2 0 0 [.ref 97, .int (nI t), .int (nI j)] (hS sw I J) Q := by
  obtain ⟨h1, h2, h3, h4, h5, h6⟩ := h
  refine mCl.of (by decide) rfl (Nat.le_of_ble_eq_true rfl) ?_
  show mOk _ _ _ _ _ [some (.ref 97), some (.int (nI t)), some (.int (nI j))] _ _ _ _ _
  refine mOk.iload1n dX9_puts_0 rfl ?_
  refine mOk.callS1 (M' := mX9_isText) dX9_puts_1 ml_X9_147 ke_X9_isText rfl (by decide) (by decide) (by simp [Value.category]) (c_isText_y ht ?_)
  refine mOk.ifeq (tgt := 15) dX9_puts_4 (by decide) (fun c4 => absurd c4 ((by decide))) (fun c4 => ?_)
  refine mOk.aload0n dX9_puts_7 rfl ?_
  refine mOk.iload2n dX9_puts_8 rfl ?_
  refine mOk.callV1 (M' := mX9_isCode) dX9_puts_9 ml_X9_74 ke_X9_isCode (by first | assumption | rfl) (by decide) (by decide) (by simp [Value.category]) (c_isCode_y h1 hj ?_)
  refine mOk.ifne (tgt := 17) dX9_puts_12 (by decide) (fun c12 => ?_) (fun c12 => absurd c12 ((by decide)))
  refine mOk.aload0n dX9_puts_17 rfl ?_
  refine mOk.getR dX9_puts_18 fl_X9_34 (by first | assumption | rfl) (by first | assumption | rfl) ?_
  refine mOk.iload1n dX9_puts_21 rfl ?_
  refine mOk.ialdv dX9_puts_22 (by first | assumption | rfl) rfl (by omega) (by first | assumption | decide | omega) (h3 t ht).2.1 ?_
  refine mOk.bipush (x := nI 16) dX9_puts_23 (by decide) ?_
  refine mOk.icne (tgt := 31) dX9_puts_25 (by decide) (fun c25 => ?_) (fun c25 => absurd c25 (mt (nI_eq' (by omega) (by omega)).mp (by omega)))
  refine mOk.aload0n dX9_puts_31 rfl ?_
  refine mOk.iload1n dX9_puts_32 rfl ?_
  refine mOk.callV1 (M' := mX9_notes) dX9_puts_33 ml_X9_150 ke_X9_notes (by first | assumption | rfl) (by decide) (by decide) (by simp [Value.category]) (c_notes ht h3 h5 ?_)
  intro I1 hH1 ho1
  refine mOk.aload0n dX9_puts_36 rfl ?_
  refine mOk.iload1n dX9_puts_37 rfl ?_
  refine mOk.iload2n dX9_puts_38 rfl ?_
  refine mOk.callV2 (M' := mX9_adds) dX9_puts_39 ml_X9_154 ke_X9_adds (by first | assumption | rfl) (by decide) (by decide) (by simp [Value.category]) (c_adds ht (h3.of ho1 (by decide) (by decide)) hf ?_)
  intro I2 hX2 ho2
  have e := (hX2 t ht).2.1
  rw [va_up_s, List.length_append] at e
  refine mOk.aload0n dX9_puts_42 rfl ?_
  refine mOk.getR dX9_puts_43 fl_X9_34 (by first | assumption | rfl) (by first | assumption | rfl) ?_
  refine mOk.iload1n dX9_puts_46 rfl ?_
  refine mOk.ialdv dX9_puts_47 (by first | assumption | rfl) rfl (by omega) (by first | assumption | decide | omega) e ?_
  refine mOk.iret dX9_puts_48 rfl ?_
  have o : Of FN SN I I2 := (ho1.up (by decide) (by decide)).tr (ho2.up (by decide) (by decide))
  exact hQ I2 ⟨h1.of o (by decide) (by decide), h2.of o (by decide) (by decide), hX2, h4.of o (by decide) (by decide), hH1.of ho2 (by decide) (by decide), h6.of o (by decide)⟩ o
theorem M_cuts_out {t : Int32} (ht : t < 0 ∨ nI 4 ≤ t) (hQ : Q (some (.int (-1))) (hS sw I J)) : mCl mX9_cuts 2 0 0 [.ref 97, .int t] (hS sw I J) Q := by
  refine mCl.of (by decide) rfl (Nat.le_of_ble_eq_true rfl) ?_
  show mOk _ _ _ _ _ [some (.ref 97), some (.int t)] _ _ _ _ _
  refine mOk.iload1n dX9_cuts_0 rfl ?_
  refine mOk.callS1 (M' := mX9_isText) dX9_cuts_1 ml_X9_147 ke_X9_isText rfl (by decide) (by decide) (by simp [Value.category]) (c_isText_n ht ?_)
  refine mOk.ifne (tgt := 9) dX9_cuts_4 (by decide) (fun c4 => absurd (rfl) c4) (fun c4 => ?_)
  refine mOk.iconst (x := -1) dX9_cuts_7 (by decide) ?_
  refine mOk.iret dX9_cuts_8 rfl hQ
theorem M_cuts_empty {t : Nat} (h : InvM I bs T tx pp hs im) (ht : t < 4) (hf : (tx t).length = 0) (hQ : Q (some (.int (-2))) (hS sw I J)) : mCl mX9_cuts 2 0 0 [.ref 97, .int (nI t)] (hS sw I J) Q := by
  obtain ⟨h1, h2, h3, h4, h5, h6⟩ := h
  refine mCl.of (by decide) rfl (Nat.le_of_ble_eq_true rfl) ?_
  show mOk _ _ _ _ _ [some (.ref 97), some (.int (nI t))] _ _ _ _ _
  refine mOk.iload1n dX9_cuts_0 rfl ?_
  refine mOk.callS1 (M' := mX9_isText) dX9_cuts_1 ml_X9_147 ke_X9_isText rfl (by decide) (by decide) (by simp [Value.category]) (c_isText_y ht ?_)
  refine mOk.ifne (tgt := 9) dX9_cuts_4 (by decide) (fun c4 => ?_) (fun c4 => absurd c4 ((by decide)))
  refine mOk.aload0n dX9_cuts_9 rfl ?_
  refine mOk.getR dX9_cuts_10 fl_X9_34 (by first | assumption | rfl) (by first | assumption | rfl) ?_
  refine mOk.iload1n dX9_cuts_13 rfl ?_
  refine mOk.ialdv dX9_cuts_14 (by first | assumption | rfl) rfl (by omega) (by first | assumption | decide | omega) (h3 t ht).2.1 ?_
  refine mOk.ifne (tgt := 21) dX9_cuts_15 (by decide) (fun c15 => absurd ((by rw [hf]; rfl)) c15) (fun c15 => ?_)
  refine mOk.bipush (x := -2) dX9_cuts_18 (by decide) ?_
  refine mOk.iret dX9_cuts_20 rfl hQ
theorem M_cuts_in {t : Nat} (h : InvM I bs T tx pp hs im) (ht : t < 4) (hf : 0 < (tx t).length) (hQ : ∀ I', InvM I' bs T (va_up tx t ((tx t).take ((tx t).length - 1))) pp (((t, tx t) :: hs).take 10) im → Of FN SN I I' → Q (some (.int ((tx t).getD ((tx t).length - 1) (-9)))) (hS sw I' J)) : mCl mX9_cuts 2 0 0 [.ref 97, .int (nI t)] (hS sw I J) Q := by
  obtain ⟨h1, h2, h3, h4, h5, h6⟩ := h
  obtain ⟨x1, x2, x3⟩ := h3 t ht
  refine mCl.of (by decide) rfl (Nat.le_of_ble_eq_true rfl) ?_
  show mOk _ _ _ _ _ [some (.ref 97), some (.int (nI t))] _ _ _ _ _
  refine mOk.iload1n dX9_cuts_0 rfl ?_
  refine mOk.callS1 (M' := mX9_isText) dX9_cuts_1 ml_X9_147 ke_X9_isText rfl (by decide) (by decide) (by simp [Value.category]) (c_isText_y ht ?_)
  refine mOk.ifne (tgt := 9) dX9_cuts_4 (by decide) (fun c4 => ?_) (fun c4 => absurd c4 ((by decide)))
  refine mOk.aload0n dX9_cuts_9 rfl ?_
  refine mOk.getR dX9_cuts_10 fl_X9_34 (by first | assumption | rfl) (by first | assumption | rfl) ?_
  refine mOk.iload1n dX9_cuts_13 rfl ?_
  refine mOk.ialdv dX9_cuts_14 (by first | assumption | rfl) rfl (by omega) (by first | assumption | decide | omega) x2 ?_
  refine mOk.ifne (tgt := 21) dX9_cuts_15 (by decide) (fun c15 => ?_) (fun c15 => absurd c15 (fun z => by have := (nI_eq' (b := 0) (by omega) (by omega)).mp z; omega))
  refine mOk.aload0n dX9_cuts_21 rfl ?_
  refine mOk.iload1n dX9_cuts_22 rfl ?_
  refine mOk.callV1 (M' := mX9_notes) dX9_cuts_23 ml_X9_150 ke_X9_notes (by first | assumption | rfl) (by decide) (by decide) (by simp [Value.category]) (c_notes ht h3 h5 ?_)
  intro I1 hH1 ho1
  have h31 := h3.of ho1 (by decide) (by decide)
  refine mOk.aload0n dX9_cuts_26 rfl ?_
  refine mOk.getR dX9_cuts_27 fl_X9_34 (by first | assumption | rfl) (by first | assumption | rfl) ?_
  refine mOk.iload1n dX9_cuts_30 rfl ?_
  refine mOk.dup2 dX9_cuts_31 rfl rfl ?_
  refine mOk.ialdv dX9_cuts_32 (by first | assumption | rfl) rfl (by omega) (by first | assumption | decide | omega) (h31 t ht).2.1 ?_
  refine mOk.iconst (x := nI 1) dX9_cuts_33 (by decide) ?_
  refine mOk.isub dX9_cuts_34 ?_
  refine mOk.top ((pk_sub (by omega))) ?_
  refine mOk.iastt dX9_cuts_35 (by first | assumption | rfl) rfl (by omega) (by first | assumption | decide | omega) ?_
  have e107 : wI I1 106 t (nI ((tx t).length - 1)) 107 (16 * t + ((tx t).length - 1)) = (tx t).getD ((tx t).length - 1) (-9) := by
    rw [wI_c (by decide)]
    exact (h31 t ht).2.2 _ _ (getD_at (by omega) _)
  refine mOk.aload0n dX9_cuts_36 rfl ?_
  refine mOk.getR dX9_cuts_37 fl_X9_37 (by first | assumption | rfl) (by first | assumption | rfl) ?_
  refine mOk.bipush (x := nI 16) dX9_cuts_40 (by decide) ?_
  refine mOk.iload1n dX9_cuts_42 rfl ?_
  refine mOk.imul dX9_cuts_43 ?_
  refine mOk.top ((pk_mul _ _)) ?_
  refine mOk.aload0n dX9_cuts_44 rfl ?_
  refine mOk.getR dX9_cuts_45 fl_X9_34 (by first | assumption | rfl) (by first | assumption | rfl) ?_
  refine mOk.iload1n dX9_cuts_48 rfl ?_
  refine mOk.ialdv dX9_cuts_49 (by first | assumption | rfl) rfl (by omega) (by first | assumption | decide | omega) (wI_s I1 106 t (nI ((tx t).length - 1))) ?_
  refine mOk.iadd dX9_cuts_50 ?_
  refine mOk.top ((nI_add _ _)) ?_
  refine mOk.ialdv dX9_cuts_51 (by first | assumption | rfl) rfl (by omega) (by first | assumption | decide | omega) e107 ?_
  refine mOk.iret dX9_cuts_52 rfl ?_
  have o2 : Of [] [106] I1 (wI I1 106 t (nI ((tx t).length - 1))) := Of.a (by decide) (by decide)
  have o : Of FN SN I (wI I1 106 t (nI ((tx t).length - 1))) := (ho1.up (by decide) (by decide)).tr (o2.up (by decide) (by decide))
  refine hQ _ ⟨h1.of o (by decide) (by decide), h2.of o (by decide) (by decide), fun u hu => ?_, h4.of o (by decide) (by decide), hH1.of o2 (by decide) (by decide), h6.of o (by decide)⟩ o
  by_cases e : u = t
  · subst e
    rw [va_up_s]
    refine ⟨by rw [List.length_take]; omega, by rw [wI_s, List.length_take, Nat.min_eq_left (by omega)], fun k d hk => ?_⟩
    have hkl := (List.getElem?_eq_some_iff.mp hk).1
    rw [List.length_take] at hkl
    rw [List.getElem?_take_of_lt (by omega)] at hk
    rw [wI_c (by decide)]
    exact (h31 u hu).2.2 k d hk
  · rw [va_up_n e]
    obtain ⟨y1, y2, y3⟩ := h31 u hu
    exact ⟨y1, by rw [wI_j (by omega)]; exact y2, by rw [wI_c (by decide)]; exact y3⟩
theorem M_appends_tout {t u : Int32} (ht : t < 0 ∨ nI 4 ≤ t) (hQ : Q (some (.int (-1))) (hS sw I J)) : mCl mX9_appends 2 0 0 [.ref 97, .int t, .int u] (hS sw I J) Q := by
  refine mCl.of (by decide) rfl (Nat.le_of_ble_eq_true rfl) ?_
  show mOk _ _ _ _ _ [some (.ref 97), some (.int t), some (.int u), none, none] _ _ _ _ _
  refine mOk.iload1n dX9_appends_0 rfl ?_
  refine mOk.callS1 (M' := mX9_isText) dX9_appends_1 ml_X9_147 ke_X9_isText rfl (by decide) (by decide) (by simp [Value.category]) (c_isText_n ht ?_)
  refine mOk.ifeq (tgt := 14) dX9_appends_4 (by decide) (fun c4 => ?_) (fun c4 => absurd (rfl) c4)
  refine mOk.iconst (x := -1) dX9_appends_14 (by decide) ?_
  refine mOk.iret dX9_appends_15 rfl hQ
theorem M_appends_uout {t : Nat} {u : Int32} (ht : t < 4) (hu : u < 0 ∨ nI 4 ≤ u) (hQ : Q (some (.int (-1))) (hS sw I J)) : mCl mX9_appends 2 0 0 [.ref 97, .int (nI t), .int u] (hS sw I J) Q := by
  refine mCl.of (by decide) rfl (Nat.le_of_ble_eq_true rfl) ?_
  show mOk _ _ _ _ _ [some (.ref 97), some (.int (nI t)), some (.int u), none, none] _ _ _ _ _
  refine mOk.iload1n dX9_appends_0 rfl ?_
  refine mOk.callS1 (M' := mX9_isText) dX9_appends_1 ml_X9_147 ke_X9_isText rfl (by decide) (by decide) (by simp [Value.category]) (c_isText_y ht ?_)
  refine mOk.ifeq (tgt := 14) dX9_appends_4 (by decide) (fun c4 => absurd c4 ((by decide))) (fun c4 => ?_)
  refine mOk.iload2n dX9_appends_7 rfl ?_
  refine mOk.callS1 (M' := mX9_isText) dX9_appends_8 ml_X9_147 ke_X9_isText rfl (by decide) (by decide) (by simp [Value.category]) (c_isText_n hu ?_)
  refine mOk.ifne (tgt := 16) dX9_appends_11 (by decide) (fun c11 => absurd (rfl) c11) (fun c11 => ?_)
  refine mOk.iconst (x := -1) dX9_appends_14 (by decide) ?_
  refine mOk.iret dX9_appends_15 rfl hQ
theorem M_appends_full {t u : Nat} (h : InvM I bs T tx pp hs im) (ht : t < 4) (hu : u < 4) (hf : 16 < (tx t).length + (tx u).length) (hQ : Q (some (.int (-3))) (hS sw I J)) : mCl mX9_appends 2 0 0 [.ref 97, .int (nI t), .int (nI u)] (hS sw I J) Q := by
  obtain ⟨h1, h2, h3, h4, h5, h6⟩ := h
  obtain ⟨x1, x2, x3⟩ := h3 t ht
  obtain ⟨y1, y2, y3⟩ := h3 u hu
  refine mCl.of (by decide) rfl (Nat.le_of_ble_eq_true rfl) ?_
  show mOk _ _ _ _ _ [some (.ref 97), some (.int (nI t)), some (.int (nI u)), none, none] _ _ _ _ _
  refine mOk.iload1n dX9_appends_0 rfl ?_
  refine mOk.callS1 (M' := mX9_isText) dX9_appends_1 ml_X9_147 ke_X9_isText rfl (by decide) (by decide) (by simp [Value.category]) (c_isText_y ht ?_)
  refine mOk.ifeq (tgt := 14) dX9_appends_4 (by decide) (fun c4 => absurd c4 ((by decide))) (fun c4 => ?_)
  refine mOk.iload2n dX9_appends_7 rfl ?_
  refine mOk.callS1 (M' := mX9_isText) dX9_appends_8 ml_X9_147 ke_X9_isText rfl (by decide) (by decide) (by simp [Value.category]) (c_isText_y hu ?_)
  refine mOk.ifne (tgt := 16) dX9_appends_11 (by decide) (fun c11 => ?_) (fun c11 => absurd c11 ((by decide)))
  refine mOk.aload0n dX9_appends_16 rfl ?_
  refine mOk.getR dX9_appends_17 fl_X9_34 (by first | assumption | rfl) (by first | assumption | rfl) ?_
  refine mOk.iload2n dX9_appends_20 rfl ?_
  refine mOk.ialdv dX9_appends_21 (by first | assumption | rfl) rfl (by omega) (by first | assumption | decide | omega) y2 ?_
  refine mOk.istore3n dX9_appends_22 rfl (by decide) rfl ?_
  refine mOk.aload0n dX9_appends_23 rfl ?_
  refine mOk.getR dX9_appends_24 fl_X9_34 (by first | assumption | rfl) (by first | assumption | rfl) ?_
  refine mOk.iload1n dX9_appends_27 rfl ?_
  refine mOk.ialdv dX9_appends_28 (by first | assumption | rfl) rfl (by omega) (by first | assumption | decide | omega) x2 ?_
  refine mOk.iload3n dX9_appends_29 rfl ?_
  refine mOk.iadd dX9_appends_30 ?_
  refine mOk.top ((nI_add _ _)) ?_
  refine mOk.bipush (x := nI 16) dX9_appends_31 (by decide) ?_
  refine mOk.icle (tgt := 39) dX9_appends_33 (by decide) (fun c33 => absurd c33 (mt (nI_le' (by omega) (by omega)).mp (by omega))) (fun c33 => ?_)
  refine mOk.bipush (x := -3) dX9_appends_36 (by decide) ?_
  refine mOk.iret dX9_appends_38 rfl hQ
theorem l_mappends {I0 : Nat → Nat → Int32} {t u : Nat} (ht : t < 4) (hu : u < 4) (hf : (tx t).length + (tx u).length ≤ 16) (hQ : ∀ I', MX I' (va_up tx t (tx t ++ tx u)) → Of [] [106, 107] I0 I' → Q (some (.int (nI ((tx t).length + (tx u).length)))) (hS sw I' J)) :
    ∀ (m k : Nat) (I : Nat → Nat → Int32), k + m = (tx u).length → MX I (va_up tx t (tx t ++ (tx u).take k)) → Of [] [106, 107] I0 I → mOk mX9_appends 2 0 0 47 [some (.ref 97), some (.int (nI t)), some (.int (nI u)), some (.int (nI (tx u).length)), some (.int (nI k))] [] (hS sw I J) 0 0 Q := by
  intro m
  induction m with
  | zero =>
    intro k I hk hX ho
    rw [List.take_of_length_le (by omega)] at hX
    have e := (hX t ht).2.1
    rw [va_up_s, List.length_append] at e
    refine mOk.iload4 dX9_appends_47 ?_
    refine mOk.iload3n dX9_appends_49 rfl ?_
    refine mOk.icge (tgt := 76) dX9_appends_50 (by decide) (fun c50 => ?_) (fun c50 => absurd ((nI_le' (by omega) (by omega)).mpr (by omega)) c50)
    refine mOk.aload0n dX9_appends_76 rfl ?_
    refine mOk.getR dX9_appends_77 fl_X9_34 (by first | assumption | rfl) (by first | assumption | rfl) ?_
    refine mOk.iload1n dX9_appends_80 rfl ?_
    refine mOk.ialdv dX9_appends_81 (by first | assumption | rfl) rfl (by omega) (by first | assumption | decide | omega) e ?_
    refine mOk.iret dX9_appends_82 rfl ?_
    exact hQ I hX ho
  | succ m ih =>
    intro k I hk hX ho
    have hkl : k < (tx u).length := by omega
    have e107 : I 107 (16 * u + k) = (tx u).getD k (-9) := by
      refine (hX u hu).2.2 k _ ?_
      by_cases e : u = t
      · subst e
        rw [va_up_s, List.getElem?_append_left hkl]
        exact getD_at hkl _
      · rw [va_up_n e]
        exact getD_at hkl _
    refine mOk.iload4 dX9_appends_47 ?_
    refine mOk.iload3n dX9_appends_49 rfl ?_
    refine mOk.icge (tgt := 76) dX9_appends_50 (by decide) (fun c50 => absurd c50 (mt (nI_le' (by omega) (by omega)).mp (by omega))) (fun c50 => ?_)
    refine mOk.aload0n dX9_appends_53 rfl ?_
    refine mOk.iload1n dX9_appends_54 rfl ?_
    refine mOk.aload0n dX9_appends_55 rfl ?_
    refine mOk.getR dX9_appends_56 fl_X9_37 (by first | assumption | rfl) (by first | assumption | rfl) ?_
    refine mOk.bipush (x := nI 16) dX9_appends_59 (by decide) ?_
    refine mOk.iload2n dX9_appends_61 rfl ?_
    refine mOk.imul dX9_appends_62 ?_
    refine mOk.top ((pk_mul _ _)) ?_
    refine mOk.iload4 dX9_appends_63 ?_
    refine mOk.iadd dX9_appends_65 ?_
    refine mOk.top ((nI_add _ _)) ?_
    refine mOk.ialdv dX9_appends_66 (by first | assumption | rfl) rfl (by omega) (by first | assumption | decide | omega) e107 ?_
    refine mOk.callV2 (M' := mX9_adds) dX9_appends_67 ml_X9_154 ke_X9_adds (by first | assumption | rfl) (by decide) (by decide) (by simp [Value.category]) (c_adds ht hX (by rw [va_up_s, List.length_append, List.length_take]; omega) ?_)
    intro I1 hX1 ho1
    refine mOk.iinc4 dX9_appends_70 (mOk.inc1 rfl) (by decide) rfl ?_
    refine mOk.goto (tgt := 47) dX9_appends_73 (by decide) ?_
    refine ih (k + 1) I1 (by omega) ?_ (ho.tr ho1)
    rw [take_s hkl, ← List.append_assoc]
    have e : va_up (va_up tx t (tx t ++ (tx u).take k)) t (va_up tx t (tx t ++ (tx u).take k) t ++ [(tx u).getD k (-9)]) = va_up tx t (tx t ++ (tx u).take k ++ [(tx u).getD k (-9)]) := by
      funext i
      by_cases z : i = t
      · subst z
        rw [va_up_s, va_up_s, va_up_s]
      · rw [va_up_n z, va_up_n z, va_up_n z]
    rw [e] at hX1
    exact hX1
theorem va_up_id {f : Nat → List Int32} {t : Nat} : va_up f t (f t) = f := by
  funext i
  by_cases z : i = t
  · subst z
    rw [va_up_s]
  · rw [va_up_n z]
theorem M_appends_in {t u : Nat} (h : InvM I bs T tx pp hs im) (ht : t < 4) (hu : u < 4) (hf : (tx t).length + (tx u).length ≤ 16) (hQ : ∀ I', InvM I' bs T (va_up tx t (tx t ++ tx u)) pp (((t, tx t) :: hs).take 10) im → Of FN SN I I' → Q (some (.int (nI ((tx t).length + (tx u).length)))) (hS sw I' J)) : mCl mX9_appends 2 0 0 [.ref 97, .int (nI t), .int (nI u)] (hS sw I J) Q := by
  obtain ⟨h1, h2, h3, h4, h5, h6⟩ := h
  obtain ⟨x1, x2, x3⟩ := h3 t ht
  obtain ⟨y1, y2, y3⟩ := h3 u hu
  refine mCl.of (by decide) rfl (Nat.le_of_ble_eq_true rfl) ?_
  show mOk _ _ _ _ _ [some (.ref 97), some (.int (nI t)), some (.int (nI u)), none, none] _ _ _ _ _
  refine mOk.iload1n dX9_appends_0 rfl ?_
  refine mOk.callS1 (M' := mX9_isText) dX9_appends_1 ml_X9_147 ke_X9_isText rfl (by decide) (by decide) (by simp [Value.category]) (c_isText_y ht ?_)
  refine mOk.ifeq (tgt := 14) dX9_appends_4 (by decide) (fun c4 => absurd c4 ((by decide))) (fun c4 => ?_)
  refine mOk.iload2n dX9_appends_7 rfl ?_
  refine mOk.callS1 (M' := mX9_isText) dX9_appends_8 ml_X9_147 ke_X9_isText rfl (by decide) (by decide) (by simp [Value.category]) (c_isText_y hu ?_)
  refine mOk.ifne (tgt := 16) dX9_appends_11 (by decide) (fun c11 => ?_) (fun c11 => absurd c11 ((by decide)))
  refine mOk.aload0n dX9_appends_16 rfl ?_
  refine mOk.getR dX9_appends_17 fl_X9_34 (by first | assumption | rfl) (by first | assumption | rfl) ?_
  refine mOk.iload2n dX9_appends_20 rfl ?_
  refine mOk.ialdv dX9_appends_21 (by first | assumption | rfl) rfl (by omega) (by first | assumption | decide | omega) y2 ?_
  refine mOk.istore3n dX9_appends_22 rfl (by decide) rfl ?_
  refine mOk.aload0n dX9_appends_23 rfl ?_
  refine mOk.getR dX9_appends_24 fl_X9_34 (by first | assumption | rfl) (by first | assumption | rfl) ?_
  refine mOk.iload1n dX9_appends_27 rfl ?_
  refine mOk.ialdv dX9_appends_28 (by first | assumption | rfl) rfl (by omega) (by first | assumption | decide | omega) x2 ?_
  refine mOk.iload3n dX9_appends_29 rfl ?_
  refine mOk.iadd dX9_appends_30 ?_
  refine mOk.top ((nI_add _ _)) ?_
  refine mOk.bipush (x := nI 16) dX9_appends_31 (by decide) ?_
  refine mOk.icle (tgt := 39) dX9_appends_33 (by decide) (fun c33 => ?_) (fun c33 => absurd ((nI_le' (by omega) (by omega)).mpr (by omega)) c33)
  refine mOk.aload0n dX9_appends_39 rfl ?_
  refine mOk.iload1n dX9_appends_40 rfl ?_
  refine mOk.callV1 (M' := mX9_notes) dX9_appends_41 ml_X9_150 ke_X9_notes (by first | assumption | rfl) (by decide) (by decide) (by simp [Value.category]) (c_notes ht h3 h5 ?_)
  intro I1 hH1 ho1
  refine mOk.iconst (x := nI 0) dX9_appends_44 (by decide) ?_
  refine mOk.istore4 dX9_appends_45 (by decide) rfl ?_
  refine l_mappends (I0 := I1) ht hu hf (fun I2 hX2 ho2 => ?_) (tx u).length 0 I1 (Nat.zero_add _) (by rw [List.take_zero, List.append_nil, va_up_id]; exact h3.of ho1 (by decide) (by decide)) Of.rf
  have o : Of FN SN I I2 := (ho1.up (by decide) (by decide)).tr (ho2.up (by decide) (by decide))
  exact hQ I2 ⟨h1.of o (by decide) (by decide), h2.of o (by decide) (by decide), hX2, h4.of o (by decide) (by decide), hH1.of ho2 (by decide) (by decide), h6.of o (by decide)⟩ o
theorem M_undo_none (h : InvM I bs T tx pp [] im) (hQ : Q (some (.int (-2))) (hS sw I J)) : mCl mX9_undo 0 0 0 [.ref 97] (hS sw I J) Q := by
  obtain ⟨h1, h2, h3, h4, h5, h6⟩ := h
  refine mCl.of (by decide) rfl (Nat.le_of_ble_eq_true rfl) ?_
  show mOk _ _ _ _ _ [some (.ref 97), none, none, none] _ _ _ _ _
  refine mOk.aload0n dX9_undo_0 rfl ?_
  refine mOk.getIv dX9_undo_1 fl_X9_144 (by first | assumption | rfl) h5.2.1 ?_
  refine mOk.ifne (tgt := 10) dX9_undo_4 (by decide) (fun c4 => absurd (rfl) c4) (fun c4 => ?_)
  refine mOk.bipush (x := -2) dX9_undo_7 (by decide) ?_
  refine mOk.iret dX9_undo_9 rfl hQ
theorem l_undo {I0 : Nat → Nat → Int32} {t n at' : Nat} (ht : t < 4) (hat : at' + 18 ≤ 180) (h17 : I0 97 17 = nI n) (hQ : ∀ I', (∀ j, j < 16 → I' 107 (16 * t + j) = I0 109 (at' + 2 + j)) → (∀ j, (j < 16 * t ∨ 16 * t + 16 ≤ j) → I' 107 j = I0 107 j) → Of [] [107] I0 I' → Q (some (.int (nI n))) (hS sw I' J)) :
    ∀ (m k : Nat) (I : Nat → Nat → Int32), k + m = 16 → (∀ j, j < k → I 107 (16 * t + j) = I0 109 (at' + 2 + j)) → (∀ j, (j < 16 * t ∨ 16 * t + 16 ≤ j) → I 107 j = I0 107 j) → Of [] [107] I0 I → mOk mX9_undo 0 0 0 51 [some (.ref 97), some (.int (nI at')), some (.int (nI t)), some (.int (nI k))] [] (hS sw I J) 0 0 Q := by
  intro m
  induction m with
  | zero =>
    intro k I hm h1 h2 ho
    refine mOk.iload3n dX9_undo_51 rfl ?_
    refine mOk.bipush (x := nI 16) dX9_undo_52 (by decide) ?_
    refine mOk.icge (tgt := 84) dX9_undo_54 (by decide) (fun c54 => ?_) (fun c54 => absurd ((nI_le' (by omega) (by omega)).mpr (by omega)) c54)
    refine mOk.aload0n dX9_undo_84 rfl ?_
    refine mOk.getIv dX9_undo_85 fl_X9_144 (by first | assumption | rfl) ((ho.2 17 (by decide)).trans h17) ?_
    refine mOk.iret dX9_undo_88 rfl ?_
    exact hQ I (fun j hj => h1 j (by omega)) h2 ho
  | succ m ih =>
    intro k I hm h1 h2 ho
    refine mOk.iload3n dX9_undo_51 rfl ?_
    refine mOk.bipush (x := nI 16) dX9_undo_52 (by decide) ?_
    refine mOk.icge (tgt := 84) dX9_undo_54 (by decide) (fun c54 => absurd c54 (mt (nI_le' (by omega) (by omega)).mp (by omega))) (fun c54 => ?_)
    refine mOk.aload0n dX9_undo_57 rfl ?_
    refine mOk.getR dX9_undo_58 fl_X9_37 (by first | assumption | rfl) (by first | assumption | rfl) ?_
    refine mOk.bipush (x := nI 16) dX9_undo_61 (by decide) ?_
    refine mOk.iload2n dX9_undo_63 rfl ?_
    refine mOk.imul dX9_undo_64 ?_
    refine mOk.top ((pk_mul _ _)) ?_
    refine mOk.iload3n dX9_undo_65 rfl ?_
    refine mOk.iadd dX9_undo_66 ?_
    refine mOk.top ((nI_add _ _)) ?_
    refine mOk.aload0n dX9_undo_67 rfl ?_
    refine mOk.getR dX9_undo_68 fl_X9_43 (by first | assumption | rfl) (by first | assumption | rfl) ?_
    refine mOk.iload1n dX9_undo_71 rfl ?_
    refine mOk.iconst (x := nI 2) dX9_undo_72 (by decide) ?_
    refine mOk.iadd dX9_undo_73 ?_
    refine mOk.top ((nI_add _ _)) ?_
    refine mOk.iload3n dX9_undo_74 rfl ?_
    refine mOk.iadd dX9_undo_75 ?_
    refine mOk.top ((nI_add _ _)) ?_
    refine mOk.ialdv dX9_undo_76 (by first | assumption | rfl) rfl (by omega) (by first | assumption | decide | omega) (congrFun (ho.1 109 (by decide) (by decide)) (at' + 2 + k)) ?_
    refine mOk.iastt dX9_undo_77 (by first | assumption | rfl) rfl (by omega) (by first | assumption | decide | omega) ?_
    refine mOk.iinc3 dX9_undo_78 (mOk.inc1 rfl) (by decide) rfl ?_
    refine mOk.goto (tgt := 51) dX9_undo_81 (by decide) ?_
    refine ih (k + 1) _ (by omega) (fun j hj => ?_) (fun j hj => ?_) (ho.tr (Of.a (by decide) (by decide)))
    · rcases Nat.lt_or_ge j k with z | z
      · rw [wI_j (by omega)]
        exact h1 j z
      · rw [show j = k by omega, wI_s]
    · rw [wI_j (by omega)]
      exact h2 j hj
theorem M_undo_in {q : Nat × List Int32} (h : InvM I bs T tx pp (q :: hs) im) (hq : q.1 < 4) (hQ : ∀ I', InvM I' bs T (va_up tx q.1 q.2) pp hs im → Of FN SN I I' → Q (some (.int (nI hs.length))) (hS sw I' J)) : mCl mX9_undo 0 0 0 [.ref 97] (hS sw I J) Q := by
  obtain ⟨h1, h2, h3, h4, h5, h6⟩ := h
  obtain ⟨g1, g2, g3⟩ := id h5
  obtain ⟨y1, y2, y3, y4⟩ := g3 0 q rfl
  rw [List.length_cons] at g1 g2
  rw [show (q :: hs).length - 1 - 0 = hs.length by simp] at y2 y3 y4
  refine mCl.of (by decide) rfl (Nat.le_of_ble_eq_true rfl) ?_
  show mOk _ _ _ _ _ [some (.ref 97), none, none, none] _ _ _ _ _
  refine mOk.aload0n dX9_undo_0 rfl ?_
  refine mOk.getIv dX9_undo_1 fl_X9_144 (by first | assumption | rfl) g2 ?_
  refine mOk.ifne (tgt := 10) dX9_undo_4 (by decide) (fun c4 => ?_) (fun c4 => absurd c4 (fun z => by have := (nI_eq' (b := 0) (by omega) (by omega)).mp z; omega))
  refine mOk.aload0n dX9_undo_10 rfl ?_
  refine mOk.dup dX9_undo_11 rfl ?_
  refine mOk.getIv dX9_undo_12 fl_X9_144 (by first | assumption | rfl) g2 ?_
  refine mOk.iconst (x := nI 1) dX9_undo_15 (by decide) ?_
  refine mOk.isub dX9_undo_16 ?_
  refine mOk.top ((nI_pred hs.length)) ?_
  refine mOk.putIt dX9_undo_17 fl_X9_144 (by first | assumption | rfl) ?_
  have e109 : ∀ j, wI I 97 17 (nI hs.length) 109 j = I 109 j := fun j => by rw [wI_c (by decide)]
  refine mOk.bipush (x := nI 18) dX9_undo_20 (by decide) ?_
  refine mOk.aload0n dX9_undo_22 rfl ?_
  refine mOk.getIv dX9_undo_23 fl_X9_144 (by first | assumption | rfl) (wI_s I 97 17 (nI hs.length)) ?_
  refine mOk.imul dX9_undo_26 ?_
  refine mOk.top ((pk_mul _ _)) ?_
  refine mOk.istore1n dX9_undo_27 rfl (by decide) rfl ?_
  refine mOk.aload0n dX9_undo_28 rfl ?_
  refine mOk.getR dX9_undo_29 fl_X9_43 (by first | assumption | rfl) (by first | assumption | rfl) ?_
  refine mOk.iload1n dX9_undo_32 rfl ?_
  refine mOk.ialdv dX9_undo_33 (by first | assumption | rfl) rfl (by omega) (by first | assumption | decide | omega) ((e109 _).trans y2) ?_
  refine mOk.istore2n dX9_undo_34 rfl (by decide) rfl ?_
  refine mOk.aload0n dX9_undo_35 rfl ?_
  refine mOk.getR dX9_undo_36 fl_X9_34 (by first | assumption | rfl) (by first | assumption | rfl) ?_
  refine mOk.iload2n dX9_undo_39 rfl ?_
  refine mOk.aload0n dX9_undo_40 rfl ?_
  refine mOk.getR dX9_undo_41 fl_X9_43 (by first | assumption | rfl) (by first | assumption | rfl) ?_
  refine mOk.iload1n dX9_undo_44 rfl ?_
  refine mOk.iconst (x := nI 1) dX9_undo_45 (by decide) ?_
  refine mOk.iadd dX9_undo_46 ?_
  refine mOk.top ((nI_add _ _)) ?_
  refine mOk.ialdv dX9_undo_47 (by first | assumption | rfl) rfl (by omega) (by first | assumption | decide | omega) ((e109 _).trans y3) ?_
  refine mOk.iastt dX9_undo_48 (by first | assumption | rfl) rfl (by omega) (by first | assumption | decide | omega) ?_
  refine mOk.iconst (x := nI 0) dX9_undo_49 (by decide) ?_
  refine mOk.istore3n dX9_undo_50 rfl (by decide) rfl ?_
  generalize hI2 : wI (wI I 97 17 (nI hs.length)) 106 q.1 (nI q.2.length) = I2
  have ho2 : Of [17] [106] I I2 := by rw [← hI2]; exact (Of.f (by decide)).tr (Of.a (by decide) (by decide))
  refine l_undo (I0 := I2) (n := hs.length) hq (by omega) (by rw [← hI2, wI_c (by decide), wI_s]) (fun I3 f1 f2 f3 => ?_) 16 0 I2 rfl (fun j hj => absurd hj (Nat.not_lt_zero j)) (fun j hj => rfl) Of.rf
  have o : Of FN SN I I3 := (ho2.up (by decide) (by decide)).tr (f3.up (by decide) (by decide))
  have o9 : I3 109 = I 109 := by rw [f3.1 109 (by decide) (by decide), ho2.1 109 (by decide) (by decide)]
  refine hQ I3 ⟨h1.of o (by decide) (by decide), h2.of o (by decide) (by decide), fun u hu => ?_, h4.of o (by decide) (by decide), ⟨by omega, ?_, fun k q' hk => ?_⟩, h6.of o (by decide)⟩ o
  · by_cases e : u = q.1
    · subst e
      rw [va_up_s]
      refine ⟨y1, by rw [f3.1 106 (by decide) (by decide), ← hI2, wI_s], fun k c hk => ?_⟩
      have hkl := (List.getElem?_eq_some_iff.mp hk).1
      rw [f1 k (by omega), ho2.1 109 (by decide) (by decide)]
      exact y4 k c hk
    · rw [va_up_n e]
      obtain ⟨w1, w2, w3⟩ := h3 u hu
      refine ⟨w1, by rw [f3.1 106 (by decide) (by decide), ← hI2, wI_j e, wI_c (by decide)]; exact w2, fun k c hk => ?_⟩
      have hkl := (List.getElem?_eq_some_iff.mp hk).1
      rw [f2 _ (by omega), ho2.1 107 (by decide) (by decide)]
      exact w3 k c hk
  · rw [f3.2 17 (by decide), ← hI2, wI_c (by decide), wI_s]
  · rw [o9]
    have hkl := (List.getElem?_eq_some_iff.mp hk).1
    have := g3 (k + 1) q' (by simpa using hk)
    rw [show (q :: hs).length - 1 - (k + 1) = hs.length - 1 - k by simp; omega] at this
    exact this
end MODEL7
