/-! ===== the reference: whether kept, sorted, quick; rules over texts, the pipe ===== -/
section MODEL12
variable {sw : Bool} {I : Nat → Nat → Int32} {J : Nat → Nat → Int64} {Q : Option Value → mi_H → Prop} {xs ys : List Int32} {bs : List Nat} {T : List CR} {tx : Nat → List Int32} {pp : List Nat} {hs : List (Nat × List Int32)} {im : ImT}
theorem ext_getD {xs ys : List Int32} (hl : xs.length = ys.length) (h : ∀ j, j < xs.length → xs.getD j (-9) = ys.getD j (-9)) : xs = ys := by
  refine List.ext_getElem hl (fun j h1 h2 => ?_)
  have := h j h1
  rw [List.getD_eq_getElem?_getD, List.getD_eq_getElem?_getD, List.getElem?_eq_getElem h1, List.getElem?_eq_getElem h2] at this
  exact this
theorem l_isKept (hR : Ro I xs) (hK : Kp I ys) (hQ : Q (some (.int (if xs = ys then 1 else 0))) (hS sw I J)) :
    ∀ (m k : Nat), k + m = xs.length → xs.length = ys.length → (∀ j, j < k → xs.getD j (-9) = ys.getD j (-9)) → mOk mX9_isKept 0 0 0 19 [some (.ref 97), some (.int 1), some (.int (nI k))] [] (hS sw I J) 0 0 Q := by
  have hl := hR.1
  intro m
  induction m with
  | zero =>
    intro k hk hlen hj
    rw [if_pos (ext_getD hlen (fun j hjl => hj j (by omega)))] at hQ
    refine mOk.iload2n dX9_isKept_19 rfl ?_
    refine mOk.aload0n dX9_isKept_20 rfl ?_
    refine mOk.getIv dX9_isKept_21 fl_X9_157 (by first | assumption | rfl) hR.2.1 ?_
    refine mOk.icge (tgt := 58) dX9_isKept_24 (by decide) (fun c24 => ?_) (fun c24 => absurd ((nI_le' (by omega) (by omega)).mpr (by omega)) c24)
    refine mOk.iload1n dX9_isKept_58 rfl ?_
    refine mOk.zret dX9_isKept_59 rfl (by decide) hQ
  | succ m ih =>
    intro k hk hlen hj
    have hkl : k < xs.length := by omega
    refine mOk.iload2n dX9_isKept_19 rfl ?_
    refine mOk.aload0n dX9_isKept_20 rfl ?_
    refine mOk.getIv dX9_isKept_21 fl_X9_157 (by first | assumption | rfl) hR.2.1 ?_
    refine mOk.icge (tgt := 58) dX9_isKept_24 (by decide) (fun c24 => absurd c24 (mt (nI_le' (by omega) (by omega)).mp (by omega))) (fun c24 => ?_)
    refine mOk.iload1n dX9_isKept_27 rfl ?_
    refine mOk.ifeq (tgt := 58) dX9_isKept_28 (by decide) (fun c28 => absurd c28 ((by decide))) (fun c28 => ?_)
    refine mOk.aload0n dX9_isKept_31 rfl ?_
    refine mOk.getR dX9_isKept_32 fl_X9_46 (by first | assumption | rfl) (by first | assumption | rfl) ?_
    refine mOk.iload2n dX9_isKept_35 rfl ?_
    refine mOk.ialdv dX9_isKept_36 (by first | assumption | rfl) rfl (by omega) (by first | assumption | decide | omega) (hR.at hkl) ?_
    refine mOk.aload0n dX9_isKept_37 rfl ?_
    refine mOk.getR dX9_isKept_38 fl_X9_52 (by first | assumption | rfl) (by first | assumption | rfl) ?_
    refine mOk.iload2n dX9_isKept_41 rfl ?_
    refine mOk.ialdv dX9_isKept_42 (by first | assumption | rfl) rfl (by omega) (by first | assumption | decide | omega) (hK.at (by omega)) ?_
    refine mOk.icne (tgt := 50) dX9_isKept_43 (by decide) (fun c43 => ?_) (fun c43 => ?_)
    · rw [if_neg (fun z => c43 (by rw [z]))] at hQ
      refine mOk.iconst (x := 0) dX9_isKept_50 (by decide) ?_
      refine mOk.istore1n dX9_isKept_51 rfl (by decide) rfl ?_
      refine mOk.iinc2 dX9_isKept_52 (mOk.inc1 rfl) (by decide) rfl ?_
      refine mOk.goto (tgt := 19) dX9_isKept_55 (by decide) ?_
      by_cases w : k + 1 < xs.length
      · refine mOk.iload2n dX9_isKept_19 rfl ?_
        refine mOk.aload0n dX9_isKept_20 rfl ?_
        refine mOk.getIv dX9_isKept_21 fl_X9_157 (by first | assumption | rfl) hR.2.1 ?_
        refine mOk.icge (tgt := 58) dX9_isKept_24 (by decide) (fun c24 => absurd c24 (mt (nI_le' (by omega) (by omega)).mp (by omega))) (fun c24 => ?_)
        refine mOk.iload1n dX9_isKept_27 rfl ?_
        refine mOk.ifeq (tgt := 58) dX9_isKept_28 (by decide) (fun c28 => ?_) (fun c28 => absurd (rfl) c28)
        refine mOk.iload1n dX9_isKept_58 rfl ?_
        refine mOk.zret dX9_isKept_59 rfl (by decide) hQ
      · refine mOk.iload2n dX9_isKept_19 rfl ?_
        refine mOk.aload0n dX9_isKept_20 rfl ?_
        refine mOk.getIv dX9_isKept_21 fl_X9_157 (by first | assumption | rfl) hR.2.1 ?_
        refine mOk.icge (tgt := 58) dX9_isKept_24 (by decide) (fun c24 => ?_) (fun c24 => absurd ((nI_le' (by omega) (by omega)).mpr (by omega)) c24)
        refine mOk.iload1n dX9_isKept_58 rfl ?_
        refine mOk.zret dX9_isKept_59 rfl (by decide) hQ
    · refine mOk.iconst (x := 1) dX9_isKept_46 (by decide) ?_
      refine mOk.goto (tgt := 51) dX9_isKept_47 (by decide) ?_
      refine mOk.istore1n dX9_isKept_51 rfl (by decide) rfl ?_
      refine mOk.iinc2 dX9_isKept_52 (mOk.inc1 rfl) (by decide) rfl ?_
      refine mOk.goto (tgt := 19) dX9_isKept_55 (by decide) ?_
      refine ih (k + 1) (by omega) hlen (fun j hjk => ?_)
      rcases Nat.lt_or_ge j k with z | z
      · exact hj j z
      · rw [show j = k by omega]
        exact c43
theorem c_misKept (hR : Ro I xs) (hK : Kp I ys) (hQ : Q (some (.int (if xs = ys then 1 else 0))) (hS sw I J)) : mCl mX9_isKept 0 0 0 [.ref 97] (hS sw I J) Q := by
  have hl := hR.1
  have hl2 := hK.1
  refine mCl.of (by decide) rfl (Nat.le_of_ble_eq_true rfl) ?_
  show mOk _ _ _ _ _ [some (.ref 97), none, none] _ _ _ _ _
  refine mOk.aload0n dX9_isKept_0 rfl ?_
  refine mOk.getIv dX9_isKept_1 fl_X9_157 (by first | assumption | rfl) hR.2.1 ?_
  refine mOk.aload0n dX9_isKept_4 rfl ?_
  refine mOk.getIv dX9_isKept_5 fl_X9_202 (by first | assumption | rfl) hK.2.1 ?_
  refine mOk.icne (tgt := 15) dX9_isKept_8 (by decide) (fun c8 => ?_) (fun c8 => ?_)
  · have hne : ¬ xs.length = ys.length := fun z => c8 (by rw [z])
    rw [if_neg (fun z => hne (by rw [z]))] at hQ
    refine mOk.iconst (x := 0) dX9_isKept_15 (by decide) ?_
    refine mOk.istore1n dX9_isKept_16 rfl (by decide) rfl ?_
    refine mOk.iconst (x := nI 0) dX9_isKept_17 (by decide) ?_
    refine mOk.istore2n dX9_isKept_18 rfl (by decide) rfl ?_
    by_cases w : 0 < xs.length
    · refine mOk.iload2n dX9_isKept_19 rfl ?_
      refine mOk.aload0n dX9_isKept_20 rfl ?_
      refine mOk.getIv dX9_isKept_21 fl_X9_157 (by first | assumption | rfl) hR.2.1 ?_
      refine mOk.icge (tgt := 58) dX9_isKept_24 (by decide) (fun c24 => absurd c24 (mt (nI_le' (by omega) (by omega)).mp (by omega))) (fun c24 => ?_)
      refine mOk.iload1n dX9_isKept_27 rfl ?_
      refine mOk.ifeq (tgt := 58) dX9_isKept_28 (by decide) (fun c28 => ?_) (fun c28 => absurd (rfl) c28)
      refine mOk.iload1n dX9_isKept_58 rfl ?_
      refine mOk.zret dX9_isKept_59 rfl (by decide) hQ
    · refine mOk.iload2n dX9_isKept_19 rfl ?_
      refine mOk.aload0n dX9_isKept_20 rfl ?_
      refine mOk.getIv dX9_isKept_21 fl_X9_157 (by first | assumption | rfl) hR.2.1 ?_
      refine mOk.icge (tgt := 58) dX9_isKept_24 (by decide) (fun c24 => ?_) (fun c24 => absurd ((nI_le' (by omega) (by omega)).mpr (by omega)) c24)
      refine mOk.iload1n dX9_isKept_58 rfl ?_
      refine mOk.zret dX9_isKept_59 rfl (by decide) hQ
  · have hlen := (nI_eq' (by omega) (by omega)).mp c8
    refine mOk.iconst (x := 1) dX9_isKept_11 (by decide) ?_
    refine mOk.goto (tgt := 16) dX9_isKept_12 (by decide) ?_
    refine mOk.istore1n dX9_isKept_16 rfl (by decide) rfl ?_
    refine mOk.iconst (x := nI 0) dX9_isKept_17 (by decide) ?_
    refine mOk.istore2n dX9_isKept_18 rfl (by decide) rfl ?_
    exact l_isKept hR hK hQ xs.length 0 (Nat.zero_add _) hlen (fun j hj => absurd hj (Nat.not_lt_zero j))
theorem c_misSorted (hT : TOk T) (hM : Md I T) (hR : Ro I xs) (hv : okL T xs) (hQ : ∀ I', Of [22] [110, 112] I I' → Q (some (.int (if srtd (tC T) xs = true then 1 else 0))) (hS sw I' J)) : mCl mX9_isSorted 1 0 0 [.ref 97] (hS sw I J) Q := by
  refine mCl.of (by decide) rfl (Nat.le_of_ble_eq_true rfl) ?_
  show mOk _ _ _ _ _ [some (.ref 97)] _ _ _ _ _
  refine mOk.aload0n dX9_isSorted_0 rfl ?_
  refine mOk.callV0 (M' := mX9_keeps) dX9_isSorted_1 ml_X9_205 ke_X9_keeps (by first | assumption | rfl) (by decide) (by decide) (by simp [Value.category]) (c_keeps hR ?_)
  intro I1 hR1 hK1 ho1
  refine mOk.aload0n dX9_isSorted_4 rfl ?_
  refine mOk.callV0 (M' := mX9_sorts) dX9_isSorted_5 ml_X9_175 ke_X9_sorts (by first | assumption | rfl) (by decide) (by decide) (by simp [Value.category]) (c_msort hT (hM.of ho1 (by decide) (by decide)) hR1 hv ?_)
  intro I2 hM2 hR2 ho2
  refine mOk.aload0n dX9_isSorted_8 rfl ?_
  refine mOk.callV0 (M' := mX9_isKept) dX9_isSorted_9 ml_X9_208 ke_X9_isKept (by first | assumption | rfl) (by decide) (by decide) (by simp [Value.category]) (c_misKept hR2 (hK1.of ho2 (by decide) (by decide) (by decide)) ?_)
  have hq := hQ I2 ((ho1.up (by decide) (by decide)).tr (ho2.up (by decide) (by decide)))
  by_cases z : srtd (tC T) xs = true
  · rw [if_pos z] at hq
    rw [if_pos ((srt_iff xs).mpr z)]
    refine mOk.zret dX9_isSorted_12 rfl (by decide) hq
  · rw [if_neg z] at hq
    rw [if_neg (fun w => z ((srt_iff xs).mp w))]
    refine mOk.zret dX9_isSorted_12 rfl (by decide) hq
theorem l_isSecond (hM : Md I T) {b : Int32} (hQ : Q (some (.int (if isSec T b = true then 1 else 0))) (hS sw I J)) :
    ∀ (m i : Nat), i + m = T.length → mOk mX9_isSecond 0 0 0 4 [some (.ref 97), some (.int b), some (.int (if isq T b i = true then 1 else 0)), some (.int (nI i))] [] (hS sw I J) 0 0 Q := by
  have hl := hM.1
  intro m
  induction m with
  | zero =>
    intro i hi
    rw [show i = T.length by omega, isq_end (by omega)]
    refine mOk.iload3n dX9_isSecond_4 rfl ?_
    refine mOk.aload0n dX9_isSecond_5 rfl ?_
    refine mOk.getIv dX9_isSecond_6 fl_X9_62 (by first | assumption | rfl) hM.2.1 ?_
    refine mOk.icge (tgt := 48) dX9_isSecond_9 (by decide) (fun c9 => ?_) (fun c9 => absurd ((nI_le' (by omega) (by omega)).mpr (by omega)) c9)
    by_cases z : isSec T b = true
    · rw [if_pos z] at hQ ⊢
      refine mOk.iload2n dX9_isSecond_48 rfl ?_
      refine mOk.zret dX9_isSecond_49 rfl (by decide) hQ
    · rw [if_neg z] at hQ ⊢
      refine mOk.iload2n dX9_isSecond_48 rfl ?_
      refine mOk.zret dX9_isSecond_49 rfl (by decide) hQ
  | succ m ih =>
    intro i hi
    have hil : i < T.length := by omega
    have hst := isq_s T b i
    have yes : isq T b (i + 1) = true → mOk mX9_isSecond 0 0 0 36 [some (.ref 97), some (.int b), some (.int (if isq T b i = true then 1 else 0)), some (.int (nI i))] [] (hS sw I J) 0 0 Q := by
      intro z
      refine mOk.iconst (x := 1) dX9_isSecond_36 (by decide) ?_
      refine mOk.goto (tgt := 41) dX9_isSecond_37 (by decide) ?_
      refine mOk.istore2n dX9_isSecond_41 rfl (by decide) rfl ?_
      refine mOk.iinc3 dX9_isSecond_42 (mOk.inc1 rfl) (by decide) rfl ?_
      refine mOk.goto (tgt := 4) dX9_isSecond_45 (by decide) ?_
      have := ih (i + 1) (by omega)
      rw [if_pos z] at this
      exact this
    have no : ¬ isq T b (i + 1) = true → mOk mX9_isSecond 0 0 0 40 [some (.ref 97), some (.int b), some (.int (if isq T b i = true then 1 else 0)), some (.int (nI i))] [] (hS sw I J) 0 0 Q := by
      intro z
      refine mOk.iconst (x := 0) dX9_isSecond_40 (by decide) ?_
      refine mOk.istore2n dX9_isSecond_41 rfl (by decide) rfl ?_
      refine mOk.iinc3 dX9_isSecond_42 (mOk.inc1 rfl) (by decide) rfl ?_
      refine mOk.goto (tgt := 4) dX9_isSecond_45 (by decide) ?_
      have := ih (i + 1) (by omega)
      rw [if_neg z] at this
      exact this
    refine mOk.iload3n dX9_isSecond_4 rfl ?_
    refine mOk.aload0n dX9_isSecond_5 rfl ?_
    refine mOk.getIv dX9_isSecond_6 fl_X9_62 (by first | assumption | rfl) hM.2.1 ?_
    refine mOk.icge (tgt := 48) dX9_isSecond_9 (by decide) (fun c9 => absurd c9 (mt (nI_le' (by omega) (by omega)).mp (by omega))) (fun c9 => ?_)
    by_cases z : isq T b i = true
    · refine mOk.iload2n dX9_isSecond_12 rfl ?_
      refine mOk.ifne (tgt := 36) dX9_isSecond_13 (by decide) (fun c13 => ?_) (fun c13 => absurd c13 ((by rw [if_pos z]; decide)))
      exact yes (by rw [hst, z]; rfl)
    · refine mOk.iload2n dX9_isSecond_12 rfl ?_
      refine mOk.ifne (tgt := 36) dX9_isSecond_13 (by decide) (fun c13 => absurd ((if_neg z)) c13) (fun c13 => ?_)
      rw [Bool.not_eq_true] at z
      rw [z, Bool.false_or] at hst
      refine mOk.aload0n dX9_isSecond_16 rfl ?_
      refine mOk.getR dX9_isSecond_17 fl_X9_7 (by first | assumption | rfl) (by first | assumption | rfl) ?_
      refine mOk.iload3n dX9_isSecond_20 rfl ?_
      refine mOk.ialdv dX9_isSecond_21 (by first | assumption | rfl) rfl (by omega) (by first | assumption | decide | omega) (hM.K rfl hil) ?_
      refine mOk.iconst (x := 1) dX9_isSecond_22 (by decide) ?_
      refine mOk.icne (tgt := 40) dX9_isSecond_23 (by decide) (fun c23 => ?_) (fun c23 => ?_)
      · exact no (by rw [hst, decide_eq_false c23]; simp)
      · refine mOk.aload0n dX9_isSecond_26 rfl ?_
        refine mOk.getR dX9_isSecond_27 fl_X9_19 (by first | assumption | rfl) (by first | assumption | rfl) ?_
        refine mOk.iload3n dX9_isSecond_30 rfl ?_
        refine mOk.ialdv dX9_isSecond_31 (by first | assumption | rfl) rfl (by omega) (by first | assumption | decide | omega) (hM.S rfl hil) ?_
        refine mOk.iload1n dX9_isSecond_32 rfl ?_
        refine mOk.icne (tgt := 40) dX9_isSecond_33 (by decide) (fun c33 => ?_) (fun c33 => ?_)
        · exact no (by rw [hst, decide_eq_false c33]; simp)
        · exact yes (by rw [hst, decide_eq_true c23, decide_eq_true c33]; rfl)
theorem c_isSecond (hM : Md I T) {b : Int32} (hQ : Q (some (.int (if isSec T b = true then 1 else 0))) (hS sw I J)) : mCl mX9_isSecond 0 0 0 [.ref 97, .int b] (hS sw I J) Q := by
  refine mCl.of (by decide) rfl (Nat.le_of_ble_eq_true rfl) ?_
  show mOk _ _ _ _ _ [some (.ref 97), some (.int b), none, none] _ _ _ _ _
  refine mOk.iconst (x := 0) dX9_isSecond_0 (by decide) ?_
  refine mOk.istore2n dX9_isSecond_1 rfl (by decide) rfl ?_
  refine mOk.iconst (x := nI 0) dX9_isSecond_2 (by decide) ?_
  refine mOk.istore3n dX9_isSecond_3 rfl (by decide) rfl ?_
  exact l_isSecond hM hQ T.length 0 (Nat.zero_add _)
theorem M_at_out {t i : Int32} (ht : t < 0 ∨ nI 4 ≤ t) (hQ : Q (some (.int (-1))) (hS sw I J)) : mCl mX9_at 2 0 0 [.ref 97, .int t, .int i] (hS sw I J) Q := by
  refine mCl.of (by decide) rfl (Nat.le_of_ble_eq_true rfl) ?_
  show mOk _ _ _ _ _ [some (.ref 97), some (.int t), some (.int i)] _ _ _ _ _
  refine mOk.iload1n dX9_at_0 rfl ?_
  refine mOk.callS1 (M' := mX9_isText) dX9_at_1 ml_X9_147 ke_X9_isText rfl (by decide) (by decide) (by simp [Value.category]) (c_isText_n ht ?_)
  refine mOk.ifne (tgt := 9) dX9_at_4 (by decide) (fun c4 => absurd (rfl) c4) (fun c4 => ?_)
  refine mOk.iconst (x := -1) dX9_at_7 (by decide) ?_
  refine mOk.iret dX9_at_8 rfl hQ
abbrev FW : List Nat := [18, 20, 22]
abbrev SW : List Nat := [110, 111, 112]
theorem InvM.w {I' : Nat → Nat → Int32} (h : InvM I bs T tx pp hs im) (ho : Of FW SW I I') : InvM I' bs T tx pp hs im := h.of ho (by decide) (by decide)
theorem M_at_in {t : Nat} {i : Int32} (h : InvM I bs T tx pp hs im) (ht : t < 4) (hQ : ∀ I', InvM I' bs T tx pp hs im → Of FW SW I I' → Q (some (.int (lk (tx t) i))) (hS sw I' J)) : mCl mX9_at 2 0 0 [.ref 97, .int (nI t), .int i] (hS sw I J) Q := by
  refine mCl.of (by decide) rfl (Nat.le_of_ble_eq_true rfl) ?_
  show mOk _ _ _ _ _ [some (.ref 97), some (.int (nI t)), some (.int i)] _ _ _ _ _
  refine mOk.iload1n dX9_at_0 rfl ?_
  refine mOk.callS1 (M' := mX9_isText) dX9_at_1 ml_X9_147 ke_X9_isText rfl (by decide) (by decide) (by simp [Value.category]) (c_isText_y ht ?_)
  refine mOk.ifne (tgt := 9) dX9_at_4 (by decide) (fun c4 => ?_) (fun c4 => absurd c4 ((by decide)))
  refine mOk.aload0n dX9_at_9 rfl ?_
  refine mOk.iload1n dX9_at_10 rfl ?_
  refine mOk.callV1 (M' := mX9_comeOut) dX9_at_11 ml_X9_193 ke_X9_comeOut (by first | assumption | rfl) (by decide) (by decide) (by simp [Value.category]) (c_comeOut ht h.2.2.1 ?_)
  intro I1 hR1 ho1
  have o : Of FW SW I I1 := ho1.up (by decide) (by decide)
  refine mOk.aload0n dX9_at_14 rfl ?_
  refine mOk.iload2n dX9_at_15 rfl ?_
  refine mOk.callV1 (M' := mX9_told) dX9_at_16 ml_X9_199 ke_X9_told (by first | assumption | rfl) (by decide) (by decide) (by simp [Value.category]) (c_told hR1 ?_)
  refine mOk.iret dX9_at_19 rfl ?_
  exact hQ I1 (h.w o) o
theorem M_ruled_tout {t r i : Int32} (ht : t < 0 ∨ nI 4 ≤ t) (hQ : Q (some (.int (-1))) (hS sw I J)) : mCl mX9_ruled 3 0 0 [.ref 97, .int t, .int r, .int i] (hS sw I J) Q := by
  refine mCl.of (by decide) rfl (Nat.le_of_ble_eq_true rfl) ?_
  show mOk _ _ _ _ _ [some (.ref 97), some (.int t), some (.int r), some (.int i)] _ _ _ _ _
  refine mOk.iload1n dX9_ruled_0 rfl ?_
  refine mOk.callS1 (M' := mX9_isText) dX9_ruled_1 ml_X9_147 ke_X9_isText rfl (by decide) (by decide) (by simp [Value.category]) (c_isText_n ht ?_)
  refine mOk.ifeq (tgt := 14) dX9_ruled_4 (by decide) (fun c4 => ?_) (fun c4 => absurd (rfl) c4)
  refine mOk.iconst (x := -1) dX9_ruled_14 (by decide) ?_
  refine mOk.iret dX9_ruled_15 rfl hQ
theorem M_ruled_rout {t : Nat} {r i : Int32} (ht : t < 4) (hr : r < 0 ∨ nI 6 ≤ r) (hQ : Q (some (.int (-1))) (hS sw I J)) : mCl mX9_ruled 3 0 0 [.ref 97, .int (nI t), .int r, .int i] (hS sw I J) Q := by
  refine mCl.of (by decide) rfl (Nat.le_of_ble_eq_true rfl) ?_
  show mOk _ _ _ _ _ [some (.ref 97), some (.int (nI t)), some (.int r), some (.int i)] _ _ _ _ _
  refine mOk.iload1n dX9_ruled_0 rfl ?_
  refine mOk.callS1 (M' := mX9_isText) dX9_ruled_1 ml_X9_147 ke_X9_isText rfl (by decide) (by decide) (by simp [Value.category]) (c_isText_y ht ?_)
  refine mOk.ifeq (tgt := 14) dX9_ruled_4 (by decide) (fun c4 => absurd c4 ((by decide))) (fun c4 => ?_)
  refine mOk.iload2n dX9_ruled_7 rfl ?_
  refine mOk.callS1 (M' := mX9_isRule) dX9_ruled_8 ml_X9_190 ke_X9_isRule rfl (by decide) (by decide) (by simp [Value.category]) (c_misRule_n hr ?_)
  refine mOk.ifne (tgt := 16) dX9_ruled_11 (by decide) (fun c11 => absurd (rfl) c11) (fun c11 => ?_)
  refine mOk.iconst (x := -1) dX9_ruled_14 (by decide) ?_
  refine mOk.iret dX9_ruled_15 rfl hQ
theorem M_ruled_in {t r : Nat} {i : Int32} (h : InvM I bs T tx pp hs im) (hs' : SOk bs T tx pp hs im) (ht : t < 4) (hr : r < 6) (hQ : ∀ I', InvM I' bs T tx pp hs im → Of FW SW I I' → Q (some (.int (lk (ruleF T r (tx t)) i))) (hS sw I' J)) : mCl mX9_ruled 3 0 0 [.ref 97, .int (nI t), .int (nI r), .int i] (hS sw I J) Q := by
  have hT := hs'.2.1
  have hx := hs'.2.2.1 t ht
  have hp := pcs_le4 hT hx.1
  refine mCl.of (by decide) rfl (Nat.le_of_ble_eq_true rfl) ?_
  show mOk _ _ _ _ _ [some (.ref 97), some (.int (nI t)), some (.int (nI r)), some (.int i)] _ _ _ _ _
  refine mOk.iload1n dX9_ruled_0 rfl ?_
  refine mOk.callS1 (M' := mX9_isText) dX9_ruled_1 ml_X9_147 ke_X9_isText rfl (by decide) (by decide) (by simp [Value.category]) (c_isText_y ht ?_)
  refine mOk.ifeq (tgt := 14) dX9_ruled_4 (by decide) (fun c4 => absurd c4 ((by decide))) (fun c4 => ?_)
  refine mOk.iload2n dX9_ruled_7 rfl ?_
  refine mOk.callS1 (M' := mX9_isRule) dX9_ruled_8 ml_X9_190 ke_X9_isRule rfl (by decide) (by decide) (by simp [Value.category]) (c_misRule_y hr ?_)
  refine mOk.ifne (tgt := 16) dX9_ruled_11 (by decide) (fun c11 => ?_) (fun c11 => absurd c11 ((by decide)))
  refine mOk.aload0n dX9_ruled_16 rfl ?_
  refine mOk.iload1n dX9_ruled_17 rfl ?_
  refine mOk.callV1 (M' := mX9_comeOut) dX9_ruled_18 ml_X9_193 ke_X9_comeOut (by first | assumption | rfl) (by decide) (by decide) (by simp [Value.category]) (c_comeOut ht h.2.2.1 ?_)
  intro I1 hR1 ho1
  refine mOk.aload0n dX9_ruled_21 rfl ?_
  refine mOk.iload2n dX9_ruled_22 rfl ?_
  refine mOk.callV1 (M' := mX9_rules) dX9_ruled_23 ml_X9_196 ke_X9_rules (by first | assumption | rfl) (by decide) (by decide) (by simp [Value.category]) (c_rules hr hT (h.1.of ho1 (by decide) (by decide)) hR1 hx.1 (by omega) ?_)
  intro I2 hM2 hR2 ho2
  have o : Of FW SW I I2 := (ho1.up (by decide) (by decide)).tr (ho2.up (by decide) (by decide))
  refine mOk.aload0n dX9_ruled_26 rfl ?_
  refine mOk.iload3n dX9_ruled_27 rfl ?_
  refine mOk.callV1 (M' := mX9_told) dX9_ruled_28 ml_X9_199 ke_X9_told (by first | assumption | rfl) (by decide) (by decide) (by simp [Value.category]) (c_told hR2 ?_)
  refine mOk.iret dX9_ruled_31 rfl ?_
  exact hQ I2 (h.w o) o
theorem M_forms_tout {t r : Int32} (ht : t < 0 ∨ nI 4 ≤ t) (hQ : Q (some (.int (-1))) (hS sw I J)) : mCl mX9_forms 3 0 0 [.ref 97, .int t, .int r] (hS sw I J) Q := by
  refine mCl.of (by decide) rfl (Nat.le_of_ble_eq_true rfl) ?_
  show mOk _ _ _ _ _ [some (.ref 97), some (.int t), some (.int r), none] _ _ _ _ _
  refine mOk.iload1n dX9_forms_0 rfl ?_
  refine mOk.callS1 (M' := mX9_isText) dX9_forms_1 ml_X9_147 ke_X9_isText rfl (by decide) (by decide) (by simp [Value.category]) (c_isText_n ht ?_)
  refine mOk.ifeq (tgt := 14) dX9_forms_4 (by decide) (fun c4 => ?_) (fun c4 => absurd (rfl) c4)
  refine mOk.iconst (x := -1) dX9_forms_14 (by decide) ?_
  refine mOk.iret dX9_forms_15 rfl hQ
theorem M_forms_rout {t : Nat} {r : Int32} (ht : t < 4) (hr : r < 0 ∨ nI 6 ≤ r) (hQ : Q (some (.int (-1))) (hS sw I J)) : mCl mX9_forms 3 0 0 [.ref 97, .int (nI t), .int r] (hS sw I J) Q := by
  refine mCl.of (by decide) rfl (Nat.le_of_ble_eq_true rfl) ?_
  show mOk _ _ _ _ _ [some (.ref 97), some (.int (nI t)), some (.int r), none] _ _ _ _ _
  refine mOk.iload1n dX9_forms_0 rfl ?_
  refine mOk.callS1 (M' := mX9_isText) dX9_forms_1 ml_X9_147 ke_X9_isText rfl (by decide) (by decide) (by simp [Value.category]) (c_isText_y ht ?_)
  refine mOk.ifeq (tgt := 14) dX9_forms_4 (by decide) (fun c4 => absurd c4 ((by decide))) (fun c4 => ?_)
  refine mOk.iload2n dX9_forms_7 rfl ?_
  refine mOk.callS1 (M' := mX9_isRule) dX9_forms_8 ml_X9_190 ke_X9_isRule rfl (by decide) (by decide) (by simp [Value.category]) (c_misRule_n hr ?_)
  refine mOk.ifne (tgt := 16) dX9_forms_11 (by decide) (fun c11 => absurd (rfl) c11) (fun c11 => ?_)
  refine mOk.iconst (x := -1) dX9_forms_14 (by decide) ?_
  refine mOk.iret dX9_forms_15 rfl hQ
theorem l_mforms {I0 : Nat → Nat → Int32} {t : Nat} (ht : t < 4) (hl : ys.length ≤ 16) (l2 : Int32) (hQ : ∀ I', MX I' (va_up tx t ys) → Of [] [106, 107] I0 I' → Q (some (.int (nI ys.length))) (hS sw I' J)) :
    ∀ (m k : Nat) (I : Nat → Nat → Int32), k + m = ys.length → Ro I ys → MX I (va_up tx t (ys.take k)) → Of [] [106, 107] I0 I → mOk mX9_forms 3 0 0 52 [some (.ref 97), some (.int (nI t)), some (.int l2), some (.int (nI k))] [] (hS sw I J) 0 0 Q := by
  intro m
  induction m with
  | zero =>
    intro k I hk hR hX ho
    rw [List.take_of_length_le (by omega)] at hX
    refine mOk.iload3n dX9_forms_52 rfl ?_
    refine mOk.aload0n dX9_forms_53 rfl ?_
    refine mOk.getIv dX9_forms_54 fl_X9_157 (by first | assumption | rfl) hR.2.1 ?_
    refine mOk.icge (tgt := 77) dX9_forms_57 (by decide) (fun c57 => ?_) (fun c57 => absurd ((nI_le' (by omega) (by omega)).mpr (by omega)) c57)
    refine mOk.aload0n dX9_forms_77 rfl ?_
    refine mOk.getIv dX9_forms_78 fl_X9_157 (by first | assumption | rfl) hR.2.1 ?_
    refine mOk.iret dX9_forms_81 rfl ?_
    exact hQ I hX ho
  | succ m ih =>
    intro k I hk hR hX ho
    have hkl : k < ys.length := by omega
    refine mOk.iload3n dX9_forms_52 rfl ?_
    refine mOk.aload0n dX9_forms_53 rfl ?_
    refine mOk.getIv dX9_forms_54 fl_X9_157 (by first | assumption | rfl) hR.2.1 ?_
    refine mOk.icge (tgt := 77) dX9_forms_57 (by decide) (fun c57 => absurd c57 (mt (nI_le' (by omega) (by omega)).mp (by omega))) (fun c57 => ?_)
    refine mOk.aload0n dX9_forms_60 rfl ?_
    refine mOk.iload1n dX9_forms_61 rfl ?_
    refine mOk.aload0n dX9_forms_62 rfl ?_
    refine mOk.getR dX9_forms_63 fl_X9_46 (by first | assumption | rfl) (by first | assumption | rfl) ?_
    refine mOk.iload3n dX9_forms_66 rfl ?_
    refine mOk.ialdv dX9_forms_67 (by first | assumption | rfl) rfl (by omega) (by first | assumption | decide | omega) (hR.at hkl) ?_
    refine mOk.callV2 (M' := mX9_adds) dX9_forms_68 ml_X9_154 ke_X9_adds (by first | assumption | rfl) (by decide) (by decide) (by simp [Value.category]) (c_adds ht hX (by rw [va_up_s, List.length_take]; omega) ?_)
    intro I1 hX1 ho1
    refine mOk.iinc3 dX9_forms_71 (mOk.inc1 rfl) (by decide) rfl ?_
    refine mOk.goto (tgt := 52) dX9_forms_74 (by decide) ?_
    refine ih (k + 1) I1 (by omega) (hR.of ho1 (by decide) (by decide) (by decide)) ?_ (ho.tr ho1)
    rw [take_s hkl]
    have e : va_up (va_up tx t (ys.take k)) t (va_up tx t (ys.take k) t ++ [ys.getD k (-9)]) = va_up tx t (ys.take k ++ [ys.getD k (-9)]) := by
      funext i
      by_cases z : i = t
      · subst z
        rw [va_up_s, va_up_s, va_up_s]
      · rw [va_up_n z, va_up_n z, va_up_n z]
    rw [e] at hX1
    exact hX1
abbrev FY : List Nat := [17, 18, 20, 22]
abbrev SY : List Nat := [106, 107, 109, 110, 111, 112]
theorem M_forms_in {t r : Nat} (h : InvM I bs T tx pp hs im) (hs' : SOk bs T tx pp hs im) (ht : t < 4) (hr : r < 6)
    (hQ0 : 16 < (ruleF T r (tx t)).length → ∀ I', InvM I' bs T tx pp hs im → Of FY SY I I' → Q (some (.int (-3))) (hS sw I' J))
    (hQ1 : (ruleF T r (tx t)).length ≤ 16 → ∀ I', InvM I' bs T (va_up tx t (ruleF T r (tx t))) pp (((t, tx t) :: hs).take 10) im → Of FY SY I I' → Q (some (.int (nI (ruleF T r (tx t)).length))) (hS sw I' J)) : mCl mX9_forms 3 0 0 [.ref 97, .int (nI t), .int (nI r)] (hS sw I J) Q := by
  have hT := hs'.2.1
  have hx := hs'.2.2.1 t ht
  have hp := pcs_le4 hT hx.1
  refine mCl.of (by decide) rfl (Nat.le_of_ble_eq_true rfl) ?_
  show mOk _ _ _ _ _ [some (.ref 97), some (.int (nI t)), some (.int (nI r)), none] _ _ _ _ _
  refine mOk.iload1n dX9_forms_0 rfl ?_
  refine mOk.callS1 (M' := mX9_isText) dX9_forms_1 ml_X9_147 ke_X9_isText rfl (by decide) (by decide) (by simp [Value.category]) (c_isText_y ht ?_)
  refine mOk.ifeq (tgt := 14) dX9_forms_4 (by decide) (fun c4 => absurd c4 ((by decide))) (fun c4 => ?_)
  refine mOk.iload2n dX9_forms_7 rfl ?_
  refine mOk.callS1 (M' := mX9_isRule) dX9_forms_8 ml_X9_190 ke_X9_isRule rfl (by decide) (by decide) (by simp [Value.category]) (c_misRule_y hr ?_)
  refine mOk.ifne (tgt := 16) dX9_forms_11 (by decide) (fun c11 => ?_) (fun c11 => absurd c11 ((by decide)))
  refine mOk.aload0n dX9_forms_16 rfl ?_
  refine mOk.iload1n dX9_forms_17 rfl ?_
  refine mOk.callV1 (M' := mX9_comeOut) dX9_forms_18 ml_X9_193 ke_X9_comeOut (by first | assumption | rfl) (by decide) (by decide) (by simp [Value.category]) (c_comeOut ht h.2.2.1 ?_)
  intro I1 hR1 ho1
  refine mOk.aload0n dX9_forms_21 rfl ?_
  refine mOk.iload2n dX9_forms_22 rfl ?_
  refine mOk.callV1 (M' := mX9_rules) dX9_forms_23 ml_X9_196 ke_X9_rules (by first | assumption | rfl) (by decide) (by decide) (by simp [Value.category]) (c_rules hr hT (h.1.of ho1 (by decide) (by decide)) hR1 hx.1 (by omega) ?_)
  intro I2 hM2 hR2 ho2
  have o2 : Of FW SW I I2 := (ho1.up (by decide) (by decide)).tr (ho2.up (by decide) (by decide))
  have g2 := h.w o2
  have hl2 := hR2.1
  by_cases z : (ruleF T r (tx t)).length ≤ 16
  · refine mOk.aload0n dX9_forms_26 rfl ?_
    refine mOk.getIv dX9_forms_27 fl_X9_157 (by first | assumption | rfl) hR2.2.1 ?_
    refine mOk.bipush (x := nI 16) dX9_forms_30 (by decide) ?_
    refine mOk.icle (tgt := 38) dX9_forms_32 (by decide) (fun c32 => ?_) (fun c32 => absurd ((nI_le' (by omega) (by omega)).mpr z) c32)
    obtain ⟨g21, g22, g23, g24, g25, g26⟩ := id g2
    refine mOk.aload0n dX9_forms_38 rfl ?_
    refine mOk.iload1n dX9_forms_39 rfl ?_
    refine mOk.callV1 (M' := mX9_notes) dX9_forms_40 ml_X9_150 ke_X9_notes (by first | assumption | rfl) (by decide) (by decide) (by simp [Value.category]) (c_notes ht g23 g25 ?_)
    intro I3 hH3 ho3
    have hX3 := g23.of ho3 (by decide) (by decide)
    refine mOk.aload0n dX9_forms_43 rfl ?_
    refine mOk.getR dX9_forms_44 fl_X9_34 (by first | assumption | rfl) (by first | assumption | rfl) ?_
    refine mOk.iload1n dX9_forms_47 rfl ?_
    refine mOk.iconst (x := nI 0) dX9_forms_48 (by decide) ?_
    refine mOk.iastt dX9_forms_49 (by first | assumption | rfl) rfl (by omega) (by first | assumption | decide | omega) ?_
    refine mOk.iconst (x := nI 0) dX9_forms_50 (by decide) ?_
    refine mOk.istore3n dX9_forms_51 rfl (by decide) rfl ?_
    have o4 : Of [] [106, 107] I3 (wI I3 106 t (nI 0)) := Of.a (by decide) (by decide)
    refine l_mforms (I0 := I3) (tx := tx) (ys := ruleF T r (tx t)) ht z _ (fun I5 hX5 ho5 => ?_) (ruleF T r (tx t)).length 0 _ (Nat.zero_add _) ((hR2.of ho3 (by decide) (by decide) (by decide)).of o4 (by decide) (by decide) (by decide)) (fun u hu => ?_) o4
    · have o : Of FY SY I I5 := (o2.up (by decide) (by decide)).tr ((ho3.up (by decide) (by decide)).tr (ho5.up (by decide) (by decide)))
      have o35 : Of [17] [106, 107, 109] I2 I5 := (ho3.up (by decide) (by decide)).tr (ho5.up (by decide) (by decide))
      exact hQ1 z I5 ⟨g21.of o35 (by decide) (by decide), g22.of o35 (by decide) (by decide), hX5, g24.of o35 (by decide) (by decide), hH3.of ho5 (by decide) (by decide), g26.of o35 (by decide)⟩ o
    · by_cases e : u = t
      · subst e
        rw [va_up_s]
        exact ⟨by simp, by rw [wI_s]; rfl, fun k c hk => by simp at hk⟩
      · rw [va_up_n e]
        obtain ⟨y1, y2, y3⟩ := hX3 u hu
        exact ⟨y1, by rw [wI_j e]; exact y2, by rw [wI_c (by decide)]; exact y3⟩
  · refine mOk.aload0n dX9_forms_26 rfl ?_
    refine mOk.getIv dX9_forms_27 fl_X9_157 (by first | assumption | rfl) hR2.2.1 ?_
    refine mOk.bipush (x := nI 16) dX9_forms_30 (by decide) ?_
    refine mOk.icle (tgt := 38) dX9_forms_32 (by decide) (fun c32 => absurd c32 (mt (nI_le' (by omega) (by omega)).mp z)) (fun c32 => ?_)
    refine mOk.bipush (x := -3) dX9_forms_35 (by decide) ?_
    refine mOk.iret dX9_forms_37 rfl ?_
    exact hQ0 (by omega) I2 g2 (o2.up (by decide) (by decide))
theorem l_through' {I0 : Nat → Nat → Int32} (hrs : ∀ r ∈ pp, r < 6) (hT : TOk T) {zs : List Int32} (hQ : ∀ I', Md I' T → MP I' pp → Ro I' zs → Of F2 S2 I0 I' → Q none (hS sw I' J)) :
    ∀ (m k : Nat) (I : Nat → Nat → Int32) (xs : List Int32), k + m = pp.length → pipeF T (pp.drop k) xs = zs → okL T xs → pcs T xs ≤ 128 → Md I T → MP I pp → Ro I xs → Of F2 S2 I0 I → mOk mX9_goesThrough 3 0 0 2 [some (.ref 97), some (.int (nI k))] [] (hS sw I J) 0 0 Q := by
  intro m
  induction m with
  | zero =>
    intro k I xs hk hz hv hl hM hP hR ho
    have hp := hP.1
    rw [List.drop_of_length_le (by omega), pipeF] at hz
    subst hz
    refine mOk.iload1n dX9_goesThrough_2 rfl ?_
    refine mOk.aload0n dX9_goesThrough_3 rfl ?_
    refine mOk.getIv dX9_goesThrough_4 fl_X9_141 (by first | assumption | rfl) hP.2.1 ?_
    refine mOk.icge (tgt := 26) dX9_goesThrough_7 (by decide) (fun c7 => ?_) (fun c7 => absurd ((nI_le' (by omega) (by omega)).mpr (by omega)) c7)
    refine mOk.vret dX9_goesThrough_26 rfl (by decide) ?_
    exact hQ I hM hP hR ho
  | succ m ih =>
    intro k I xs hk hz hv hl hM hP hR ho
    have hp := hP.1
    have hkl : k < pp.length := by omega
    rw [drop_n hkl, pipeF] at hz
    have hr6 : pp.getD k 0 < 6 := hrs _ (by rw [List.getD_eq_getElem?_getD, List.getElem?_eq_getElem hkl]; exact List.getElem_mem _)
    obtain ⟨w1, w2⟩ := rule_ok hT hv (pp.getD k 0)
    refine mOk.iload1n dX9_goesThrough_2 rfl ?_
    refine mOk.aload0n dX9_goesThrough_3 rfl ?_
    refine mOk.getIv dX9_goesThrough_4 fl_X9_141 (by first | assumption | rfl) hP.2.1 ?_
    refine mOk.icge (tgt := 26) dX9_goesThrough_7 (by decide) (fun c7 => absurd c7 (mt (nI_le' (by omega) (by omega)).mp (by omega))) (fun c7 => ?_)
    refine mOk.aload0n dX9_goesThrough_10 rfl ?_
    refine mOk.aload0n dX9_goesThrough_11 rfl ?_
    refine mOk.getR dX9_goesThrough_12 fl_X9_40 (by first | assumption | rfl) (by first | assumption | rfl) ?_
    refine mOk.iload1n dX9_goesThrough_15 rfl ?_
    refine mOk.ialdv dX9_goesThrough_16 (by first | assumption | rfl) rfl (by omega) (by first | assumption | decide | omega) (hP.2.2 k hkl) ?_
    refine mOk.callV1 (M' := mX9_rules) dX9_goesThrough_17 ml_X9_196 ke_X9_rules (by first | assumption | rfl) (by decide) (by decide) (by simp [Value.category]) (c_rules hr6 hT hM hR hv hl ?_)
    intro I1 hM1 hR1 ho1
    refine mOk.iinc1 dX9_goesThrough_20 (mOk.inc1 rfl) (by decide) rfl ?_
    refine mOk.goto (tgt := 2) dX9_goesThrough_23 (by decide) ?_
    exact ih (k + 1) I1 _ (by omega) hz w1 (by omega) hM1 (hP.of ho1 (by decide) (by decide)) hR1 (ho.tr ho1)
theorem c_goes (hrs : ∀ r ∈ pp, r < 6) (hT : TOk T) (hM : Md I T) (hP : MP I pp) (hR : Ro I xs) (hv : okL T xs) (hl : pcs T xs ≤ 128) (hQ : ∀ I', Md I' T → MP I' pp → Ro I' (pipeF T pp xs) → Of F2 S2 I I' → Q none (hS sw I' J)) : mCl mX9_goesThrough 3 0 0 [.ref 97] (hS sw I J) Q := by
  refine mCl.of (by decide) rfl (Nat.le_of_ble_eq_true rfl) ?_
  show mOk _ _ _ _ _ [some (.ref 97), none] _ _ _ _ _
  refine mOk.iconst (x := nI 0) dX9_goesThrough_0 (by decide) ?_
  refine mOk.istore1n dX9_goesThrough_1 rfl (by decide) rfl ?_
  exact l_through' hrs hT hQ pp.length 0 I xs (Nat.zero_add _) rfl hv hl hM hP hR Of.rf
theorem M_piped_out {t i : Int32} (ht : t < 0 ∨ nI 4 ≤ t) (hQ : Q (some (.int (-1))) (hS sw I J)) : mCl mX9_piped 4 0 0 [.ref 97, .int t, .int i] (hS sw I J) Q := by
  refine mCl.of (by decide) rfl (Nat.le_of_ble_eq_true rfl) ?_
  show mOk _ _ _ _ _ [some (.ref 97), some (.int t), some (.int i)] _ _ _ _ _
  refine mOk.iload1n dX9_piped_0 rfl ?_
  refine mOk.callS1 (M' := mX9_isText) dX9_piped_1 ml_X9_147 ke_X9_isText rfl (by decide) (by decide) (by simp [Value.category]) (c_isText_n ht ?_)
  refine mOk.ifne (tgt := 9) dX9_piped_4 (by decide) (fun c4 => absurd (rfl) c4) (fun c4 => ?_)
  refine mOk.iconst (x := -1) dX9_piped_7 (by decide) ?_
  refine mOk.iret dX9_piped_8 rfl hQ
theorem M_piped_in {t : Nat} {i : Int32} (h : InvM I bs T tx pp hs im) (hs' : SOk bs T tx pp hs im) (ht : t < 4) (hQ : ∀ I', InvM I' bs T tx pp hs im → Of FW SW I I' → Q (some (.int (lk (pipeF T pp (tx t)) i))) (hS sw I' J)) : mCl mX9_piped 4 0 0 [.ref 97, .int (nI t), .int i] (hS sw I J) Q := by
  have hT := hs'.2.1
  have hx := hs'.2.2.1 t ht
  have hp := pcs_le4 hT hx.1
  refine mCl.of (by decide) rfl (Nat.le_of_ble_eq_true rfl) ?_
  show mOk _ _ _ _ _ [some (.ref 97), some (.int (nI t)), some (.int i)] _ _ _ _ _
  refine mOk.iload1n dX9_piped_0 rfl ?_
  refine mOk.callS1 (M' := mX9_isText) dX9_piped_1 ml_X9_147 ke_X9_isText rfl (by decide) (by decide) (by simp [Value.category]) (c_isText_y ht ?_)
  refine mOk.ifne (tgt := 9) dX9_piped_4 (by decide) (fun c4 => ?_) (fun c4 => absurd c4 ((by decide)))
  refine mOk.aload0n dX9_piped_9 rfl ?_
  refine mOk.iload1n dX9_piped_10 rfl ?_
  refine mOk.callV1 (M' := mX9_comeOut) dX9_piped_11 ml_X9_193 ke_X9_comeOut (by first | assumption | rfl) (by decide) (by decide) (by simp [Value.category]) (c_comeOut ht h.2.2.1 ?_)
  intro I1 hR1 ho1
  refine mOk.aload0n dX9_piped_14 rfl ?_
  refine mOk.callV0 (M' := mX9_goesThrough) dX9_piped_15 ml_X9_224 ke_X9_goesThrough (by first | assumption | rfl) (by decide) (by decide) (by simp [Value.category]) (c_goes hs'.2.2.2.1.2 hT (h.1.of ho1 (by decide) (by decide)) (h.2.2.2.1.of ho1 (by decide) (by decide)) hR1 hx.1 (by omega) ?_)
  intro I2 hM2 hP2 hR2 ho2
  have o : Of FW SW I I2 := (ho1.up (by decide) (by decide)).tr (ho2.up (by decide) (by decide))
  refine mOk.aload0n dX9_piped_18 rfl ?_
  refine mOk.iload2n dX9_piped_19 rfl ?_
  refine mOk.callV1 (M' := mX9_told) dX9_piped_20 ml_X9_199 ke_X9_told (by first | assumption | rfl) (by decide) (by decide) (by simp [Value.category]) (c_told hR2 ?_)
  refine mOk.iret dX9_piped_23 rfl ?_
  exact hQ I2 (h.w o) o
theorem M_fixed_out {t : Int32} (ht : t < 0 ∨ nI 4 ≤ t) (hQ : Q (some (.int (-1))) (hS sw I J)) : mCl mX9_fixed 4 0 0 [.ref 97, .int t] (hS sw I J) Q := by
  refine mCl.of (by decide) rfl (Nat.le_of_ble_eq_true rfl) ?_
  show mOk _ _ _ _ _ [some (.ref 97), some (.int t), none] _ _ _ _ _
  refine mOk.iload1n dX9_fixed_0 rfl ?_
  refine mOk.callS1 (M' := mX9_isText) dX9_fixed_1 ml_X9_147 ke_X9_isText rfl (by decide) (by decide) (by simp [Value.category]) (c_isText_n ht ?_)
  refine mOk.ifne (tgt := 9) dX9_fixed_4 (by decide) (fun c4 => absurd (rfl) c4) (fun c4 => ?_)
  refine mOk.iconst (x := -1) dX9_fixed_7 (by decide) ?_
  refine mOk.iret dX9_fixed_8 rfl hQ
theorem l_mfixed {I0 : Nat → Nat → Int32} {t : Nat} {xs0 : List Int32} (hs' : SOk bs T tx pp hs im) (hQ : ∀ I', InvM I' bs T tx pp hs im → Of FW SW I0 I' → Q (some (.int (fixF T pp 10 0 xs0))) (hS sw I' J)) :
    ∀ (m p : Nat) (I : Nat → Nat → Int32) (xs : List Int32), p + m = 10 → fixF T pp m p xs = fixF T pp 10 0 xs0 → okL T xs → pcs T xs ≤ 128 → InvM I bs T tx pp hs im → Ro I xs → Of FW SW I0 I → mOk mX9_fixed 4 0 0 16 [some (.ref 97), some (.int (nI t)), some (.int (nI p))] [] (hS sw I J) 0 0 Q := by
  have hT := hs'.2.1
  intro m
  induction m with
  | zero =>
    intro p I xs hp hf hv hl h hR ho
    refine mOk.iload2n dX9_fixed_16 rfl ?_
    refine mOk.bipush (x := nI 9) dX9_fixed_17 (by decide) ?_
    refine mOk.icgt (tgt := 45) dX9_fixed_19 (by decide) (fun c19 => ?_) (fun c19 => absurd ((nI_lt' (by omega) (by omega)).mpr (by omega)) c19)
    refine mOk.bipush (x := -9) dX9_fixed_45 (by decide) ?_
    refine mOk.iret dX9_fixed_47 rfl ?_
    rw [← hf] at hQ
    exact hQ I h ho
  | succ m ih =>
    intro p I xs hp hf hv hl h hR ho
    refine mOk.iload2n dX9_fixed_16 rfl ?_
    refine mOk.bipush (x := nI 9) dX9_fixed_17 (by decide) ?_
    refine mOk.icgt (tgt := 45) dX9_fixed_19 (by decide) (fun c19 => absurd c19 (mt (nI_lt' (by omega) (by omega)).mp (by omega))) (fun c19 => ?_)
    refine mOk.aload0n dX9_fixed_22 rfl ?_
    refine mOk.callV0 (M' := mX9_keeps) dX9_fixed_23 ml_X9_205 ke_X9_keeps (by first | assumption | rfl) (by decide) (by decide) (by simp [Value.category]) (c_keeps hR ?_)
    intro I1 hR1 hK1 ho1
    refine mOk.aload0n dX9_fixed_26 rfl ?_
    refine mOk.callV0 (M' := mX9_goesThrough) dX9_fixed_27 ml_X9_224 ke_X9_goesThrough (by first | assumption | rfl) (by decide) (by decide) (by simp [Value.category]) (c_goes hs'.2.2.2.1.2 hT (h.1.of ho1 (by decide) (by decide)) (h.2.2.2.1.of ho1 (by decide) (by decide)) hR1 hv hl ?_)
    intro I2 hM2 hP2 hR2 ho2
    have o : Of FW SW I I2 := (ho1.up (by decide) (by decide)).tr (ho2.up (by decide) (by decide))
    have g2 := h.w o
    obtain ⟨p1, p2⟩ := pipe_ok hT pp hv
    refine mOk.aload0n dX9_fixed_30 rfl ?_
    refine mOk.callV0 (M' := mX9_isKept) dX9_fixed_31 ml_X9_208 ke_X9_isKept (by first | assumption | rfl) (by decide) (by decide) (by simp [Value.category]) (c_misKept hR2 (hK1.of ho2 (by decide) (by decide) (by decide)) ?_)
    by_cases z : pipeF T pp xs = xs
    · rw [if_pos z]
      refine mOk.ifeq (tgt := 39) dX9_fixed_34 (by decide) (fun c34 => absurd c34 ((by decide))) (fun c34 => ?_)
      refine mOk.iload2n dX9_fixed_37 rfl ?_
      refine mOk.iret dX9_fixed_38 rfl ?_
      rw [← hf, fixF, if_pos z] at hQ
      exact hQ I2 g2 (ho.tr o)
    · rw [if_neg z]
      refine mOk.ifeq (tgt := 39) dX9_fixed_34 (by decide) (fun c34 => ?_) (fun c34 => absurd (rfl) c34)
      refine mOk.iinc2 dX9_fixed_39 (mOk.inc1 rfl) (by decide) rfl ?_
      refine mOk.goto (tgt := 16) dX9_fixed_42 (by decide) ?_
      refine ih (p + 1) I2 (pipeF T pp xs) (by omega) ?_ p1 (by omega) g2 hR2 (ho.tr o)
      rw [← hf, fixF, if_neg z]
theorem M_fixed_in {t : Nat} (h : InvM I bs T tx pp hs im) (hs' : SOk bs T tx pp hs im) (ht : t < 4) (hQ : ∀ I', InvM I' bs T tx pp hs im → Of FW SW I I' → Q (some (.int (fixF T pp 10 0 (tx t)))) (hS sw I' J)) : mCl mX9_fixed 4 0 0 [.ref 97, .int (nI t)] (hS sw I J) Q := by
  have hT := hs'.2.1
  have hx := hs'.2.2.1 t ht
  have hp := pcs_le4 hT hx.1
  refine mCl.of (by decide) rfl (Nat.le_of_ble_eq_true rfl) ?_
  show mOk _ _ _ _ _ [some (.ref 97), some (.int (nI t)), none] _ _ _ _ _
  refine mOk.iload1n dX9_fixed_0 rfl ?_
  refine mOk.callS1 (M' := mX9_isText) dX9_fixed_1 ml_X9_147 ke_X9_isText rfl (by decide) (by decide) (by simp [Value.category]) (c_isText_y ht ?_)
  refine mOk.ifne (tgt := 9) dX9_fixed_4 (by decide) (fun c4 => ?_) (fun c4 => absurd c4 ((by decide)))
  refine mOk.aload0n dX9_fixed_9 rfl ?_
  refine mOk.iload1n dX9_fixed_10 rfl ?_
  refine mOk.callV1 (M' := mX9_comeOut) dX9_fixed_11 ml_X9_193 ke_X9_comeOut (by first | assumption | rfl) (by decide) (by decide) (by simp [Value.category]) (c_comeOut ht h.2.2.1 ?_)
  intro I1 hR1 ho1
  have o : Of FW SW I I1 := ho1.up (by decide) (by decide)
  refine mOk.iconst (x := nI 0) dX9_fixed_14 (by decide) ?_
  refine mOk.istore2n dX9_fixed_15 rfl (by decide) rfl ?_
  exact l_mfixed hs' hQ 10 0 I1 (tx t) rfl rfl hx.1 (by omega) (h.w o) hR1 o
end MODEL12
