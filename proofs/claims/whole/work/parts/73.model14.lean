/-! ===== the reference: seam, spellings ===== -/
section MODEL14
variable {sw : Bool} {I : Nat → Nat → Int32} {J : Nat → Nat → Int64} {Q : Option Value → mi_H → Prop} {xs ys : List Int32} {bs : List Nat} {T : List CR} {tx : Nat → List Int32} {pp : List Nat} {hs : List (Nat × List Int32)} {im : ImT}
theorem M_seam_out {t u r w : Int32} (ht : (t < 0 ∨ nI 4 ≤ t) ∨ (u < 0 ∨ nI 4 ≤ u) ∨ (r < 0 ∨ nI 6 ≤ r) ∨ (w < 0 ∨ nI 3 ≤ w)) (hQ : Q (some (.int (-1))) (hS sw I J)) : mCl mX9_seam 3 0 0 [.ref 97, .int t, .int u, .int r, .int w] (hS sw I J) Q := by
  refine mCl.of (by decide) rfl (Nat.le_of_ble_eq_true rfl) ?_
  show mOk _ _ _ _ _ [some (.ref 97), some (.int t), some (.int u), some (.int r), some (.int w), none, none] _ _ _ _ _
  rcases ixc t (show 4 < 100000 by omega) with zt | ⟨t, ht', rfl⟩
  · refine mOk.iload1n dX9_seam_0 rfl ?_
    refine mOk.callS1 (M' := mX9_isText) dX9_seam_1 ml_X9_147 ke_X9_isText rfl (by decide) (by decide) (by simp [Value.category]) (c_isText_n zt ?_)
    refine mOk.ifeq (tgt := 31) dX9_seam_4 (by decide) (fun c4 => ?_) (fun c4 => absurd (rfl) c4)
    refine mOk.iconst (x := -1) dX9_seam_31 (by decide) ?_
    refine mOk.iret dX9_seam_32 rfl hQ
  · refine mOk.iload1n dX9_seam_0 rfl ?_
    refine mOk.callS1 (M' := mX9_isText) dX9_seam_1 ml_X9_147 ke_X9_isText rfl (by decide) (by decide) (by simp [Value.category]) (c_isText_y ht' ?_)
    refine mOk.ifeq (tgt := 31) dX9_seam_4 (by decide) (fun c4 => absurd c4 ((by decide))) (fun c4 => ?_)
    rcases ixc u (show 4 < 100000 by omega) with zu | ⟨u, hu', rfl⟩
    · refine mOk.iload2n dX9_seam_7 rfl ?_
      refine mOk.callS1 (M' := mX9_isText) dX9_seam_8 ml_X9_147 ke_X9_isText rfl (by decide) (by decide) (by simp [Value.category]) (c_isText_n zu ?_)
      refine mOk.ifeq (tgt := 31) dX9_seam_11 (by decide) (fun c11 => ?_) (fun c11 => absurd (rfl) c11)
      refine mOk.iconst (x := -1) dX9_seam_31 (by decide) ?_
      refine mOk.iret dX9_seam_32 rfl hQ
    · have hrw : (r < 0 ∨ nI 6 ≤ r) ∨ (w < 0 ∨ nI 3 ≤ w) := by
        rcases ht with (z | z) | (z | z) | z
        · exact absurd z (nI_neg' (by omega))
        · have := (nI_le' (by omega) (by omega)).mp z
          omega
        · exact absurd z (nI_neg' (by omega))
        · have := (nI_le' (by omega) (by omega)).mp z
          omega
        · exact z
      refine mOk.iload2n dX9_seam_7 rfl ?_
      refine mOk.callS1 (M' := mX9_isText) dX9_seam_8 ml_X9_147 ke_X9_isText rfl (by decide) (by decide) (by simp [Value.category]) (c_isText_y hu' ?_)
      refine mOk.ifeq (tgt := 31) dX9_seam_11 (by decide) (fun c11 => absurd c11 ((by decide))) (fun c11 => ?_)
      rcases ixc r (show 6 < 100000 by omega) with zr | ⟨r, hr', rfl⟩
      · refine mOk.iload3n dX9_seam_14 rfl ?_
        refine mOk.callS1 (M' := mX9_isRule) dX9_seam_15 ml_X9_190 ke_X9_isRule rfl (by decide) (by decide) (by simp [Value.category]) (c_misRule_n zr ?_)
        refine mOk.ifeq (tgt := 31) dX9_seam_18 (by decide) (fun c18 => ?_) (fun c18 => absurd (rfl) c18)
        refine mOk.iconst (x := -1) dX9_seam_31 (by decide) ?_
        refine mOk.iret dX9_seam_32 rfl hQ
      · have hw : w < 0 ∨ nI 3 ≤ w := by
          rcases hrw with (z | z) | z
          · exact absurd z (nI_neg' (by omega))
          · have := (nI_le' (by omega) (by omega)).mp z
            omega
          · exact z
        refine mOk.iload3n dX9_seam_14 rfl ?_
        refine mOk.callS1 (M' := mX9_isRule) dX9_seam_15 ml_X9_190 ke_X9_isRule rfl (by decide) (by decide) (by simp [Value.category]) (c_misRule_y hr' ?_)
        refine mOk.ifeq (tgt := 31) dX9_seam_18 (by decide) (fun c18 => absurd c18 ((by decide))) (fun c18 => ?_)
        refine mOk.iload4 dX9_seam_21 ?_
        refine mOk.iconst (x := nI 0) dX9_seam_23 (by decide) ?_
        refine mOk.iconst (x := nI 2) dX9_seam_24 (by decide) ?_
        refine mOk.callS3 (M' := mX9_in) dX9_seam_25 ml_X9_66 ke_X9_in rfl (by decide) (by decide) (by simp [Value.category]) (c_in_n (hw.imp id (i32_ltg (by omega))) ?_)
        refine mOk.ifne (tgt := 33) dX9_seam_28 (by decide) (fun c28 => absurd (rfl) c28) (fun c28 => ?_)
        refine mOk.iconst (x := -1) dX9_seam_31 (by decide) ?_
        refine mOk.iret dX9_seam_32 rfl hQ
/-- from the first on -/
theorem l_seam1 {t u r w : Nat} (hR : Ro I xs) (hK : Kp I ys) (kk : mOk mX9_seam 3 0 0 106 [some (.ref 97), some (.int (nI t)), some (.int (nI u)), some (.int (nI r)), some (.int (nI w)), some (.int (nI (cpl ys xs))), none] [] (hS sw I J) 0 0 Q) :
    ∀ (m k : Nat), k + m = xs.length → k ≤ ys.length → (∀ j, j < k → ys.getD j (-9) = xs.getD j (-9)) → mOk mX9_seam 3 0 0 65 [some (.ref 97), some (.int (nI t)), some (.int (nI u)), some (.int (nI r)), some (.int (nI w)), some (.int (nI k)), none] [] (hS sw I J) 0 0 Q := by
  have hl := hR.1
  have hl2 := hK.1
  intro m
  induction m with
  | zero =>
    intro k hk hky hj
    refine mOk.iload5 dX9_seam_65 ?_
    refine mOk.aload0n dX9_seam_67 rfl ?_
    refine mOk.getIv dX9_seam_68 fl_X9_157 (by first | assumption | rfl) hR.2.1 ?_
    refine mOk.icge (tgt := 106) dX9_seam_71 (by decide) (fun c71 => ?_) (fun c71 => absurd ((nI_le' (by omega) (by omega)).mpr (by omega)) c71)
    rw [cpl_is ys xs k hky (by omega) hj (Or.inr (Or.inl (by omega)))] at kk
    exact kk
  | succ m ih =>
    intro k hk hky hj
    refine mOk.iload5 dX9_seam_65 ?_
    refine mOk.aload0n dX9_seam_67 rfl ?_
    refine mOk.getIv dX9_seam_68 fl_X9_157 (by first | assumption | rfl) hR.2.1 ?_
    refine mOk.icge (tgt := 106) dX9_seam_71 (by decide) (fun c71 => absurd c71 (mt (nI_le' (by omega) (by omega)).mp (by omega))) (fun c71 => ?_)
    by_cases z : k < ys.length
    · refine mOk.iload5 dX9_seam_74 ?_
      refine mOk.aload0n dX9_seam_76 rfl ?_
      refine mOk.getIv dX9_seam_77 fl_X9_202 (by first | assumption | rfl) hK.2.1 ?_
      refine mOk.icge (tgt := 106) dX9_seam_80 (by decide) (fun c80 => absurd c80 (mt (nI_le' (by omega) (by omega)).mp (by omega))) (fun c80 => ?_)
      refine mOk.aload0n dX9_seam_83 rfl ?_
      refine mOk.getR dX9_seam_84 fl_X9_46 (by first | assumption | rfl) (by first | assumption | rfl) ?_
      refine mOk.iload5 dX9_seam_87 ?_
      refine mOk.ialdv dX9_seam_89 (by first | assumption | rfl) rfl (by omega) (by first | assumption | decide | omega) (hR.at (by omega)) ?_
      refine mOk.aload0n dX9_seam_90 rfl ?_
      refine mOk.getR dX9_seam_91 fl_X9_52 (by first | assumption | rfl) (by first | assumption | rfl) ?_
      refine mOk.iload5 dX9_seam_94 ?_
      refine mOk.ialdv dX9_seam_96 (by first | assumption | rfl) rfl (by omega) (by first | assumption | decide | omega) (hK.at z) ?_
      refine mOk.icne (tgt := 106) dX9_seam_97 (by decide) (fun c97 => ?_) (fun c97 => ?_)
      · rw [cpl_is ys xs k hky (by omega) hj (Or.inr (Or.inr (fun w => c97 w.symm)))] at kk
        exact kk
      · refine mOk.iinc5 dX9_seam_100 (mOk.inc1 rfl) (by decide) rfl ?_
        refine mOk.goto (tgt := 65) dX9_seam_103 (by decide) ?_
        refine ih (k + 1) (by omega) (by omega) (fun j hjk => ?_)
        rcases Nat.lt_or_ge j k with w | w
        · exact hj j w
        · rw [show j = k by omega]
          exact c97.symm
    · refine mOk.iload5 dX9_seam_74 ?_
      refine mOk.aload0n dX9_seam_76 rfl ?_
      refine mOk.getIv dX9_seam_77 fl_X9_202 (by first | assumption | rfl) hK.2.1 ?_
      refine mOk.icge (tgt := 106) dX9_seam_80 (by decide) (fun c80 => ?_) (fun c80 => absurd ((nI_le' (by omega) (by omega)).mpr (by omega)) c80)
      rw [cpl_is ys xs k hky (by omega) hj (Or.inl (by omega))] at kk
      exact kk
/-- from the last back -/
theorem l_seam2 {t u r w a : Nat} (ha : a ≤ ys.length) (hR : Ro I xs) (hK : Kp I ys) (kk : mOk mX9_seam 3 0 0 177 [some (.ref 97), some (.int (nI t)), some (.int (nI u)), some (.int (nI r)), some (.int (nI w)), some (.int (nI a)), some (.int (nI (min (cpl ys.reverse xs.reverse) (ys.length - a))))] [] (hS sw I J) 0 0 Q) :
    ∀ (m k : Nat), k + m = xs.length → k ≤ ys.length - a → (∀ j, j < k → ys.reverse.getD j (-9) = xs.reverse.getD j (-9)) → mOk mX9_seam 3 0 0 119 [some (.ref 97), some (.int (nI t)), some (.int (nI u)), some (.int (nI r)), some (.int (nI w)), some (.int (nI a)), some (.int (nI k))] [] (hS sw I J) 0 0 Q := by
  have hl := hR.1
  have hl2 := hK.1
  intro m
  induction m with
  | zero =>
    intro k hk hky hj
    refine mOk.iload6 dX9_seam_119 ?_
    refine mOk.aload0n dX9_seam_121 rfl ?_
    refine mOk.getIv dX9_seam_122 fl_X9_157 (by first | assumption | rfl) hR.2.1 ?_
    refine mOk.icge (tgt := 177) dX9_seam_125 (by decide) (fun c125 => ?_) (fun c125 => absurd ((nI_le' (by omega) (by omega)).mpr (by omega)) c125)
    rw [cpl_is ys.reverse xs.reverse k (by rw [List.length_reverse]; omega) (by rw [List.length_reverse]; omega) hj (Or.inr (Or.inl (by rw [List.length_reverse]; omega))), Nat.min_eq_left hky] at kk
    exact kk
  | succ m ih =>
    intro k hk hky hj
    refine mOk.iload6 dX9_seam_119 ?_
    refine mOk.aload0n dX9_seam_121 rfl ?_
    refine mOk.getIv dX9_seam_122 fl_X9_157 (by first | assumption | rfl) hR.2.1 ?_
    refine mOk.icge (tgt := 177) dX9_seam_125 (by decide) (fun c125 => absurd c125 (mt (nI_le' (by omega) (by omega)).mp (by omega))) (fun c125 => ?_)
    by_cases z : k < ys.length - a
    · refine mOk.iload6 dX9_seam_128 ?_
      refine mOk.aload0n dX9_seam_130 rfl ?_
      refine mOk.getIv dX9_seam_131 fl_X9_202 (by first | assumption | rfl) hK.2.1 ?_
      refine mOk.iload5 dX9_seam_134 ?_
      refine mOk.isub dX9_seam_136 ?_
      refine mOk.top ((pk_sub ha)) ?_
      refine mOk.icge (tgt := 177) dX9_seam_137 (by decide) (fun c137 => absurd c137 (mt (nI_le' (by omega) (by omega)).mp (by omega))) (fun c137 => ?_)
      have e1 : I 110 (xs.length - 1 - k) = xs.reverse.getD k (-9) := by rw [getD_rev (by omega)]; exact hR.at (by omega)
      have e2 : I 112 (ys.length - 1 - k) = ys.reverse.getD k (-9) := by rw [getD_rev (by omega)]; exact hK.at (by omega)
      refine mOk.aload0n dX9_seam_140 rfl ?_
      refine mOk.getR dX9_seam_141 fl_X9_46 (by first | assumption | rfl) (by first | assumption | rfl) ?_
      refine mOk.aload0n dX9_seam_144 rfl ?_
      refine mOk.getIv dX9_seam_145 fl_X9_157 (by first | assumption | rfl) hR.2.1 ?_
      refine mOk.iconst (x := nI 1) dX9_seam_148 (by decide) ?_
      refine mOk.isub dX9_seam_149 ?_
      refine mOk.top ((pk_sub (by omega))) ?_
      refine mOk.iload6 dX9_seam_150 ?_
      refine mOk.isub dX9_seam_152 ?_
      refine mOk.top ((pk_sub (by omega))) ?_
      refine mOk.ialdv dX9_seam_153 (by first | assumption | rfl) rfl (by omega) (by first | assumption | decide | omega) e1 ?_
      refine mOk.aload0n dX9_seam_154 rfl ?_
      refine mOk.getR dX9_seam_155 fl_X9_52 (by first | assumption | rfl) (by first | assumption | rfl) ?_
      refine mOk.aload0n dX9_seam_158 rfl ?_
      refine mOk.getIv dX9_seam_159 fl_X9_202 (by first | assumption | rfl) hK.2.1 ?_
      refine mOk.iconst (x := nI 1) dX9_seam_162 (by decide) ?_
      refine mOk.isub dX9_seam_163 ?_
      refine mOk.top ((pk_sub (by omega))) ?_
      refine mOk.iload6 dX9_seam_164 ?_
      refine mOk.isub dX9_seam_166 ?_
      refine mOk.top ((pk_sub (by omega))) ?_
      refine mOk.ialdv dX9_seam_167 (by first | assumption | rfl) rfl (by omega) (by first | assumption | decide | omega) e2 ?_
      refine mOk.icne (tgt := 177) dX9_seam_168 (by decide) (fun c168 => ?_) (fun c168 => ?_)
      · rw [cpl_is ys.reverse xs.reverse k (by rw [List.length_reverse]; omega) (by rw [List.length_reverse]; omega) hj (Or.inr (Or.inr (fun w => c168 w.symm))), Nat.min_eq_left hky] at kk
        exact kk
      · refine mOk.iinc6 dX9_seam_171 (mOk.inc1 rfl) (by decide) rfl ?_
        refine mOk.goto (tgt := 119) dX9_seam_174 (by decide) ?_
        refine ih (k + 1) (by omega) (by omega) (fun j hjk => ?_)
        rcases Nat.lt_or_ge j k with w | w
        · exact hj j w
        · rw [show j = k by omega]
          exact c168.symm
    · refine mOk.iload6 dX9_seam_128 ?_
      refine mOk.aload0n dX9_seam_130 rfl ?_
      refine mOk.getIv dX9_seam_131 fl_X9_202 (by first | assumption | rfl) hK.2.1 ?_
      refine mOk.iload5 dX9_seam_134 ?_
      refine mOk.isub dX9_seam_136 ?_
      refine mOk.top ((pk_sub ha)) ?_
      refine mOk.icge (tgt := 177) dX9_seam_137 (by decide) (fun c137 => ?_) (fun c137 => absurd ((nI_le' (by omega) (by omega)).mpr (by omega)) c137)
      have := cpl_ge ys.reverse xs.reverse k (by rw [List.length_reverse]; omega) (by rw [List.length_reverse]; omega) hj
      rw [Nat.min_eq_right (by omega), show ys.length - a = k by omega] at kk
      exact kk
theorem M_seam_in {t u r w : Nat} (h : InvM I bs T tx pp hs im) (hs' : SOk bs T tx pp hs im) (ht : t < 4) (hu : u < 4) (hr : r < 6) (hw : w < 3)
    (hQ : ∀ I', InvM I' bs T tx pp hs im → Of FW SW I I' → Q (some (.int (nI (smW T r (tx t) (tx u) w)))) (hS sw I' J)) : mCl mX9_seam 3 0 0 [.ref 97, .int (nI t), .int (nI u), .int (nI r), .int (nI w)] (hS sw I J) Q := by
  have hT := hs'.2.1
  have hx := hs'.2.2.1 t ht
  have hp := pcs_le4 hT hx.1
  have hx2 := hs'.2.2.1 u hu
  have hp2 := pcs_le4 hT hx2.1
  have hok : okL T (tx t ++ tx u) := fun c hc => (List.mem_append.mp hc).elim (hx.1 c) (hx2.1 c)
  have hpa := pcs_app T (tx t) (tx u)
  refine mCl.of (by decide) rfl (Nat.le_of_ble_eq_true rfl) ?_
  show mOk _ _ _ _ _ [some (.ref 97), some (.int (nI t)), some (.int (nI u)), some (.int (nI r)), some (.int (nI w)), none, none] _ _ _ _ _
  refine mOk.iload1n dX9_seam_0 rfl ?_
  refine mOk.callS1 (M' := mX9_isText) dX9_seam_1 ml_X9_147 ke_X9_isText rfl (by decide) (by decide) (by simp [Value.category]) (c_isText_y ht ?_)
  refine mOk.ifeq (tgt := 31) dX9_seam_4 (by decide) (fun c4 => absurd c4 ((by decide))) (fun c4 => ?_)
  refine mOk.iload2n dX9_seam_7 rfl ?_
  refine mOk.callS1 (M' := mX9_isText) dX9_seam_8 ml_X9_147 ke_X9_isText rfl (by decide) (by decide) (by simp [Value.category]) (c_isText_y hu ?_)
  refine mOk.ifeq (tgt := 31) dX9_seam_11 (by decide) (fun c11 => absurd c11 ((by decide))) (fun c11 => ?_)
  refine mOk.iload3n dX9_seam_14 rfl ?_
  refine mOk.callS1 (M' := mX9_isRule) dX9_seam_15 ml_X9_190 ke_X9_isRule rfl (by decide) (by decide) (by simp [Value.category]) (c_misRule_y hr ?_)
  refine mOk.ifeq (tgt := 31) dX9_seam_18 (by decide) (fun c18 => absurd c18 ((by decide))) (fun c18 => ?_)
  refine mOk.iload4 dX9_seam_21 ?_
  refine mOk.iconst (x := nI 0) dX9_seam_23 (by decide) ?_
  refine mOk.iconst (x := nI 2) dX9_seam_24 (by decide) ?_
  refine mOk.callS3 (M' := mX9_in) dX9_seam_25 ml_X9_66 ke_X9_in rfl (by decide) (by decide) (by simp [Value.category]) (c_in_y (nI_neg' (by omega)) (mt (nI_lt' (by omega) (by omega)).mp (by omega)) ?_)
  refine mOk.ifne (tgt := 33) dX9_seam_28 (by decide) (fun c28 => ?_) (fun c28 => absurd c28 ((by decide)))
  refine mOk.aload0n dX9_seam_33 rfl ?_
  refine mOk.iload1n dX9_seam_34 rfl ?_
  refine mOk.callV1 (M' := mX9_comeOut) dX9_seam_35 ml_X9_193 ke_X9_comeOut (by first | assumption | rfl) (by decide) (by decide) (by simp [Value.category]) (c_comeOut ht h.2.2.1 ?_)
  intro I1 hR1 ho1
  refine mOk.aload0n dX9_seam_38 rfl ?_
  refine mOk.iload2n dX9_seam_39 rfl ?_
  refine mOk.callV1 (M' := mX9_addsOut) dX9_seam_40 ml_X9_160 ke_X9_addsOut (by first | assumption | rfl) (by decide) (by decide) (by simp [Value.category]) (c_addsOut hu (h.2.2.1.of ho1 (by decide) (by decide)) hR1 (by omega) ?_)
  intro I2 hR2 ho2
  have o2 : Of FW SW I I2 := (ho1.up (by decide) (by decide)).tr (ho2.up (by decide) (by decide))
  refine mOk.aload0n dX9_seam_43 rfl ?_
  refine mOk.iload3n dX9_seam_44 rfl ?_
  refine mOk.callV1 (M' := mX9_rules) dX9_seam_45 ml_X9_196 ke_X9_rules (by first | assumption | rfl) (by decide) (by decide) (by simp [Value.category]) (c_rules hr hT (h.1.of o2 (by decide) (by decide)) hR2 hok (by omega) ?_)
  intro I3 hM3 hR3 ho3
  refine mOk.aload0n dX9_seam_48 rfl ?_
  refine mOk.callV0 (M' := mX9_keeps) dX9_seam_49 ml_X9_205 ke_X9_keeps (by first | assumption | rfl) (by decide) (by decide) (by simp [Value.category]) (c_keeps hR3 ?_)
  intro I4 hR4 hK4 ho4
  have o4 : Of FW SW I I4 := o2.tr ((ho3.up (by decide) (by decide)).tr (ho4.up (by decide) (by decide)))
  have g4 := h.w o4
  refine mOk.aload0n dX9_seam_52 rfl ?_
  refine mOk.iload1n dX9_seam_53 rfl ?_
  refine mOk.callV1 (M' := mX9_comeOut) dX9_seam_54 ml_X9_193 ke_X9_comeOut (by first | assumption | rfl) (by decide) (by decide) (by simp [Value.category]) (c_comeOut ht g4.2.2.1 ?_)
  intro I5 hR5 ho5
  refine mOk.aload0n dX9_seam_57 rfl ?_
  refine mOk.iload3n dX9_seam_58 rfl ?_
  refine mOk.callV1 (M' := mX9_rules) dX9_seam_59 ml_X9_196 ke_X9_rules (by first | assumption | rfl) (by decide) (by decide) (by simp [Value.category]) (c_rules hr hT (g4.1.of ho5 (by decide) (by decide)) hR5 hx.1 (by omega) ?_)
  intro I6 hM6 hR6 ho6
  have hK6 := (hK4.of ho5 (by decide) (by decide) (by decide)).of ho6 (by decide) (by decide) (by decide)
  have o6 : Of FW SW I I6 := o4.tr ((ho5.up (by decide) (by decide)).tr (ho6.up (by decide) (by decide)))
  have g6 := h.w o6
  refine mOk.iconst (x := nI 0) dX9_seam_62 (by decide) ?_
  refine mOk.istore5 dX9_seam_63 (by decide) rfl ?_
  have eA : cpl (ruleF T r (tx t ++ tx u)) (ruleF T r (tx t)) = smA T r (tx t) (tx u) := rfl
  have hle := (cpl_le (ruleF T r (tx t ++ tx u)) (ruleF T r (tx t))).1
  refine l_seam1 (xs := ruleF T r (tx t)) (ys := ruleF T r (tx t ++ tx u)) hR6 hK6 ?_ (ruleF T r (tx t)).length 0 (Nat.zero_add _) (Nat.zero_le _) (fun j hj => absurd hj (Nat.not_lt_zero j))
  rw [eA] at hle ⊢
  refine mOk.aload0n dX9_seam_106 rfl ?_
  refine mOk.iload2n dX9_seam_107 rfl ?_
  refine mOk.callV1 (M' := mX9_comeOut) dX9_seam_108 ml_X9_193 ke_X9_comeOut (by first | assumption | rfl) (by decide) (by decide) (by simp [Value.category]) (c_comeOut hu g6.2.2.1 ?_)
  intro I7 hR7 ho7
  refine mOk.aload0n dX9_seam_111 rfl ?_
  refine mOk.iload3n dX9_seam_112 rfl ?_
  refine mOk.callV1 (M' := mX9_rules) dX9_seam_113 ml_X9_196 ke_X9_rules (by first | assumption | rfl) (by decide) (by decide) (by simp [Value.category]) (c_rules hr hT (g6.1.of ho7 (by decide) (by decide)) hR7 hx2.1 (by omega) ?_)
  intro I8 hM8 hR8 ho8
  have hK8 := (hK6.of ho7 (by decide) (by decide) (by decide)).of ho8 (by decide) (by decide) (by decide)
  have o8 : Of FW SW I I8 := o6.tr ((ho7.up (by decide) (by decide)).tr (ho8.up (by decide) (by decide)))
  have hq := hQ I8 (h.w o8) o8
  refine mOk.iconst (x := nI 0) dX9_seam_116 (by decide) ?_
  refine mOk.istore6 dX9_seam_117 (by decide) rfl ?_
  refine l_seam2 (xs := ruleF T r (tx u)) (ys := ruleF T r (tx t ++ tx u)) hle hR8 hK8 ?_ (ruleF T r (tx u)).length 0 (Nat.zero_add _) (Nat.zero_le _) (fun j hj => absurd hj (Nat.not_lt_zero j))
  have eB : min (cpl (ruleF T r (tx t ++ tx u)).reverse (ruleF T r (tx u)).reverse) ((ruleF T r (tx t ++ tx u)).length - smA T r (tx t) (tx u)) = smB T r (tx t) (tx u) := rfl
  rw [eB]
  have hle3 : smB T r (tx t) (tx u) ≤ (ruleF T r (tx t ++ tx u)).length - smA T r (tx t) (tx u) := Nat.min_le_right _ _
  rcases (show w = 0 ∨ w = 1 ∨ w = 2 by omega) with rfl | rfl | rfl
  · refine mOk.iload4 dX9_seam_177 ?_
    refine mOk.ifne (tgt := 187) dX9_seam_179 (by decide) (fun c179 => absurd (rfl) c179) (fun c179 => ?_)
    refine mOk.iload5 dX9_seam_182 ?_
    refine mOk.goto (tgt := 208) dX9_seam_184 (by decide) ?_
    refine mOk.iret dX9_seam_208 rfl hq
  · refine mOk.iload4 dX9_seam_177 ?_
    refine mOk.ifne (tgt := 187) dX9_seam_179 (by decide) (fun c179 => ?_) (fun c179 => absurd c179 ((by decide)))
    refine mOk.iload4 dX9_seam_187 ?_
    refine mOk.iconst (x := nI 1) dX9_seam_189 (by decide) ?_
    refine mOk.icne (tgt := 198) dX9_seam_190 (by decide) (fun c190 => absurd (rfl) c190) (fun c190 => ?_)
    refine mOk.iload6 dX9_seam_193 ?_
    refine mOk.goto (tgt := 208) dX9_seam_195 (by decide) ?_
    refine mOk.iret dX9_seam_208 rfl hq
  · refine mOk.iload4 dX9_seam_177 ?_
    refine mOk.ifne (tgt := 187) dX9_seam_179 (by decide) (fun c179 => ?_) (fun c179 => absurd c179 ((by decide)))
    refine mOk.iload4 dX9_seam_187 ?_
    refine mOk.iconst (x := nI 1) dX9_seam_189 (by decide) ?_
    refine mOk.icne (tgt := 198) dX9_seam_190 (by decide) (fun c190 => ?_) (fun c190 => absurd c190 ((by decide)))
    refine mOk.aload0n dX9_seam_198 rfl ?_
    refine mOk.getIv dX9_seam_199 fl_X9_202 (by first | assumption | rfl) hK8.2.1 ?_
    refine mOk.iload5 dX9_seam_202 ?_
    refine mOk.isub dX9_seam_204 ?_
    refine mOk.top ((pk_sub hle)) ?_
    refine mOk.iload6 dX9_seam_205 ?_
    refine mOk.isub dX9_seam_207 ?_
    refine mOk.top ((pk_sub hle3)) ?_
    refine mOk.iret dX9_seam_208 rfl hq
theorem l_stands {c : Int32} {s : Nat} (hM : Md I T) (hR : Ro I xs) (hc : okC T c) (hs : s + (tP T c).length ≤ xs.length) (h1 : stn (tP T c) xs s → Q (some (.int 1)) (hS sw I J)) (h0 : ¬ stn (tP T c) xs s → Q (some (.int 0)) (hS sw I J)) :
    ∀ (m k : Nat), k + m = (tP T c).length → (∀ j, j < k → xs.getD (s + j) (-9) = (tP T c).getD j (-9)) → mOk mX9_stands 0 0 0 24 [some (.ref 97), some (.int c), some (.int (nI s)), some (.int 1), some (.int (nI k))] [] (hS sw I J) 0 0 Q := by
  have hl := hR.1
  have hl24 := hM.1
  have hp4 := hM.P4 c
  obtain ⟨j, hj, e⟩ := hc
  intro m
  induction m with
  | zero =>
    intro k hk hjk
    refine mOk.iload4 dX9_stands_24 ?_
    refine mOk.aload0n dX9_stands_26 rfl ?_
    refine mOk.getR dX9_stands_27 fl_X9_22 (by first | assumption | rfl) (by first | assumption | rfl) ?_
    refine mOk.iload1n dX9_stands_30 rfl ?_
    refine mOk.ialdv (j := j) dX9_stands_31 (by first | assumption | rfl) e (by omega) (by first | assumption | decide | omega) (hM.P e hj) ?_
    refine mOk.icge (tgt := 74) dX9_stands_32 (by decide) (fun c32 => ?_) (fun c32 => absurd ((nI_le' (by omega) (by omega)).mpr (by omega)) c32)
    refine mOk.iload3n dX9_stands_74 rfl ?_
    refine mOk.zret dX9_stands_75 rfl (by decide) ?_
    exact h1 (fun i hi => ⟨by omega, hjk i (by omega)⟩)
  | succ m ih =>
    intro k hk hjk
    have hkl : k < (tP T c).length := by omega
    refine mOk.iload4 dX9_stands_24 ?_
    refine mOk.aload0n dX9_stands_26 rfl ?_
    refine mOk.getR dX9_stands_27 fl_X9_22 (by first | assumption | rfl) (by first | assumption | rfl) ?_
    refine mOk.iload1n dX9_stands_30 rfl ?_
    refine mOk.ialdv (j := j) dX9_stands_31 (by first | assumption | rfl) e (by omega) (by first | assumption | decide | omega) (hM.P e hj) ?_
    refine mOk.icge (tgt := 74) dX9_stands_32 (by decide) (fun c32 => absurd c32 (mt (nI_le' (by omega) (by omega)).mp (by omega))) (fun c32 => ?_)
    refine mOk.iload3n dX9_stands_35 rfl ?_
    refine mOk.ifeq (tgt := 74) dX9_stands_36 (by decide) (fun c36 => absurd c36 ((by decide))) (fun c36 => ?_)
    refine mOk.aload0n dX9_stands_39 rfl ?_
    refine mOk.getR dX9_stands_40 fl_X9_46 (by first | assumption | rfl) (by first | assumption | rfl) ?_
    refine mOk.iload2n dX9_stands_43 rfl ?_
    refine mOk.iload4 dX9_stands_44 ?_
    refine mOk.iadd dX9_stands_46 ?_
    refine mOk.top ((nI_add _ _)) ?_
    refine mOk.ialdv dX9_stands_47 (by first | assumption | rfl) rfl (by omega) (by first | assumption | decide | omega) (hR.at (by omega)) ?_
    refine mOk.aload0n dX9_stands_48 rfl ?_
    refine mOk.getR dX9_stands_49 fl_X9_25 (by first | assumption | rfl) (by first | assumption | rfl) ?_
    refine mOk.iconst (x := nI 4) dX9_stands_52 (by decide) ?_
    refine mOk.iload1n dX9_stands_53 rfl ?_
    refine mOk.imul dX9_stands_54 ?_
    refine mOk.iload4 dX9_stands_55 ?_
    refine mOk.iadd dX9_stands_57 ?_
    refine mOk.ialdv (j := 4 * j + k) dX9_stands_58 (by first | assumption | rfl) (by rw [e, pk_mul, nI_add]) (by omega) (by first | assumption | decide | omega) (hM.p e hj hkl) ?_
    refine mOk.icne (tgt := 66) dX9_stands_59 (by decide) (fun c59 => ?_) (fun c59 => ?_)
    · have hn : ¬ stn (tP T c) xs s := fun z => c59 (z k hkl).2
      refine mOk.iconst (x := 0) dX9_stands_66 (by decide) ?_
      refine mOk.istore3n dX9_stands_67 rfl (by decide) rfl ?_
      refine mOk.iinc4 dX9_stands_68 (mOk.inc1 rfl) (by decide) rfl ?_
      refine mOk.goto (tgt := 24) dX9_stands_71 (by decide) ?_
      by_cases w : k + 1 < (tP T c).length
      · refine mOk.iload4 dX9_stands_24 ?_
        refine mOk.aload0n dX9_stands_26 rfl ?_
        refine mOk.getR dX9_stands_27 fl_X9_22 (by first | assumption | rfl) (by first | assumption | rfl) ?_
        refine mOk.iload1n dX9_stands_30 rfl ?_
        refine mOk.ialdv (j := j) dX9_stands_31 (by first | assumption | rfl) e (by omega) (by first | assumption | decide | omega) (hM.P e hj) ?_
        refine mOk.icge (tgt := 74) dX9_stands_32 (by decide) (fun c32 => absurd c32 (mt (nI_le' (by omega) (by omega)).mp (by omega))) (fun c32 => ?_)
        refine mOk.iload3n dX9_stands_35 rfl ?_
        refine mOk.ifeq (tgt := 74) dX9_stands_36 (by decide) (fun c36 => ?_) (fun c36 => absurd (rfl) c36)
        refine mOk.iload3n dX9_stands_74 rfl ?_
        refine mOk.zret dX9_stands_75 rfl (by decide) ?_
        exact h0 hn
      · refine mOk.iload4 dX9_stands_24 ?_
        refine mOk.aload0n dX9_stands_26 rfl ?_
        refine mOk.getR dX9_stands_27 fl_X9_22 (by first | assumption | rfl) (by first | assumption | rfl) ?_
        refine mOk.iload1n dX9_stands_30 rfl ?_
        refine mOk.ialdv (j := j) dX9_stands_31 (by first | assumption | rfl) e (by omega) (by first | assumption | decide | omega) (hM.P e hj) ?_
        refine mOk.icge (tgt := 74) dX9_stands_32 (by decide) (fun c32 => ?_) (fun c32 => absurd ((nI_le' (by omega) (by omega)).mpr (by omega)) c32)
        refine mOk.iload3n dX9_stands_74 rfl ?_
        refine mOk.zret dX9_stands_75 rfl (by decide) ?_
        exact h0 hn
    · refine mOk.iconst (x := 1) dX9_stands_62 (by decide) ?_
      refine mOk.goto (tgt := 67) dX9_stands_63 (by decide) ?_
      refine mOk.istore3n dX9_stands_67 rfl (by decide) rfl ?_
      refine mOk.iinc4 dX9_stands_68 (mOk.inc1 rfl) (by decide) rfl ?_
      refine mOk.goto (tgt := 24) dX9_stands_71 (by decide) ?_
      refine ih (k + 1) (by omega) (fun i hi => ?_)
      rcases Nat.lt_or_ge i k with z | z
      · exact hjk i z
      · rw [show i = k by omega]
        exact c59
theorem c_stands {c : Int32} {s : Nat} (hT : TOk T) (hM : Md I T) (hR : Ro I xs) (hc : okC T c) (hs : s ≤ xs.length) (h1 : stn (tP T c) xs s → Q (some (.int 1)) (hS sw I J)) (h0 : ¬ stn (tP T c) xs s → Q (some (.int 0)) (hS sw I J)) : mCl mX9_stands 0 0 0 [.ref 97, .int c, .int (nI s)] (hS sw I J) Q := by
  have hl := hR.1
  have hl24 := hM.1
  have hp4 := hM.P4 c
  have hp0 := (hT.all c hc).2.2.1
  obtain ⟨j, hj, e⟩ := id hc
  refine mCl.of (by decide) rfl (Nat.le_of_ble_eq_true rfl) ?_
  show mOk _ _ _ _ _ [some (.ref 97), some (.int c), some (.int (nI s)), none, none] _ _ _ _ _
  by_cases z : s + (tP T c).length ≤ xs.length
  · refine mOk.iload2n dX9_stands_0 rfl ?_
    refine mOk.aload0n dX9_stands_1 rfl ?_
    refine mOk.getR dX9_stands_2 fl_X9_22 (by first | assumption | rfl) (by first | assumption | rfl) ?_
    refine mOk.iload1n dX9_stands_5 rfl ?_
    refine mOk.ialdv (j := j) dX9_stands_6 (by first | assumption | rfl) e (by omega) (by first | assumption | decide | omega) (hM.P e hj) ?_
    refine mOk.iadd dX9_stands_7 ?_
    refine mOk.top ((nI_add _ _)) ?_
    refine mOk.aload0n dX9_stands_8 rfl ?_
    refine mOk.getIv dX9_stands_9 fl_X9_157 (by first | assumption | rfl) hR.2.1 ?_
    refine mOk.icgt (tgt := 19) dX9_stands_12 (by decide) (fun c12 => absurd c12 (mt (nI_lt' (by omega) (by omega)).mp (by omega))) (fun c12 => ?_)
    refine mOk.iconst (x := 1) dX9_stands_15 (by decide) ?_
    refine mOk.goto (tgt := 20) dX9_stands_16 (by decide) ?_
    refine mOk.istore3n dX9_stands_20 rfl (by decide) rfl ?_
    refine mOk.iconst (x := nI 0) dX9_stands_21 (by decide) ?_
    refine mOk.istore4 dX9_stands_22 (by decide) rfl ?_
    exact l_stands hM hR hc z h1 h0 (tP T c).length 0 (Nat.zero_add _) (fun i hi => absurd hi (Nat.not_lt_zero i))
  · have hn : ¬ stn (tP T c) xs s := fun w => by have := (w ((tP T c).length - 1) (by omega)).1; omega
    refine mOk.iload2n dX9_stands_0 rfl ?_
    refine mOk.aload0n dX9_stands_1 rfl ?_
    refine mOk.getR dX9_stands_2 fl_X9_22 (by first | assumption | rfl) (by first | assumption | rfl) ?_
    refine mOk.iload1n dX9_stands_5 rfl ?_
    refine mOk.ialdv (j := j) dX9_stands_6 (by first | assumption | rfl) e (by omega) (by first | assumption | decide | omega) (hM.P e hj) ?_
    refine mOk.iadd dX9_stands_7 ?_
    refine mOk.top ((nI_add _ _)) ?_
    refine mOk.aload0n dX9_stands_8 rfl ?_
    refine mOk.getIv dX9_stands_9 fl_X9_157 (by first | assumption | rfl) hR.2.1 ?_
    refine mOk.icgt (tgt := 19) dX9_stands_12 (by decide) (fun c12 => ?_) (fun c12 => absurd ((nI_lt' (by omega) (by omega)).mpr (by omega)) c12)
    refine mOk.iconst (x := 0) dX9_stands_19 (by decide) ?_
    refine mOk.istore3n dX9_stands_20 rfl (by decide) rfl ?_
    refine mOk.iconst (x := nI 0) dX9_stands_21 (by decide) ?_
    refine mOk.istore4 dX9_stands_22 (by decide) rfl ?_
    refine mOk.iload4 dX9_stands_24 ?_
    refine mOk.aload0n dX9_stands_26 rfl ?_
    refine mOk.getR dX9_stands_27 fl_X9_22 (by first | assumption | rfl) (by first | assumption | rfl) ?_
    refine mOk.iload1n dX9_stands_30 rfl ?_
    refine mOk.ialdv (j := j) dX9_stands_31 (by first | assumption | rfl) e (by omega) (by first | assumption | decide | omega) (hM.P e hj) ?_
    refine mOk.icge (tgt := 74) dX9_stands_32 (by decide) (fun c32 => absurd c32 (mt (nI_le' (by omega) (by omega)).mp (by omega))) (fun c32 => ?_)
    refine mOk.iload3n dX9_stands_35 rfl ?_
    refine mOk.ifeq (tgt := 74) dX9_stands_36 (by decide) (fun c36 => ?_) (fun c36 => absurd (rfl) c36)
    refine mOk.iload3n dX9_stands_74 rfl ?_
    refine mOk.zret dX9_stands_75 rfl (by decide) ?_
    exact h0 hn
def tmL (N : Nat → Nat) (L a : Nat) (t : Tl) : Nat := if t.1 ≤ L - a ∧ t.2 a = true then N (a + t.1) else 0
theorem l_sp2 {t a : Nat} (hT : TOk T) (hM : Md I T) (hR : Ro I xs) (h64 : xs.length ≤ 64) (ha : a < xs.length) {N : Nat → Nat} (kk : ∀ J', J' 113 a = lN (sat (sm (tmL N xs.length a) (tiles T xs))) → (∀ k, a < k → J' 113 k = J 113 k) → ∀ l4 l5, mOk mX9_spellings 3 0 0 130 [some (.ref 97), some (.int (nI t)), some (.int (nI a)), some (.int (nI T.length)), l4, l5] [] (hS sw I J') 0 0 Q) (hN : ∀ k, a < k → k ≤ xs.length → J 113 k = lN (sat (N k))) :
    ∀ (m j : Nat) (J' : Nat → Nat → Int64) (l4 l5 : Option Value), j + m = T.length → J' 113 a = lN (sat (sm (tmL N xs.length a) ((tiles T xs).take j))) → (∀ k, a < k → J' 113 k = J 113 k) → mOk mX9_spellings 3 0 0 51 [some (.ref 97), some (.int (nI t)), some (.int (nI a)), some (.int (nI j)), l4, l5] [] (hS sw I J') 0 0 Q := by
  have hl24 := hM.1
  intro m
  induction m with
  | zero =>
    intro j J' l4 l5 hj hJ ho
    rw [List.take_of_length_le (by simp [tiles]; omega)] at hJ
    refine mOk.iload3n dX9_spellings_51 rfl ?_
    refine mOk.aload0n dX9_spellings_52 rfl ?_
    refine mOk.getIv dX9_spellings_53 fl_X9_62 (by first | assumption | rfl) hM.2.1 ?_
    refine mOk.icge (tgt := 130) dX9_spellings_56 (by decide) (fun c56 => ?_) (fun c56 => absurd ((nI_le' (by omega) (by omega)).mpr (by omega)) c56)
    rw [show j = T.length by omega]
    exact kk J' hJ ho _ _
  | succ m ih =>
    intro j J' l4 l5 hj hJ ho
    have hjl : j < T.length := by omega
    have hok : okC T (nI j) := ⟨j, hjl, rfl⟩
    have hp0 := (hT.all _ hok).2.2.1
    have hp4 := hM.P4 (nI j)
    have hstep : sm (tmL N xs.length a) ((tiles T xs).take (j + 1)) = sm (tmL N xs.length a) ((tiles T xs).take j) + tmL N xs.length a (tile T xs j) := by
      rw [tiles_take hjl, sm_app, sm, sm, Nat.add_zero]
    have eMO : (1000000000000000000 : Int64) = lN MO := by decide
    have add : ∀ b : Nat, tmL N xs.length a (tile T xs j) = b → mOk mX9_spellings 3 0 0 85 [some (.ref 97), some (.int (nI t)), some (.int (nI a)), some (.int (nI j)), l4, l5] [.long (lN (sat b))] (hS sw I J') 0 0 Q := by
      intro b hb
      rw [hb] at hstep
      have hs1 := sat_le (sm (tmL N xs.length a) ((tiles T xs).take j))
      have hs2 := sat_le b
      have hMO : MO = 1000000000000000000 := rfl
      have last : ∀ s : Nat, s = sat (sm (tmL N xs.length a) ((tiles T xs).take (j + 1))) → mOk mX9_spellings 3 0 0 123 [some (.ref 97), some (.int (nI t)), some (.int (nI a)), some (.int (nI j)), some (.long (lN (sat b))), none] [.long (lN s), .int (nI a), .ref 113] (hS sw I J') 0 0 Q := by
        intro s hs
        refine mOk.lastt dX9_spellings_123 (by first | assumption | rfl) rfl (by omega) (by first | assumption | decide | omega) ?_
        refine mOk.iinc3 dX9_spellings_124 (mOk.inc1 rfl) (by decide) rfl ?_
        refine mOk.goto (tgt := 51) dX9_spellings_127 (by decide) ?_
        refine ih (j + 1) _ _ _ (by omega) (by rw [wJ_s, hs]) (fun k hk => by rw [wJ_j (by omega)]; exact ho k hk)
      refine mOk.lstore4 dX9_spellings_85 (by decide) rfl ?_
      refine mOk.aload0n dX9_spellings_87 rfl ?_
      refine mOk.getR dX9_spellings_88 fl_X9_55 (by first | assumption | rfl) (by first | assumption | rfl) ?_
      refine mOk.iload2n dX9_spellings_91 rfl ?_
      refine mOk.aload0n dX9_spellings_92 rfl ?_
      refine mOk.getR dX9_spellings_93 fl_X9_55 (by first | assumption | rfl) (by first | assumption | rfl) ?_
      refine mOk.iload2n dX9_spellings_96 rfl ?_
      refine mOk.laldv dX9_spellings_97 (by first | assumption | rfl) rfl (by omega) (by first | assumption | decide | omega) hJ ?_
      refine mOk.lload4 dX9_spellings_98 ?_
      refine mOk.ladd dX9_spellings_100 ?_
      refine mOk.topl (lN_add _ _) ?_
      refine mOk.ldc2 dX9_spellings_101 cl_X9_222 ?_
      refine mOk.lcmp dX9_spellings_104 ?_
      refine mOk.ifle (tgt := 114) dX9_spellings_105 (by decide) (fun c105 => ?_) (fun c105 => ?_)
      · rw [lg_cmp_le, eMO, pk_lLE (by omega) (by omega)] at c105
        refine mOk.aload0n dX9_spellings_114 rfl ?_
        refine mOk.getR dX9_spellings_115 fl_X9_55 (by first | assumption | rfl) (by first | assumption | rfl) ?_
        refine mOk.iload2n dX9_spellings_118 rfl ?_
        refine mOk.laldv dX9_spellings_119 (by first | assumption | rfl) rfl (by omega) (by first | assumption | decide | omega) hJ ?_
        refine mOk.lload4 dX9_spellings_120 ?_
        refine mOk.ladd dX9_spellings_122 ?_
        refine mOk.topl (lN_add _ _) ?_
        refine last _ ?_
        rw [hstep, ← sat_add]
        unfold sat at c105 ⊢
        omega
      · rw [lg_cmp_le, eMO, pk_lLE (by omega) (by omega)] at c105
        refine mOk.ldc2 dX9_spellings_108 cl_X9_222 ?_
        refine mOk.goto (tgt := 123) dX9_spellings_111 (by decide) ?_
        rw [eMO]
        refine last _ ?_
        rw [hstep, ← sat_add]
        unfold sat at c105 ⊢
        omega
    refine mOk.iload3n dX9_spellings_51 rfl ?_
    refine mOk.aload0n dX9_spellings_52 rfl ?_
    refine mOk.getIv dX9_spellings_53 fl_X9_62 (by first | assumption | rfl) hM.2.1 ?_
    refine mOk.icge (tgt := 130) dX9_spellings_56 (by decide) (fun c56 => absurd c56 (mt (nI_le' (by omega) (by omega)).mp (by omega))) (fun c56 => ?_)
    refine mOk.aload0n dX9_spellings_59 rfl ?_
    refine mOk.iload3n dX9_spellings_60 rfl ?_
    refine mOk.iload2n dX9_spellings_61 rfl ?_
    refine mOk.callV2 (M' := mX9_stands) dX9_spellings_62 ml_X9_219 ke_X9_stands (by first | assumption | rfl) (by decide) (by decide) (by simp [Value.category]) (c_stands hT hM hR hok (by omega) (fun hst => ?_) (fun hst => ?_))
    · have hle : a + (tP T (nI j)).length ≤ xs.length := by have := (hst ((tP T (nI j)).length - 1) (by omega)).1; omega
      have hterm : tmL N xs.length a (tile T xs j) = N (a + (tP T (nI j)).length) := if_pos ⟨by show (tP T (nI j)).length ≤ _; omega, stnB_iff.mpr hst⟩
      refine mOk.ifeq (tgt := 84) dX9_spellings_65 (by decide) (fun c65 => absurd c65 ((by decide))) (fun c65 => ?_)
      refine mOk.aload0n dX9_spellings_68 rfl ?_
      refine mOk.getR dX9_spellings_69 fl_X9_55 (by first | assumption | rfl) (by first | assumption | rfl) ?_
      refine mOk.iload2n dX9_spellings_72 rfl ?_
      refine mOk.aload0n dX9_spellings_73 rfl ?_
      refine mOk.getR dX9_spellings_74 fl_X9_22 (by first | assumption | rfl) (by first | assumption | rfl) ?_
      refine mOk.iload3n dX9_spellings_77 rfl ?_
      refine mOk.ialdv dX9_spellings_78 (by first | assumption | rfl) rfl (by omega) (by first | assumption | decide | omega) (hM.P rfl hjl) ?_
      refine mOk.iadd dX9_spellings_79 ?_
      refine mOk.top ((nI_add _ _)) ?_
      refine mOk.laldv dX9_spellings_80 (by first | assumption | rfl) rfl (by omega) (by first | assumption | decide | omega) ((ho _ (by omega)).trans (hN _ (by omega) hle)) ?_
      refine mOk.goto (tgt := 85) dX9_spellings_81 (by decide) ?_
      exact add _ hterm
    · have hterm : tmL N xs.length a (tile T xs j) = 0 := if_neg (fun z => hst (stnB_iff.mp z.2))
      refine mOk.ifeq (tgt := 84) dX9_spellings_65 (by decide) (fun c65 => ?_) (fun c65 => absurd (rfl) c65)
      refine mOk.lconst (x := (lN (sat 0))) dX9_spellings_84 (by decide) ?_
      exact add 0 hterm
theorem l_sp1 {t : Nat} (hT : TOk T) (hM : Md I T) (hR : Ro I xs) (h64 : xs.length ≤ 64) {N : Nat → Nat} (hN : ∀ a, a < xs.length → N a = sm (tmL N xs.length a) (tiles T xs)) (hQ : ∀ J', Q (some (.long (lN (sat (N 0))))) (hS sw I J')) :
    ∀ (a : Nat) (J : Nat → Nat → Int64) (l3 l4 l5 : Option Value), a ≤ xs.length → (∀ k, a ≤ k → k ≤ xs.length → J 113 k = lN (sat (N k))) → mi_s [none, none, none, l3] 4 = true → mOk mX9_spellings 3 0 0 38 [some (.ref 97), some (.int (nI t)), some (.int (nI a - nI 1)), l3, l4, l5] [] (hS sw I J) 0 0 Q := by
  intro a
  induction a with
  | zero =>
    intro J l3 l4 l5 ha hJ h3
    refine mOk.iload2n dX9_spellings_38 rfl ?_
    refine mOk.iflt (tgt := 136) dX9_spellings_39 (by decide) (fun c39 => ?_) (fun c39 => absurd ((by decide)) c39)
    refine mOk.aload0n dX9_spellings_136 rfl ?_
    refine mOk.getR dX9_spellings_137 fl_X9_55 (by first | assumption | rfl) (by first | assumption | rfl) ?_
    refine mOk.iconst (x := nI 0) dX9_spellings_140 (by decide) ?_
    refine mOk.laldv (j := 0) dX9_spellings_141 (by first | assumption | rfl) rfl (by omega) (by first | assumption | decide | omega) (hJ 0 (Nat.le_refl _) (Nat.zero_le _)) ?_
    refine mOk.lret dX9_spellings_142 rfl ?_
    exact hQ J
  | succ a ih =>
    intro J l3 l4 l5 ha hJ h3
    rw [show nI (a + 1) - nI 1 = nI a from nI_pred a]
    refine mOk.iload2n dX9_spellings_38 rfl ?_
    refine mOk.iflt (tgt := 136) dX9_spellings_39 (by decide) (fun c39 => absurd c39 (nI_neg' (by omega))) (fun c39 => ?_)
    refine mOk.aload0n dX9_spellings_42 rfl ?_
    refine mOk.getR dX9_spellings_43 fl_X9_55 (by first | assumption | rfl) (by first | assumption | rfl) ?_
    refine mOk.iload2n dX9_spellings_46 rfl ?_
    refine mOk.lconst (x := (lN (sat 0))) dX9_spellings_47 (by decide) ?_
    refine mOk.lastt dX9_spellings_48 (by first | assumption | rfl) rfl (by omega) (by first | assumption | decide | omega) ?_
    refine mOk.iconst (x := nI 0) dX9_spellings_49 (by decide) ?_
    refine mOk.istore3n dX9_spellings_50 rfl (by decide) rfl ?_
    refine l_sp2 (J := wJ J 113 a (lN (sat 0))) (N := N) hT hM hR h64 (by omega) (fun J' h1 h2 l4 l5 => ?_) (fun k hk hk2 => by rw [wJ_j (by omega)]; exact hJ k (by omega) hk2) T.length 0 _ _ _ (Nat.zero_add _) (wJ_s _ _ _ _) (fun k hk => rfl)
    refine mOk.iinc2 (y := (nI a - nI 1)) dX9_spellings_130 (dec1 (nI a)) (by decide) rfl ?_
    refine mOk.goto (tgt := 38) dX9_spellings_133 (by decide) ?_
    refine ih J' _ _ _ (by omega) (fun k hk hk2 => ?_) rfl
    rcases Nat.lt_or_ge a k with z | z
    · rw [h2 k z, wJ_j (by omega)]
      exact hJ k (by omega) hk2
    · rw [show k = a by omega, h1, hN a (by omega)]
theorem M_spell_out {t : Int32} (ht : t < 0 ∨ nI 4 ≤ t) (hQ : Q (some (.long (-1))) (hS sw I J)) : mCl mX9_spellings 3 0 0 [.ref 97, .int t] (hS sw I J) Q := by
  refine mCl.of (by decide) rfl (Nat.le_of_ble_eq_true rfl) ?_
  show mOk _ _ _ _ _ [some (.ref 97), some (.int t), none, none, none, none] _ _ _ _ _
  refine mOk.iload1n dX9_spellings_0 rfl ?_
  refine mOk.callS1 (M' := mX9_isText) dX9_spellings_1 ml_X9_147 ke_X9_isText rfl (by decide) (by decide) (by simp [Value.category]) (c_isText_n ht ?_)
  refine mOk.ifne (tgt := 11) dX9_spellings_4 (by decide) (fun c4 => absurd (rfl) c4) (fun c4 => ?_)
  refine mOk.ldc2 dX9_spellings_7 cl_X9_217 ?_
  refine mOk.lret dX9_spellings_10 rfl hQ
theorem M_spell_in {t : Nat} (h : InvM I bs T tx pp hs im) (hs' : SOk bs T tx pp hs im) (ht : t < 4) (hQ : ∀ I' J', InvM I' bs T tx pp hs im → Of FW SW I I' → Q (some (.long (lN (sat (spell T (apart T (tx t))))))) (hS sw I' J')) : mCl mX9_spellings 3 0 0 [.ref 97, .int (nI t)] (hS sw I J) Q := by
  have hT := hs'.2.1
  have hx := hs'.2.2.1 t ht
  have hp := pcs_le4 hT hx.1
  have hal := apart_len T (tx t)
  have h1 := tiles_1 hT (apart T (tx t))
  refine mCl.of (by decide) rfl (Nat.le_of_ble_eq_true rfl) ?_
  show mOk _ _ _ _ _ [some (.ref 97), some (.int (nI t)), none, none, none, none] _ _ _ _ _
  refine mOk.iload1n dX9_spellings_0 rfl ?_
  refine mOk.callS1 (M' := mX9_isText) dX9_spellings_1 ml_X9_147 ke_X9_isText rfl (by decide) (by decide) (by simp [Value.category]) (c_isText_y ht ?_)
  refine mOk.ifne (tgt := 11) dX9_spellings_4 (by decide) (fun c4 => ?_) (fun c4 => absurd c4 ((by decide)))
  refine mOk.aload0n dX9_spellings_11 rfl ?_
  refine mOk.iload1n dX9_spellings_12 rfl ?_
  refine mOk.callV1 (M' := mX9_comeOut) dX9_spellings_13 ml_X9_193 ke_X9_comeOut (by first | assumption | rfl) (by decide) (by decide) (by simp [Value.category]) (c_comeOut ht h.2.2.1 ?_)
  intro I1 hR1 ho1
  refine mOk.aload0n dX9_spellings_16 rfl ?_
  refine mOk.iconst (x := nI 0) dX9_spellings_17 (by decide) ?_
  refine mOk.callV1 (M' := mX9_rules) dX9_spellings_18 ml_X9_196 ke_X9_rules (by first | assumption | rfl) (by decide) (by decide) (by simp [Value.category]) (c_rules (r := 0) (by omega) hT (h.1.of ho1 (by decide) (by decide)) hR1 hx.1 (by omega) ?_)
  intro I2 hM2 hR2 ho2
  have hR2' : Ro I2 (apart T (tx t)) := hR2
  have o : Of FW SW I I2 := (ho1.up (by decide) (by decide)).tr (ho2.up (by decide) (by decide))
  have hsp : spell T (apart T (tx t)) = tL (tiles T (apart T (tx t))) (apart T (tx t)).length 0 (apart T (tx t)).length := tRL h1 _ _ 0 _ rfl (Nat.zero_le _) (by omega)
  rw [hsp] at hQ
  refine mOk.aload0n dX9_spellings_21 rfl ?_
  refine mOk.getR dX9_spellings_22 fl_X9_55 (by first | assumption | rfl) (by first | assumption | rfl) ?_
  refine mOk.aload0n dX9_spellings_25 rfl ?_
  refine mOk.getIv dX9_spellings_26 fl_X9_157 (by first | assumption | rfl) hR2'.2.1 ?_
  refine mOk.lconst (x := 1) dX9_spellings_29 (by decide) ?_
  refine mOk.lastt dX9_spellings_30 (by first | assumption | rfl) rfl (by omega) (by first | assumption | decide | omega) ?_
  refine mOk.aload0n dX9_spellings_31 rfl ?_
  refine mOk.getIv dX9_spellings_32 fl_X9_157 (by first | assumption | rfl) hR2'.2.1 ?_
  refine mOk.iconst (x := nI 1) dX9_spellings_35 (by decide) ?_
  refine mOk.isub dX9_spellings_36 ?_
  refine mOk.istore2n dX9_spellings_37 rfl (by decide) rfl ?_
  refine l_sp1 (xs := apart T (tx t)) (N := fun a => tL (tiles T (apart T (tx t))) (apart T (tx t)).length a (apart T (tx t)).length) hT hM2 hR2' (by omega) (fun a ha => ?_) (fun J' => hQ I2 J' (h.w o) o) (apart T (tx t)).length _ none none none (Nat.le_refl _) (fun k hk hk2 => ?_) rfl
  · show tL _ _ a _ = _
    rw [tL_step h1 ha (by omega)]
    rfl
  · rw [show k = (apart T (tx t)).length by omega, wJ_s]
    show (1 : Int64) = lN (sat (tL _ _ _ _))
    rw [tL_eq]
    decide
end MODEL14
