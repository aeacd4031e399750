/-! ===== the reference: a code comes; code, pair ===== -/
theorem getD_out {xs : List Int32} {j : Nat} (h : xs.length ≤ j) : xs.getD j (-9) = -9 := by
  rw [List.getD_eq_getElem?_getD, List.getElem?_eq_none h]
  rfl
section MODEL2
variable {sw : Bool} {I : Nat → Nat → Int32} {J : Nat → Nat → Int64} {Q : Option Value → mi_H → Prop} {T : List CR}
theorem Pm.done {q : CR} (h : Pm I T q) : Md (wI I 97 0 (nI (T.length + 1))) (T ++ [q]) := by
  obtain ⟨hc, hn, e1, e2, e3, e4, e5, e6, e7⟩ := h
  refine ⟨by simp; omega, by rw [wI_s]; simp, fun j q' hq => ?_⟩
  rw [wI_c (by decide), wI_c (by decide), wI_c (by decide), wI_c (by decide), wI_c (by decide), wI_c (by decide)]
  rcases Nat.lt_or_ge j T.length with z | z
  · rw [List.getElem?_append_left z] at hq
    exact hc.2.2 j q' hq
  · rw [List.getElem?_append_right z] at hq
    have hz : j - T.length < 1 := (List.getElem?_eq_some_iff.mp hq).1
    rw [show j = T.length by omega] at hq ⊢
    simp at hq
    subst hq
    exact ⟨e1, e2, e3, e4, e5, e6, e7⟩
theorem l_comes {I0 : Nat → Nat → Int32} {kd cl a b : Int32} (hT : TOk T) (hl : T.length < 24) (hok : okR T (addR T kd cl a b)) (hQ : ∀ I', Md I' (T ++ [addR T kd cl a b]) → Of [0] [98, 99, 100, 101, 102, 103] I0 I' → Q none (hS sw I' J)) {l6 : Option Value} :
    ∀ (I : Nat → Nat → Int32), Pm I T (addR T kd cl a b) → Of [0] [98, 99, 100, 101, 102, 103] I0 I → mOk mX9_comes 1 0 0 112 [some (.ref 97), some (.int kd), some (.int cl), some (.int a), some (.int b), some (.int (nI T.length)), l6] [] (hS sw I J) 0 0 Q := by
  intro I hp ho
  refine mOk.aload0n dX9_comes_112 rfl ?_
  refine mOk.dup dX9_comes_113 rfl ?_
  refine mOk.getIv dX9_comes_114 fl_X9_62 (by first | assumption | rfl) hp.1.2.1 ?_
  refine mOk.iconst (x := nI 1) dX9_comes_117 (by decide) ?_
  refine mOk.iadd dX9_comes_118 ?_
  refine mOk.top ((nI_add _ _)) ?_
  refine mOk.putIt dX9_comes_119 fl_X9_62 (by first | assumption | rfl) ?_
  refine mOk.vret dX9_comes_122 rfl (by decide) ?_
  exact hQ _ hp.done (ho.tr (Of.f (by decide)))
theorem l_comes2 {I0 : Nat → Nat → Int32} {kd cl a b : Int32} (hT : TOk T) (hl : T.length < 24) (hok : okR T (addR T kd cl a b)) (ha : okC T a) (hkd : (kd = 1 ∨ kd = 2) ∨ (kd = 3 ∧ b = -9)) (hQ : ∀ I', Md I' (T ++ [addR T kd cl a b]) → Of [0] [98, 99, 100, 101, 102, 103] I0 I' → Q none (hS sw I' J)) :
    ∀ (m k : Nat) (I : Nat → Nat → Int32), k + m = (tP T a).length → Pm I T (kd, cl, a, b, (tP T a).take k) → Of [0] [98, 99, 100, 101, 102, 103] I0 I → mOk mX9_comes 1 0 0 65 [some (.ref 97), some (.int kd), some (.int cl), some (.int a), some (.int b), some (.int (nI T.length)), some (.int (nI k))] [] (hS sw I J) 0 0 Q := by
  obtain ⟨j, hj, e⟩ := ha
  have h4 := okR_le4 hT hl hok
  have hk0 : ¬ kd = 0 := by rcases hkd with (rfl | rfl) | ⟨rfl, -⟩ <;> decide
  intro m
  induction m with
  | zero =>
    intro k I hk hp ho
    have hp4 := hp.1.P4 a
    rw [List.take_of_length_le (by omega)] at hp
    refine mOk.iload6 dX9_comes_65 ?_
    refine mOk.aload0n dX9_comes_67 rfl ?_
    refine mOk.getR dX9_comes_68 fl_X9_22 (by first | assumption | rfl) (by first | assumption | rfl) ?_
    refine mOk.iload3n dX9_comes_71 rfl ?_
    refine mOk.ialdv (j := j) dX9_comes_72 (by first | assumption | rfl) e (by omega) (by first | assumption | decide | omega) (hp.1.P e hj) ?_
    refine mOk.icge (tgt := 99) dX9_comes_73 (by decide) (fun c73 => ?_) (fun c73 => absurd ((nI_le' (by omega) (by omega)).mpr (by omega)) c73)
    rcases okR_is hT hok with ⟨z, -⟩ | ⟨z, -, hb, hb1⟩ | ⟨z, -, hb⟩
    · exact absurd z hk0
    · have e2 : addR T kd cl a b = (kd, cl, a, b, tP T a ++ [b]) := by simp [addR, hk0, hb1]
      have h3 : ¬ kd = nI 3 := by rcases z with rfl | rfl <;> decide
      rw [e2] at h4
      simp only [List.length_append, List.length_cons, List.length_nil] at h4
      refine mOk.iload1n dX9_comes_99 rfl ?_
      refine mOk.iconst (x := nI 3) dX9_comes_100 (by decide) ?_
      refine mOk.iceq (tgt := 112) dX9_comes_101 (by decide) (fun c101 => absurd c101 (h3)) (fun c101 => ?_)
      refine mOk.aload0n dX9_comes_104 rfl ?_
      refine mOk.iload5 dX9_comes_105 ?_
      refine mOk.iload4 dX9_comes_107 ?_
      refine mOk.callV2 (M' := mX9_comesPiece) dX9_comes_109 ml_X9_70 ke_X9_comesPiece (by first | assumption | rfl) (by decide) (by decide) (by simp [Value.category]) (c_comesPiece hp (by show (tP T a).length < 4; omega) ?_)
      intro I1 hp1 ho1
      exact l_comes hT hl hok hQ I1 (by rw [e2]; exact hp1) (ho.tr (ho1.up (by decide) (by decide)))
    · have e2 : addR T kd cl a b = (kd, cl, a, b, tP T a) := by simp [addR, hk0, hb, tP_m9]
      subst z
      refine mOk.iload1n dX9_comes_99 rfl ?_
      refine mOk.iconst (x := nI 3) dX9_comes_100 (by decide) ?_
      refine mOk.iceq (tgt := 112) dX9_comes_101 (by decide) (fun c101 => ?_) (fun c101 => absurd (rfl) c101)
      exact l_comes hT hl hok hQ I (by rw [e2]; exact hp) ho
  | succ m ih =>
    intro k I hk hp ho
    have hp4 := hp.1.P4 a
    have hkl : k < (tP T a).length := by omega
    refine mOk.iload6 dX9_comes_65 ?_
    refine mOk.aload0n dX9_comes_67 rfl ?_
    refine mOk.getR dX9_comes_68 fl_X9_22 (by first | assumption | rfl) (by first | assumption | rfl) ?_
    refine mOk.iload3n dX9_comes_71 rfl ?_
    refine mOk.ialdv (j := j) dX9_comes_72 (by first | assumption | rfl) e (by omega) (by first | assumption | decide | omega) (hp.1.P e hj) ?_
    refine mOk.icge (tgt := 99) dX9_comes_73 (by decide) (fun c73 => absurd c73 (mt (nI_le' (by omega) (by omega)).mp (by omega))) (fun c73 => ?_)
    refine mOk.aload0n dX9_comes_76 rfl ?_
    refine mOk.iload5 dX9_comes_77 ?_
    refine mOk.aload0n dX9_comes_79 rfl ?_
    refine mOk.getR dX9_comes_80 fl_X9_25 (by first | assumption | rfl) (by first | assumption | rfl) ?_
    refine mOk.iconst (x := nI 4) dX9_comes_83 (by decide) ?_
    refine mOk.iload3n dX9_comes_84 rfl ?_
    refine mOk.imul dX9_comes_85 ?_
    refine mOk.iload6 dX9_comes_86 ?_
    refine mOk.iadd dX9_comes_88 ?_
    refine mOk.ialdv (j := 4 * j + k) dX9_comes_89 (by first | assumption | rfl) (by rw [e, pk_mul, nI_add]) (by omega) (by first | assumption | decide | omega) (hp.1.p e hj hkl) ?_
    refine mOk.callV2 (M' := mX9_comesPiece) dX9_comes_90 ml_X9_70 ke_X9_comesPiece (by first | assumption | rfl) (by decide) (by decide) (by simp [Value.category]) (c_comesPiece hp (by show ((tP T a).take k).length < 4; rw [List.length_take]; omega) ?_)
    intro I1 hp1 ho1
    refine mOk.iinc6 dX9_comes_93 (mOk.inc1 rfl) (by decide) rfl ?_
    refine mOk.goto (tgt := 65) dX9_comes_96 (by decide) ?_
    refine ih (k + 1) I1 (by omega) ?_ (ho.tr (ho1.up (by decide) (by decide)))
    rw [take_s hkl]
    exact hp1
theorem c_comes {kd cl a b : Int32} (hM : Md I T) (hT : TOk T) (hl : T.length < 24) (hok : okR T (addR T kd cl a b)) (hQ : ∀ I', Md I' (T ++ [addR T kd cl a b]) → Of [0] [98, 99, 100, 101, 102, 103] I I' → Q none (hS sw I' J)) : mCl mX9_comes 1 0 0 [.ref 97, .int kd, .int cl, .int a, .int b] (hS sw I J) Q := by
  refine mCl.of (by decide) rfl (Nat.le_of_ble_eq_true rfl) ?_
  show mOk _ _ _ _ _ [some (.ref 97), some (.int kd), some (.int cl), some (.int a), some (.int b), none, none] _ _ _ _ _
  refine mOk.aload0n dX9_comes_0 rfl ?_
  refine mOk.getIv dX9_comes_1 fl_X9_62 (by first | assumption | rfl) hM.2.1 ?_
  refine mOk.istore5 dX9_comes_4 (by decide) rfl ?_
  refine mOk.aload0n dX9_comes_6 rfl ?_
  refine mOk.getR dX9_comes_7 fl_X9_7 (by first | assumption | rfl) (by first | assumption | rfl) ?_
  refine mOk.iload5 dX9_comes_10 ?_
  refine mOk.iload1n dX9_comes_12 rfl ?_
  refine mOk.iastt dX9_comes_13 (by first | assumption | rfl) rfl (by omega) (by first | assumption | decide | omega) ?_
  refine mOk.aload0n dX9_comes_14 rfl ?_
  refine mOk.getR dX9_comes_15 fl_X9_13 (by first | assumption | rfl) (by first | assumption | rfl) ?_
  refine mOk.iload5 dX9_comes_18 ?_
  refine mOk.iload2n dX9_comes_20 rfl ?_
  refine mOk.iastt dX9_comes_21 (by first | assumption | rfl) rfl (by omega) (by first | assumption | decide | omega) ?_
  refine mOk.aload0n dX9_comes_22 rfl ?_
  refine mOk.getR dX9_comes_23 fl_X9_16 (by first | assumption | rfl) (by first | assumption | rfl) ?_
  refine mOk.iload5 dX9_comes_26 ?_
  refine mOk.iload3n dX9_comes_28 rfl ?_
  refine mOk.iastt dX9_comes_29 (by first | assumption | rfl) rfl (by omega) (by first | assumption | decide | omega) ?_
  refine mOk.aload0n dX9_comes_30 rfl ?_
  refine mOk.getR dX9_comes_31 fl_X9_19 (by first | assumption | rfl) (by first | assumption | rfl) ?_
  refine mOk.iload5 dX9_comes_34 ?_
  refine mOk.iload4 dX9_comes_36 ?_
  refine mOk.iastt dX9_comes_38 (by first | assumption | rfl) rfl (by omega) (by first | assumption | decide | omega) ?_
  refine mOk.aload0n dX9_comes_39 rfl ?_
  refine mOk.getR dX9_comes_40 fl_X9_22 (by first | assumption | rfl) (by first | assumption | rfl) ?_
  refine mOk.iload5 dX9_comes_43 ?_
  refine mOk.iconst (x := nI 0) dX9_comes_45 (by decide) ?_
  refine mOk.iastt dX9_comes_46 (by first | assumption | rfl) rfl (by omega) (by first | assumption | decide | omega) ?_
  generalize hI5 : wI (wI (wI (wI (wI I 98 T.length kd) 99 T.length cl) 100 T.length a) 101 T.length b) 102 T.length (nI 0) = I5
  have ho5 : Of [0] [98, 99, 100, 101, 102, 103] I I5 := by
    rw [← hI5]
    exact (Of.a (by decide) (by decide)).tr ((Of.a (by decide) (by decide)).tr ((Of.a (by decide) (by decide)).tr ((Of.a (by decide) (by decide)).tr (Of.a (by decide) (by decide)))))
  have hp : Pm I5 T (kd, cl, a, b, []) := by
    rw [← hI5]
    refine ⟨hM.eq ?_ (fun c j h1 h2 h3 => ?_) (fun j hj => ?_), hl, ?_, ?_, ?_, ?_, ?_, by simp, fun k p hk => by simp at hk⟩
    · rw [wI_c (by decide), wI_c (by decide), wI_c (by decide), wI_c (by decide), wI_c (by decide)]
    · rw [wI_o (by omega), wI_o (by omega), wI_o (by omega), wI_o (by omega), wI_o (by omega)]
    · rw [wI_c (by decide), wI_c (by decide), wI_c (by decide), wI_c (by decide), wI_c (by decide)]
    · rw [wI_c (by decide), wI_c (by decide), wI_c (by decide), wI_c (by decide), wI_s]
    · rw [wI_c (by decide), wI_c (by decide), wI_c (by decide), wI_s]
    · rw [wI_c (by decide), wI_c (by decide), wI_s]
    · rw [wI_c (by decide), wI_s]
    · rw [wI_s]
      rfl
  rcases okR_is hT hok with ⟨z, ha, hb⟩ | ⟨z, ha, hb, hb1⟩ | ⟨z, ha, hb⟩
  · have e2 : addR T kd cl a b = (kd, cl, a, b, [nI T.length]) := by simp [addR, z, ha, hb, tP_m9]
    subst z
    refine mOk.iload1n dX9_comes_47 rfl ?_
    refine mOk.ifne (tgt := 62) dX9_comes_48 (by decide) (fun c48 => absurd (rfl) c48) (fun c48 => ?_)
    refine mOk.aload0n dX9_comes_51 rfl ?_
    refine mOk.iload5 dX9_comes_52 ?_
    refine mOk.iload5 dX9_comes_54 ?_
    refine mOk.callV2 (M' := mX9_comesPiece) dX9_comes_56 ml_X9_70 ke_X9_comesPiece (by first | assumption | rfl) (by decide) (by decide) (by simp [Value.category]) (c_comesPiece hp (by simp) ?_)
    intro I6 hp6 ho6
    refine mOk.goto (tgt := 112) dX9_comes_59 (by decide) ?_
    exact l_comes hT hl hok hQ I6 (by rw [e2]; exact hp6) (ho5.tr (ho6.up (by decide) (by decide)))
  · have h0 : ¬ kd = 0 := by rcases z with rfl | rfl <;> decide
    refine mOk.iload1n dX9_comes_47 rfl ?_
    refine mOk.ifne (tgt := 62) dX9_comes_48 (by decide) (fun c48 => ?_) (fun c48 => absurd c48 (h0))
    refine mOk.iconst (x := nI 0) dX9_comes_62 (by decide) ?_
    refine mOk.istore6 dX9_comes_63 (by decide) rfl ?_
    exact l_comes2 hT hl hok ha (Or.inl z) hQ (tP T a).length 0 I5 (Nat.zero_add _) hp ho5
  · have h0 : ¬ kd = 0 := by subst z; decide
    refine mOk.iload1n dX9_comes_47 rfl ?_
    refine mOk.ifne (tgt := 62) dX9_comes_48 (by decide) (fun c48 => ?_) (fun c48 => absurd c48 (h0))
    refine mOk.iconst (x := nI 0) dX9_comes_62 (by decide) ?_
    refine mOk.istore6 dX9_comes_63 (by decide) rfl ?_
    exact l_comes2 hT hl hok ha (Or.inr ⟨z, hb⟩) hQ (tP T a).length 0 I5 (Nat.zero_add _) hp ho5
theorem M_code_out {c w : Int32} (h : Md I T) (hc : c < 0 ∨ nI T.length ≤ c) (hQ : Q (some (.int (-1))) (hS sw I J)) : mCl mX9_code 2 0 0 [.ref 97, .int c, .int w] (hS sw I J) Q := by
  refine mCl.of (by decide) rfl (Nat.le_of_ble_eq_true rfl) ?_
  show mOk _ _ _ _ _ [some (.ref 97), some (.int c), some (.int w)] _ _ _ _ _
  refine mOk.aload0n dX9_code_0 rfl ?_
  refine mOk.iload1n dX9_code_1 rfl ?_
  refine mOk.callV1 (M' := mX9_isCode) dX9_code_2 ml_X9_74 ke_X9_isCode (by first | assumption | rfl) (by decide) (by decide) (by simp [Value.category]) (c_isCode_n h hc ?_)
  refine mOk.ifeq (tgt := 18) dX9_code_5 (by decide) (fun c5 => ?_) (fun c5 => absurd (rfl) c5)
  refine mOk.iconst (x := -1) dX9_code_18 (by decide) ?_
  refine mOk.iret dX9_code_19 rfl hQ
theorem M_code_wout {j : Nat} {w : Int32} (h : Md I T) (hj : j < T.length) (hw : w < 0 ∨ nI 9 ≤ w) (hQ : Q (some (.int (-1))) (hS sw I J)) : mCl mX9_code 2 0 0 [.ref 97, .int (nI j), .int w] (hS sw I J) Q := by
  refine mCl.of (by decide) rfl (Nat.le_of_ble_eq_true rfl) ?_
  show mOk _ _ _ _ _ [some (.ref 97), some (.int (nI j)), some (.int w)] _ _ _ _ _
  refine mOk.aload0n dX9_code_0 rfl ?_
  refine mOk.iload1n dX9_code_1 rfl ?_
  refine mOk.callV1 (M' := mX9_isCode) dX9_code_2 ml_X9_74 ke_X9_isCode (by first | assumption | rfl) (by decide) (by decide) (by simp [Value.category]) (c_isCode_y h hj ?_)
  refine mOk.ifeq (tgt := 18) dX9_code_5 (by decide) (fun c5 => absurd c5 ((by decide))) (fun c5 => ?_)
  refine mOk.iload2n dX9_code_8 rfl ?_
  refine mOk.iconst (x := nI 0) dX9_code_9 (by decide) ?_
  refine mOk.bipush (x := nI 8) dX9_code_10 (by decide) ?_
  refine mOk.callS3 (M' := mX9_in) dX9_code_12 ml_X9_66 ke_X9_in rfl (by decide) (by decide) (by simp [Value.category]) (c_in_n (hw.imp id (i32_ltg (by omega))) ?_)
  refine mOk.ifne (tgt := 20) dX9_code_15 (by decide) (fun c15 => absurd (rfl) c15) (fun c15 => ?_)
  refine mOk.iconst (x := -1) dX9_code_18 (by decide) ?_
  refine mOk.iret dX9_code_19 rfl hQ
theorem M_code_in {j w : Nat} (h : Md I T) (hj : j < T.length) (hw : w < 9) (hQ : Q (some (.int (codA T (nI j) w))) (hS sw I J)) : mCl mX9_code 2 0 0 [.ref 97, .int (nI j), .int (nI w)] (hS sw I J) Q := by
  have hl := h.1
  have hp4 := h.P4 (nI j)
  refine mCl.of (by decide) rfl (Nat.le_of_ble_eq_true rfl) ?_
  show mOk _ _ _ _ _ [some (.ref 97), some (.int (nI j)), some (.int (nI w))] _ _ _ _ _
  refine mOk.aload0n dX9_code_0 rfl ?_
  refine mOk.iload1n dX9_code_1 rfl ?_
  refine mOk.callV1 (M' := mX9_isCode) dX9_code_2 ml_X9_74 ke_X9_isCode (by first | assumption | rfl) (by decide) (by decide) (by simp [Value.category]) (c_isCode_y h hj ?_)
  refine mOk.ifeq (tgt := 18) dX9_code_5 (by decide) (fun c5 => absurd c5 ((by decide))) (fun c5 => ?_)
  refine mOk.iload2n dX9_code_8 rfl ?_
  refine mOk.iconst (x := nI 0) dX9_code_9 (by decide) ?_
  refine mOk.bipush (x := nI 8) dX9_code_10 (by decide) ?_
  refine mOk.callS3 (M' := mX9_in) dX9_code_12 ml_X9_66 ke_X9_in rfl (by decide) (by decide) (by simp [Value.category]) (c_in_y (nI_neg' (by omega)) (mt (nI_lt' (by omega) (by omega)).mp (by omega)) ?_)
  refine mOk.ifne (tgt := 20) dX9_code_15 (by decide) (fun c15 => ?_) (fun c15 => absurd c15 ((by decide)))
  have big : ∀ v, w = v + 5 → mOk mX9_code 2 0 0 91 [some (.ref 97), some (.int (nI j)), some (.int (nI w))] [] (hS sw I J) 0 0 Q := by
    intro v hv
    subst hv
    have hQ' : Q (some (.int ((tP T (nI j)).getD v (-9)))) (hS sw I J) := hQ
    by_cases z : v < (tP T (nI j)).length
    · refine mOk.iload2n dX9_code_91 rfl ?_
      refine mOk.iconst (x := nI 5) dX9_code_92 (by decide) ?_
      refine mOk.isub dX9_code_93 ?_
      refine mOk.top ((pk_sub (by omega))) ?_
      refine mOk.aload0n dX9_code_94 rfl ?_
      refine mOk.getR dX9_code_95 fl_X9_22 (by first | assumption | rfl) (by first | assumption | rfl) ?_
      refine mOk.iload1n dX9_code_98 rfl ?_
      refine mOk.ialdv dX9_code_99 (by first | assumption | rfl) rfl (by omega) (by first | assumption | decide | omega) (h.P rfl hj) ?_
      refine mOk.icge (tgt := 118) dX9_code_100 (by decide) (fun c100 => absurd c100 (mt (nI_le' (by omega) (by omega)).mp (by omega))) (fun c100 => ?_)
      refine mOk.aload0n dX9_code_103 rfl ?_
      refine mOk.getR dX9_code_104 fl_X9_25 (by first | assumption | rfl) (by first | assumption | rfl) ?_
      refine mOk.iconst (x := nI 4) dX9_code_107 (by decide) ?_
      refine mOk.iload1n dX9_code_108 rfl ?_
      refine mOk.imul dX9_code_109 ?_
      refine mOk.top ((pk_mul _ _)) ?_
      refine mOk.iload2n dX9_code_110 rfl ?_
      refine mOk.iadd dX9_code_111 ?_
      refine mOk.top ((nI_add _ _)) ?_
      refine mOk.iconst (x := nI 5) dX9_code_112 (by decide) ?_
      refine mOk.isub dX9_code_113 ?_
      refine mOk.top ((pk_sub (by omega))) ?_
      refine mOk.ialdv (j := 4 * j + v) dX9_code_114 (by first | assumption | rfl) (congrArg nI (by omega)) (by omega) (by first | assumption | decide | omega) (h.p rfl hj z) ?_
      refine mOk.goto (tgt := 120) dX9_code_115 (by decide) ?_
      refine mOk.iret dX9_code_120 rfl hQ'
    · rw [getD_out (by omega)] at hQ'
      refine mOk.iload2n dX9_code_91 rfl ?_
      refine mOk.iconst (x := nI 5) dX9_code_92 (by decide) ?_
      refine mOk.isub dX9_code_93 ?_
      refine mOk.top ((pk_sub (by omega))) ?_
      refine mOk.aload0n dX9_code_94 rfl ?_
      refine mOk.getR dX9_code_95 fl_X9_22 (by first | assumption | rfl) (by first | assumption | rfl) ?_
      refine mOk.iload1n dX9_code_98 rfl ?_
      refine mOk.ialdv dX9_code_99 (by first | assumption | rfl) rfl (by omega) (by first | assumption | decide | omega) (h.P rfl hj) ?_
      refine mOk.icge (tgt := 118) dX9_code_100 (by decide) (fun c100 => ?_) (fun c100 => absurd ((nI_le' (by omega) (by omega)).mpr (by omega)) c100)
      refine mOk.bipush (x := -9) dX9_code_118 (by decide) ?_
      refine mOk.iret dX9_code_120 rfl hQ'
  rcases (show w = 0 ∨ w = 1 ∨ w = 2 ∨ w = 3 ∨ w = 4 ∨ 5 ≤ w by omega) with rfl | rfl | rfl | rfl | rfl | hw5
  · refine mOk.iload2n dX9_code_20 rfl ?_
    refine mOk.tableIn (off := 35) (tgt := 56) dX9_code_21 (by decide) (by decide) (by decide) (by decide) ?_
    refine mOk.aload0n dX9_code_56 rfl ?_
    refine mOk.getR dX9_code_57 fl_X9_13 (by first | assumption | rfl) (by first | assumption | rfl) ?_
    refine mOk.iload1n dX9_code_60 rfl ?_
    refine mOk.ialdv dX9_code_61 (by first | assumption | rfl) rfl (by omega) (by first | assumption | decide | omega) (h.C rfl hj) ?_
    refine mOk.iret dX9_code_62 rfl hQ
  · refine mOk.iload2n dX9_code_20 rfl ?_
    refine mOk.tableIn (off := 42) (tgt := 63) dX9_code_21 (by decide) (by decide) (by decide) (by decide) ?_
    refine mOk.aload0n dX9_code_63 rfl ?_
    refine mOk.getR dX9_code_64 fl_X9_7 (by first | assumption | rfl) (by first | assumption | rfl) ?_
    refine mOk.iload1n dX9_code_67 rfl ?_
    refine mOk.ialdv dX9_code_68 (by first | assumption | rfl) rfl (by omega) (by first | assumption | decide | omega) (h.K rfl hj) ?_
    refine mOk.iret dX9_code_69 rfl hQ
  · refine mOk.iload2n dX9_code_20 rfl ?_
    refine mOk.tableIn (off := 49) (tgt := 70) dX9_code_21 (by decide) (by decide) (by decide) (by decide) ?_
    refine mOk.aload0n dX9_code_70 rfl ?_
    refine mOk.getR dX9_code_71 fl_X9_16 (by first | assumption | rfl) (by first | assumption | rfl) ?_
    refine mOk.iload1n dX9_code_74 rfl ?_
    refine mOk.ialdv dX9_code_75 (by first | assumption | rfl) rfl (by omega) (by first | assumption | decide | omega) (h.F rfl hj) ?_
    refine mOk.iret dX9_code_76 rfl hQ
  · refine mOk.iload2n dX9_code_20 rfl ?_
    refine mOk.tableIn (off := 56) (tgt := 77) dX9_code_21 (by decide) (by decide) (by decide) (by decide) ?_
    refine mOk.aload0n dX9_code_77 rfl ?_
    refine mOk.getR dX9_code_78 fl_X9_19 (by first | assumption | rfl) (by first | assumption | rfl) ?_
    refine mOk.iload1n dX9_code_81 rfl ?_
    refine mOk.ialdv dX9_code_82 (by first | assumption | rfl) rfl (by omega) (by first | assumption | decide | omega) (h.S rfl hj) ?_
    refine mOk.iret dX9_code_83 rfl hQ
  · refine mOk.iload2n dX9_code_20 rfl ?_
    refine mOk.tableIn (off := 63) (tgt := 84) dX9_code_21 (by decide) (by decide) (by decide) (by decide) ?_
    refine mOk.aload0n dX9_code_84 rfl ?_
    refine mOk.getR dX9_code_85 fl_X9_22 (by first | assumption | rfl) (by first | assumption | rfl) ?_
    refine mOk.iload1n dX9_code_88 rfl ?_
    refine mOk.ialdv dX9_code_89 (by first | assumption | rfl) rfl (by omega) (by first | assumption | decide | omega) (h.P rfl hj) ?_
    refine mOk.iret dX9_code_90 rfl hQ
  · refine mOk.iload2n dX9_code_20 rfl ?_
    refine mOk.tableOut (tgt := 91) dX9_code_21 (Or.inr (by rw [nI_toInt (by omega)]; omega)) (by decide) ?_
    exact big (w - 5) (by omega)
theorem M_pair_out {a b : Int32} (h : Md I T) (hc : (a < 0 ∨ nI T.length ≤ a) ∨ (b < 0 ∨ nI T.length ≤ b)) (hQ : Q (some (.int (-1))) (hS sw I J)) : mCl mX9_pair 2 0 0 [.ref 97, .int a, .int b] (hS sw I J) Q := by
  have hl := h.1
  refine mCl.of (by decide) rfl (Nat.le_of_ble_eq_true rfl) ?_
  show mOk _ _ _ _ _ [some (.ref 97), some (.int a), some (.int b)] _ _ _ _ _
  rcases ixc a (show T.length < 100000 by omega) with z | ⟨j, hj, rfl⟩
  · refine mOk.aload0n dX9_pair_0 rfl ?_
    refine mOk.iload1n dX9_pair_1 rfl ?_
    refine mOk.callV1 (M' := mX9_isCode) dX9_pair_2 ml_X9_74 ke_X9_isCode (by first | assumption | rfl) (by decide) (by decide) (by simp [Value.category]) (c_isCode_n h z ?_)
    refine mOk.ifeq (tgt := 25) dX9_pair_5 (by decide) (fun c5 => ?_) (fun c5 => absurd (rfl) c5)
    refine mOk.iconst (x := -1) dX9_pair_25 (by decide) ?_
    refine mOk.iret dX9_pair_26 rfl hQ
  · have hb : b < 0 ∨ nI T.length ≤ b := by
      rcases hc with (z | z) | z
      · exact absurd z (nI_neg' (by omega))
      · have := (nI_le' (by omega) (by omega)).mp z
        omega
      · exact z
    refine mOk.aload0n dX9_pair_0 rfl ?_
    refine mOk.iload1n dX9_pair_1 rfl ?_
    refine mOk.callV1 (M' := mX9_isCode) dX9_pair_2 ml_X9_74 ke_X9_isCode (by first | assumption | rfl) (by decide) (by decide) (by simp [Value.category]) (c_isCode_y h hj ?_)
    refine mOk.ifeq (tgt := 25) dX9_pair_5 (by decide) (fun c5 => absurd c5 ((by decide))) (fun c5 => ?_)
    refine mOk.aload0n dX9_pair_8 rfl ?_
    refine mOk.iload2n dX9_pair_9 rfl ?_
    refine mOk.callV1 (M' := mX9_isCode) dX9_pair_10 ml_X9_74 ke_X9_isCode (by first | assumption | rfl) (by decide) (by decide) (by simp [Value.category]) (c_isCode_n h hb ?_)
    refine mOk.ifeq (tgt := 25) dX9_pair_13 (by decide) (fun c13 => ?_) (fun c13 => absurd (rfl) c13)
    refine mOk.iconst (x := -1) dX9_pair_25 (by decide) ?_
    refine mOk.iret dX9_pair_26 rfl hQ
theorem M_pair_in {a b : Nat} (h : Md I T) (hT : TOk T) (ha : a < T.length) (hb : b < T.length) (hQ : Q (some (.int (pairC T (nI a) (nI b)))) (hS sw I J)) : mCl mX9_pair 2 0 0 [.ref 97, .int (nI a), .int (nI b)] (hS sw I J) Q := by
  refine mCl.of (by decide) rfl (Nat.le_of_ble_eq_true rfl) ?_
  show mOk _ _ _ _ _ [some (.ref 97), some (.int (nI a)), some (.int (nI b))] _ _ _ _ _
  refine mOk.aload0n dX9_pair_0 rfl ?_
  refine mOk.iload1n dX9_pair_1 rfl ?_
  refine mOk.callV1 (M' := mX9_isCode) dX9_pair_2 ml_X9_74 ke_X9_isCode (by first | assumption | rfl) (by decide) (by decide) (by simp [Value.category]) (c_isCode_y h ha ?_)
  refine mOk.ifeq (tgt := 25) dX9_pair_5 (by decide) (fun c5 => absurd c5 ((by decide))) (fun c5 => ?_)
  refine mOk.aload0n dX9_pair_8 rfl ?_
  refine mOk.iload2n dX9_pair_9 rfl ?_
  refine mOk.callV1 (M' := mX9_isCode) dX9_pair_10 ml_X9_74 ke_X9_isCode (by first | assumption | rfl) (by decide) (by decide) (by simp [Value.category]) (c_isCode_y h hb ?_)
  refine mOk.ifeq (tgt := 25) dX9_pair_13 (by decide) (fun c13 => absurd c13 ((by decide))) (fun c13 => ?_)
  refine mOk.aload0n dX9_pair_16 rfl ?_
  refine mOk.iload1n dX9_pair_17 rfl ?_
  refine mOk.iload2n dX9_pair_18 rfl ?_
  refine mOk.callV2 (M' := mX9_pairOf) dX9_pair_19 ml_X9_78 ke_X9_pairOf (by first | assumption | rfl) (by decide) (by decide) (by simp [Value.category]) (c_mpairOf h hT ?_)
  refine mOk.goto (tgt := 26) dX9_pair_22 (by decide) ?_
  refine mOk.iret dX9_pair_26 rfl hQ
end MODEL2
