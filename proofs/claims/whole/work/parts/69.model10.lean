/-! ===== the reference: sorting, joining, the other rules ===== -/
theorem i32_le0 {x : Int32} (h : 0 ≤ x) : x ≤ 0 ↔ x = 0 := by
  constructor
  · intro z
    rw [← Int32.toInt_inj]
    rw [Int32.le_iff_toInt_le] at h z
    exact Int.le_antisymm z h
  · intro z
    rw [z]
    decide
section MODEL10
variable {sw : Bool} {I : Nat → Nat → Int32} {J : Nat → Nat → Int64} {Q : Option Value → mi_H → Prop} {T : List CR} {xs : List Int32}
/-- c goes ahead of those that are greater -/
theorem l_msort2 {I0 : Nat → Nat → Int32} {c : Int32} {i : Nat} {tl : List Int32} (hc : okC T c) (hc0 : ¬ tC T c ≤ 0) :
    ∀ (as bs : List Int32) (x : Int32) (I : Nat → Nat → Int32), okL T as → Md I T → Ro I (as.reverse ++ x :: (bs ++ tl)) → Of [] [110] I0 I →
    (∀ I', Md I' T → Ro I' ((insK (tC T) c as).reverse ++ (bs ++ tl)) → Of [] [110] I0 I' → ∀ l3, mOk mX9_sorts 0 0 0 81 [some (.ref 97), some (.int (nI i)), some (.int c), some (.int l3)] [] (hS sw I' J) 0 0 Q) →
    mOk mX9_sorts 0 0 0 19 [some (.ref 97), some (.int (nI i)), some (.int c), some (.int (nI as.length))] [] (hS sw I J) 0 0 Q := by
  obtain ⟨j, hj, e⟩ := hc
  intro as
  induction as with
  | nil =>
    intro bs x I hv hM hR ho hk
    have hl24 := hM.1
    refine mOk.aload0n dX9_sorts_19 rfl ?_
    refine mOk.getR dX9_sorts_20 fl_X9_13 (by first | assumption | rfl) (by first | assumption | rfl) ?_
    refine mOk.iload2n dX9_sorts_23 rfl ?_
    refine mOk.ialdv (j := j) dX9_sorts_24 (by first | assumption | rfl) e (by omega) (by first | assumption | decide | omega) (hM.C e hj) ?_
    refine mOk.ifle (tgt := 74) dX9_sorts_25 (by decide) (fun c25 => absurd c25 (hc0)) (fun c25 => ?_)
    refine mOk.iload3n dX9_sorts_28 rfl ?_
    refine mOk.ifle (tgt := 74) dX9_sorts_29 (by decide) (fun c29 => ?_) (fun c29 => absurd ((by decide)) c29)
    refine mOk.aload0n dX9_sorts_74 rfl ?_
    refine mOk.getR dX9_sorts_75 fl_X9_46 (by first | assumption | rfl) (by first | assumption | rfl) ?_
    refine mOk.iload3n dX9_sorts_78 rfl ?_
    refine mOk.iload2n dX9_sorts_79 rfl ?_
    refine mOk.iastt (j := 0) dX9_sorts_80 (by first | assumption | rfl) rfl (by omega) (by first | assumption | decide | omega) ?_
    have o : Of [] [110] I (wI I 110 0 c) := Of.a (by decide) (by decide)
    have hR' := RW.put hR (by decide) (k := 0) (c := c) (by simp)
    exact hk _ (hM.of o (by decide) (by decide)) hR' (ho.tr o) _
  | cons y as ih =>
    intro bs x I hv hM hR ho hk
    have hl24 := hM.1
    have hlen := hR.1
    simp at hlen
    have hR1 : Ro I (as.reverse ++ y :: x :: (bs ++ tl)) := by simpa using hR
    have e1 : I 110 as.length = y := by
      rw [RW.at hR1 (by simp)]
      rw [show as.length = as.reverse.length by simp, getD_mid]
    obtain ⟨jy, hjy, ey⟩ := hv y (by simp)
    simp only [List.length_cons]
    refine mOk.aload0n dX9_sorts_19 rfl ?_
    refine mOk.getR dX9_sorts_20 fl_X9_13 (by first | assumption | rfl) (by first | assumption | rfl) ?_
    refine mOk.iload2n dX9_sorts_23 rfl ?_
    refine mOk.ialdv (j := j) dX9_sorts_24 (by first | assumption | rfl) e (by omega) (by first | assumption | decide | omega) (hM.C e hj) ?_
    refine mOk.ifle (tgt := 74) dX9_sorts_25 (by decide) (fun c25 => absurd c25 (hc0)) (fun c25 => ?_)
    refine mOk.iload3n dX9_sorts_28 rfl ?_
    refine mOk.ifle (tgt := 74) dX9_sorts_29 (by decide) (fun c29 => absurd c29 (nI_nle (by omega) (by omega))) (fun c29 => ?_)
    refine mOk.aload0n dX9_sorts_32 rfl ?_
    refine mOk.getR dX9_sorts_33 fl_X9_13 (by first | assumption | rfl) (by first | assumption | rfl) ?_
    refine mOk.aload0n dX9_sorts_36 rfl ?_
    refine mOk.getR dX9_sorts_37 fl_X9_46 (by first | assumption | rfl) (by first | assumption | rfl) ?_
    refine mOk.iload3n dX9_sorts_40 rfl ?_
    refine mOk.iconst (x := nI 1) dX9_sorts_41 (by decide) ?_
    refine mOk.isub dX9_sorts_42 ?_
    refine mOk.top ((nI_pred as.length)) ?_
    refine mOk.ialdv dX9_sorts_43 (by first | assumption | rfl) rfl (by omega) (by first | assumption | decide | omega) e1 ?_
    refine mOk.ialdv (j := jy) dX9_sorts_44 (by first | assumption | rfl) ey (by omega) (by first | assumption | decide | omega) (hM.C ey hjy) ?_
    refine mOk.aload0n dX9_sorts_45 rfl ?_
    refine mOk.getR dX9_sorts_46 fl_X9_13 (by first | assumption | rfl) (by first | assumption | rfl) ?_
    refine mOk.iload2n dX9_sorts_49 rfl ?_
    refine mOk.ialdv (j := j) dX9_sorts_50 (by first | assumption | rfl) e (by omega) (by first | assumption | decide | omega) (hM.C e hj) ?_
    refine mOk.icle (tgt := 74) dX9_sorts_51 (by decide) (fun c51 => ?_) (fun c51 => ?_)
    · refine mOk.aload0n dX9_sorts_74 rfl ?_
      refine mOk.getR dX9_sorts_75 fl_X9_46 (by first | assumption | rfl) (by first | assumption | rfl) ?_
      refine mOk.iload3n dX9_sorts_78 rfl ?_
      refine mOk.iload2n dX9_sorts_79 rfl ?_
      refine mOk.iastt dX9_sorts_80 (by first | assumption | rfl) rfl (by omega) (by first | assumption | decide | omega) ?_
      have o : Of [] [110] I (wI I 110 (as.length + 1) c) := Of.a (by decide) (by decide)
      have hR' := RW.put hR (by decide) (k := as.length + 1) (c := c) (by simp)
      rw [show as.length + 1 = (y :: as).reverse.length by simp, set_mid] at hR'
      refine hk _ (hM.of o (by decide) (by decide)) ?_ (ho.tr o) _
      rw [insK, if_neg (Int32_nlt c51)]
      simpa using hR'
    · refine mOk.aload0n dX9_sorts_54 rfl ?_
      refine mOk.getR dX9_sorts_55 fl_X9_46 (by first | assumption | rfl) (by first | assumption | rfl) ?_
      refine mOk.iload3n dX9_sorts_58 rfl ?_
      refine mOk.aload0n dX9_sorts_59 rfl ?_
      refine mOk.getR dX9_sorts_60 fl_X9_46 (by first | assumption | rfl) (by first | assumption | rfl) ?_
      refine mOk.iload3n dX9_sorts_63 rfl ?_
      refine mOk.iconst (x := nI 1) dX9_sorts_64 (by decide) ?_
      refine mOk.isub dX9_sorts_65 ?_
      refine mOk.top ((nI_pred as.length)) ?_
      refine mOk.ialdv dX9_sorts_66 (by first | assumption | rfl) rfl (by omega) (by first | assumption | decide | omega) e1 ?_
      refine mOk.iastt dX9_sorts_67 (by first | assumption | rfl) rfl (by omega) (by first | assumption | decide | omega) ?_
      have o : Of [] [110] I (wI I 110 (as.length + 1) y) := Of.a (by decide) (by decide)
      have hR' := RW.put hR (by decide) (k := as.length + 1) (c := y) (by simp)
      rw [show as.length + 1 = (y :: as).reverse.length by simp, set_mid] at hR'
      refine mOk.iinc3 (y := nI as.length) dX9_sorts_68 (pk_m1 as.length) (by decide) rfl ?_
      refine mOk.goto (tgt := 19) dX9_sorts_71 (by decide) ?_
      refine ih (y :: bs) y _ (fun z hz => hv z (by simp [hz])) (hM.of o (by decide) (by decide)) (by simpa using hR') (ho.tr o) (fun I' hM' hR2 ho' l3 => hk I' hM' ?_ ho' l3)
      rw [insK, if_pos (Int32_nle c51)]
      simpa using hR2
theorem l_msort {I0 : Nat → Nat → Int32} (hT : TOk T) (hv : okL T xs) (hQ : ∀ I', Md I' T → Ro I' (srt (tC T) xs) → Of [] [110] I0 I' → Q none (hS sw I' J)) :
    ∀ (rest acc : List Int32) (I : Nat → Nat → Int32) (l2 l3 : Option Value), mi_s [none, none, l2] 3 = true → Md I T → Ro I (acc.reverse ++ rest) → okL T acc → okL T rest → Of [] [110] I0 I → srtR (tC T) acc rest = srtR (tC T) [] xs →
    mOk mX9_sorts 0 0 0 2 [some (.ref 97), some (.int (nI acc.length)), l2, l3] [] (hS sw I J) 0 0 Q := by
  intro rest
  induction rest with
  | nil =>
    intro acc I l2 l3 h2 hM hR ha hr ho hs
    have b2 := hR.1
    simp at b2
    refine mOk.iload1n dX9_sorts_2 rfl ?_
    refine mOk.aload0n dX9_sorts_3 rfl ?_
    refine mOk.getIv dX9_sorts_4 fl_X9_157 (by first | assumption | rfl) hR.2.1 ?_
    refine mOk.icge (tgt := 87) dX9_sorts_7 (by decide) (fun c7 => ?_) (fun c7 => absurd ((nI_le' (by simp; omega) (by omega)).mpr (by simp)) c7)
    refine mOk.vret dX9_sorts_87 rfl (by decide) ?_
    refine hQ I hM ?_ ho
    unfold srt
    rw [← hs]
    simpa [srtR] using hR
  | cons c rest ih =>
    intro acc I l2 l3 h2 hM hR ha hr ho hs
    have b2 := hR.1
    have hl24 := hM.1
    simp at b2
    obtain ⟨j, hj, e⟩ := hr c (by simp)
    have hc0 := hT.c0 (hr c (by simp))
    have next : ∀ I', Md I' T → Ro I' ((ins1 (tC T) c acc).reverse ++ rest) → Of [] [110] I0 I' → ∀ (l3 : Int32), mOk mX9_sorts 0 0 0 81 [some (.ref 97), some (.int (nI acc.length)), some (.int c), some (.int l3)] [] (hS sw I' J) 0 0 Q := by
      intro I' hM' hR' ho' l3
      refine mOk.iinc1 dX9_sorts_81 (mOk.inc1 rfl) (by decide) rfl ?_
      refine mOk.goto (tgt := 2) dX9_sorts_84 (by decide) ?_
      have := ih (ins1 (tC T) c acc) I' (some (.int c)) (some (.int l3)) rfl hM' hR' (fun z hz => by
        rcases ins1_mem.mp hz with w | w
        · rw [w]; exact hr c (by simp)
        · exact ha z w) (fun z hz => hr z (by simp [hz])) ho' hs
      rw [ins1_len] at this
      exact this
    have e1 : I 110 acc.length = c := by
      rw [RW.at hR (by simp)]
      rw [show acc.length = acc.reverse.length by simp, getD_mid]
    refine mOk.iload1n dX9_sorts_2 rfl ?_
    refine mOk.aload0n dX9_sorts_3 rfl ?_
    refine mOk.getIv dX9_sorts_4 fl_X9_157 (by first | assumption | rfl) hR.2.1 ?_
    refine mOk.icge (tgt := 87) dX9_sorts_7 (by decide) (fun c7 => absurd c7 (mt (nI_le' (by simp; omega) (by omega)).mp (by simp))) (fun c7 => ?_)
    refine mOk.aload0n dX9_sorts_10 rfl ?_
    refine mOk.getR dX9_sorts_11 fl_X9_46 (by first | assumption | rfl) (by first | assumption | rfl) ?_
    refine mOk.iload1n dX9_sorts_14 rfl ?_
    refine mOk.ialdv dX9_sorts_15 (by first | assumption | rfl) rfl (by omega) (by first | assumption | decide | omega) e1 ?_
    refine mOk.istore2n dX9_sorts_16 rfl (by decide) rfl ?_
    refine mOk.iload1n dX9_sorts_17 rfl ?_
    refine mOk.istore3n dX9_sorts_18 rfl (by decide) rfl ?_
    by_cases z : tC T c = 0
    · refine mOk.aload0n dX9_sorts_19 rfl ?_
      refine mOk.getR dX9_sorts_20 fl_X9_13 (by first | assumption | rfl) (by first | assumption | rfl) ?_
      refine mOk.iload2n dX9_sorts_23 rfl ?_
      refine mOk.ialdv (j := j) dX9_sorts_24 (by first | assumption | rfl) e (by omega) (by first | assumption | decide | omega) (hM.C e hj) ?_
      refine mOk.ifle (tgt := 74) dX9_sorts_25 (by decide) (fun c25 => ?_) (fun c25 => absurd (((i32_le0 hc0).mpr z)) c25)
      refine mOk.aload0n dX9_sorts_74 rfl ?_
      refine mOk.getR dX9_sorts_75 fl_X9_46 (by first | assumption | rfl) (by first | assumption | rfl) ?_
      refine mOk.iload3n dX9_sorts_78 rfl ?_
      refine mOk.iload2n dX9_sorts_79 rfl ?_
      refine mOk.iastt dX9_sorts_80 (by first | assumption | rfl) rfl (by omega) (by first | assumption | decide | omega) ?_
      have o : Of [] [110] I (wI I 110 acc.length c) := Of.a (by decide) (by decide)
      have hR' := RW.put hR (by decide) (k := acc.length) (c := c) (by simp)
      rw [show acc.length = acc.reverse.length by simp, set_mid] at hR'
      rw [show acc.reverse.length = acc.length by simp] at hR'
      refine next _ (hM.of o (by decide) (by decide)) ?_ (ho.tr o) _
      rw [ins1, if_pos z]
      simpa using hR'
    · refine l_msort2 (tl := rest) (I0 := I0) ⟨j, hj, e⟩ (fun w => z ((i32_le0 hc0).mp w)) acc [] c I ha hM (by simpa using hR) ho (fun I' hM' hR' ho' l3 => next I' hM' ?_ ho' l3)
      rw [ins1, if_neg z]
      simpa using hR'
theorem c_msort (hT : TOk T) (hM : Md I T) (hR : Ro I xs) (hv : okL T xs) (hQ : ∀ I', Md I' T → Ro I' (srt (tC T) xs) → Of [] [110] I I' → Q none (hS sw I' J)) : mCl mX9_sorts 0 0 0 [.ref 97] (hS sw I J) Q := by
  have hl := hR.1
  refine mCl.of (by decide) rfl (Nat.le_of_ble_eq_true rfl) ?_
  show mOk _ _ _ _ _ [some (.ref 97), none, none, none] _ _ _ _ _
  refine mOk.iconst (x := nI 1) dX9_sorts_0 (by decide) ?_
  refine mOk.istore1n dX9_sorts_1 rfl (by decide) rfl ?_
  cases xs with
  | nil =>
    refine mOk.iload1n dX9_sorts_2 rfl ?_
    refine mOk.aload0n dX9_sorts_3 rfl ?_
    refine mOk.getIv dX9_sorts_4 fl_X9_157 (by first | assumption | rfl) hR.2.1 ?_
    refine mOk.icge (tgt := 87) dX9_sorts_7 (by decide) (fun c7 => ?_) (fun c7 => absurd ((by decide)) c7)
    refine mOk.vret dX9_sorts_87 rfl (by decide) ?_
    exact hQ I hM hR Of.rf
  | cons x xs =>
    refine l_msort (acc := [x]) (I0 := I) (xs := x :: xs) hT hv hQ xs I none none rfl hM hR (fun z hz => hv z (by simp at hz; simp [hz])) (fun z hz => hv z (by simp [hz])) Of.rf ?_
    show srtR _ [x] xs = srtR _ (ins1 _ x []) xs
    have : ins1 (tC T) x [] = [x] := by unfold ins1; split <;> rfl
    rw [this]
theorem l_blocked {out : List Int32} {b : Nat} {c : Int32} (hM : Md I T) (hR : Ro I out) (hv : okL T out) (hc : okC T c) (hQ : Q (some (.int (if blk T out b c = true then 1 else 0))) (hS sw I J)) :
    ∀ (m k : Nat), k + m = out.length → b + 1 ≤ k → mOk mX9_isBlocked 0 0 0 7 [some (.ref 97), some (.int (nI b)), some (.int c), some (.int (if blk T (out.take k) b c = true then 1 else 0)), some (.int (nI k))] [] (hS sw I J) 0 0 Q := by
  have hl24 := hM.1
  have hl := hR.1
  obtain ⟨j, hj, e⟩ := hc
  intro m
  induction m with
  | zero =>
    intro k hk hb
    rw [List.take_of_length_le (by omega)]
    refine mOk.iload4 dX9_isBlocked_7 ?_
    refine mOk.aload0n dX9_isBlocked_9 rfl ?_
    refine mOk.getIv dX9_isBlocked_10 fl_X9_157 (by first | assumption | rfl) hR.2.1 ?_
    refine mOk.icge (tgt := 68) dX9_isBlocked_13 (by decide) (fun c13 => ?_) (fun c13 => absurd ((nI_le' (by omega) (by omega)).mpr (by omega)) c13)
    by_cases z : blk T out b c = true
    · rw [if_pos z] at hQ ⊢
      refine mOk.iload3n dX9_isBlocked_68 rfl ?_
      refine mOk.zret dX9_isBlocked_69 rfl (by decide) hQ
    · rw [if_neg z] at hQ ⊢
      refine mOk.iload3n dX9_isBlocked_68 rfl ?_
      refine mOk.zret dX9_isBlocked_69 rfl (by decide) hQ
  | succ m ih =>
    intro k hk hb
    have hkl : k < out.length := by omega
    obtain ⟨jx, hjx, ex⟩ := hv _ (mem_getD hkl)
    have hstep : blk T (out.take (k + 1)) b c = (blk T (out.take k) b c || (decide (tC T (out.getD k (-9)) = 0) || decide (tC T c ≤ tC T (out.getD k (-9))))) := by
      unfold blk
      rw [take_s hkl, List.drop_append_of_le_length (by rw [List.length_take]; omega), List.any_append]
      simp
    have nxt : ∀ x : Int32, x = (if blk T (out.take (k + 1)) b c = true then 1 else 0) → mOk mX9_isBlocked 0 0 0 61 [some (.ref 97), some (.int (nI b)), some (.int c), some (.int (if blk T (out.take k) b c = true then 1 else 0)), some (.int (nI k))] [.int x] (hS sw I J) 0 0 Q := by
      intro x hx
      subst hx
      refine mOk.istore3n dX9_isBlocked_61 rfl (by decide) rfl ?_
      refine mOk.iinc4 dX9_isBlocked_62 (mOk.inc1 rfl) (by decide) rfl ?_
      refine mOk.goto (tgt := 7) dX9_isBlocked_65 (by decide) ?_
      exact ih (k + 1) (by omega) (by omega)
    have yes : blk T (out.take (k + 1)) b c = true → mOk mX9_isBlocked 0 0 0 56 [some (.ref 97), some (.int (nI b)), some (.int c), some (.int (if blk T (out.take k) b c = true then 1 else 0)), some (.int (nI k))] [] (hS sw I J) 0 0 Q := by
      intro z
      refine mOk.iconst (x := 1) dX9_isBlocked_56 (by decide) ?_
      refine mOk.goto (tgt := 61) dX9_isBlocked_57 (by decide) ?_
      exact nxt 1 (by rw [if_pos z])
    refine mOk.iload4 dX9_isBlocked_7 ?_
    refine mOk.aload0n dX9_isBlocked_9 rfl ?_
    refine mOk.getIv dX9_isBlocked_10 fl_X9_157 (by first | assumption | rfl) hR.2.1 ?_
    refine mOk.icge (tgt := 68) dX9_isBlocked_13 (by decide) (fun c13 => absurd c13 (mt (nI_le' (by omega) (by omega)).mp (by omega))) (fun c13 => ?_)
    by_cases z : blk T (out.take k) b c = true
    · have hy : blk T (out.take (k + 1)) b c = true := by rw [hstep, z]; rfl
      refine mOk.iload3n dX9_isBlocked_16 rfl ?_
      refine mOk.ifne (tgt := 56) dX9_isBlocked_17 (by decide) (fun c17 => ?_) (fun c17 => absurd c17 ((by rw [if_pos z]; decide)))
      exact yes hy
    · refine mOk.iload3n dX9_isBlocked_16 rfl ?_
      refine mOk.ifne (tgt := 56) dX9_isBlocked_17 (by decide) (fun c17 => absurd ((if_neg z)) c17) (fun c17 => ?_)
      rw [Bool.not_eq_true] at z
      rw [z, Bool.false_or] at hstep
      refine mOk.aload0n dX9_isBlocked_20 rfl ?_
      refine mOk.getR dX9_isBlocked_21 fl_X9_13 (by first | assumption | rfl) (by first | assumption | rfl) ?_
      refine mOk.aload0n dX9_isBlocked_24 rfl ?_
      refine mOk.getR dX9_isBlocked_25 fl_X9_46 (by first | assumption | rfl) (by first | assumption | rfl) ?_
      refine mOk.iload4 dX9_isBlocked_28 ?_
      refine mOk.ialdv dX9_isBlocked_30 (by first | assumption | rfl) rfl (by omega) (by first | assumption | decide | omega) (hR.at hkl) ?_
      refine mOk.ialdv (j := jx) dX9_isBlocked_31 (by first | assumption | rfl) ex (by omega) (by first | assumption | decide | omega) (hM.C ex hjx) ?_
      refine mOk.ifeq (tgt := 56) dX9_isBlocked_32 (by decide) (fun c32 => ?_) (fun c32 => ?_)
      · exact yes (by rw [hstep, decide_eq_true c32]; rfl)
      · refine mOk.aload0n dX9_isBlocked_35 rfl ?_
        refine mOk.getR dX9_isBlocked_36 fl_X9_13 (by first | assumption | rfl) (by first | assumption | rfl) ?_
        refine mOk.aload0n dX9_isBlocked_39 rfl ?_
        refine mOk.getR dX9_isBlocked_40 fl_X9_46 (by first | assumption | rfl) (by first | assumption | rfl) ?_
        refine mOk.iload4 dX9_isBlocked_43 ?_
        refine mOk.ialdv dX9_isBlocked_45 (by first | assumption | rfl) rfl (by omega) (by first | assumption | decide | omega) (hR.at hkl) ?_
        refine mOk.ialdv (j := jx) dX9_isBlocked_46 (by first | assumption | rfl) ex (by omega) (by first | assumption | decide | omega) (hM.C ex hjx) ?_
        refine mOk.aload0n dX9_isBlocked_47 rfl ?_
        refine mOk.getR dX9_isBlocked_48 fl_X9_13 (by first | assumption | rfl) (by first | assumption | rfl) ?_
        refine mOk.iload2n dX9_isBlocked_51 rfl ?_
        refine mOk.ialdv (j := j) dX9_isBlocked_52 (by first | assumption | rfl) e (by omega) (by first | assumption | decide | omega) (hM.C e hj) ?_
        refine mOk.iclt (tgt := 60) dX9_isBlocked_53 (by decide) (fun c53 => ?_) (fun c53 => ?_)
        · refine mOk.iconst (x := 0) dX9_isBlocked_60 (by decide) ?_
          refine nxt 0 ?_
          rw [hstep, decide_eq_false c32, decide_eq_false (fun w => Int32_nlt w c53)]
          rfl
        · refine yes ?_
          have : tC T c ≤ tC T (out.getD k (-9)) := by
            rw [Int32.le_iff_toInt_le]
            rw [Int32.lt_iff_toInt_lt] at c53
            omega
          rw [hstep, decide_eq_true this, Bool.or_true]
theorem c_blocked {out : List Int32} {b : Nat} {c : Int32} (hM : Md I T) (hR : Ro I out) (hv : okL T out) (hc : okC T c) (hb : b < out.length) (hQ : Q (some (.int (if blk T out b c = true then 1 else 0))) (hS sw I J)) : mCl mX9_isBlocked 0 0 0 [.ref 97, .int (nI b), .int c] (hS sw I J) Q := by
  refine mCl.of (by decide) rfl (Nat.le_of_ble_eq_true rfl) ?_
  show mOk _ _ _ _ _ [some (.ref 97), some (.int (nI b)), some (.int c), none, none] _ _ _ _ _
  refine mOk.iconst (x := 0) dX9_isBlocked_0 (by decide) ?_
  refine mOk.istore3n dX9_isBlocked_1 rfl (by decide) rfl ?_
  refine mOk.iload1n dX9_isBlocked_2 rfl ?_
  refine mOk.iconst (x := nI 1) dX9_isBlocked_3 (by decide) ?_
  refine mOk.iadd dX9_isBlocked_4 ?_
  refine mOk.top ((nI_add _ _)) ?_
  refine mOk.istore4 dX9_isBlocked_5 (by decide) rfl ?_
  have := l_blocked (b := b) hM hR hv hc hQ (out.length - (b + 1)) (b + 1) (by omega) (Nat.le_refl _)
  rw [if_neg] at this
  · exact this
  · unfold blk
    rw [List.drop_of_length_le (by rw [List.length_take]; omega)]
    simp
/-- the base to which is joined -/
def bI (bs : Option Nat) : Int32 := match bs with
  | none => -9
  | some b => nI b
theorem l_joins {I0 : Nat → Nat → Int32} (hT : TOk T) (hv : plL T xs) (hQ : ∀ I', Md I' T → Ro I' (jn T none [] xs) → Of [18, 20] [110, 111] I0 I' → Q none (hS sw I' J)) :
    ∀ (m k : Nat) (bs : Option Nat) (out : List Int32) (I : Nat → Nat → Int32) (l3 l4 : Option Value), mi_s [none, none, none, l3] 4 = true → k + m = xs.length → out.length ≤ k → (∀ b, bs = some b → b < out.length) → okL T out → jn T bs out (xs.drop k) = jn T none [] xs → Md I T → Ot I xs → Ro I out → Of [18, 20] [110, 111] I0 I → mOk mX9_joins 1 0 0 14 [some (.ref 97), some (.int (bI bs)), some (.int (nI k)), l3, l4] [] (hS sw I J) 0 0 Q := by
  intro m
  induction m with
  | zero =>
    intro k bs out I l3 l4 h3 hk hol hb hok hjn hM hO hR ho
    have hx := hO.1
    rw [List.drop_of_length_le (by omega), jn] at hjn
    refine mOk.iload2n dX9_joins_14 rfl ?_
    refine mOk.aload0n dX9_joins_15 rfl ?_
    refine mOk.getIv dX9_joins_16 fl_X9_163 (by first | assumption | rfl) hO.2.1 ?_
    refine mOk.icge (tgt := 124) dX9_joins_19 (by decide) (fun c19 => ?_) (fun c19 => absurd ((nI_le' (by omega) (by omega)).mpr (by omega)) c19)
    refine mOk.vret dX9_joins_124 rfl (by decide) ?_
    exact hQ I hM (by rw [← hjn]; exact hR) ho
  | succ m ih =>
    intro k bs out I l3 l4 h3 hk hol hb hok hjn hM hO hR ho
    have hx := hO.1
    have hl24 := hM.1
    have hkl : k < xs.length := by omega
    have hc := hv _ (mem_getD hkl)
    obtain ⟨j, hj, e⟩ := hc.1
    rw [drop_c hkl, jn] at hjn
    -- nothing is joined
    have stay : jp T bs out (xs.getD k (-9)) = -9 → ∀ l4, mOk mX9_joins 1 0 0 80 [some (.ref 97), some (.int (bI bs)), some (.int (nI k)), some (.int (xs.getD k (-9))), some (.int l4)] [] (hS sw I J) 0 0 Q := by
      intro z l4
      rw [if_pos z] at hjn
      have last : ∀ bs' : Option Nat, bs' = (if tC T (xs.getD k (-9)) = 0 then some out.length else bs) → mOk mX9_joins 1 0 0 97 [some (.ref 97), some (.int (bI bs)), some (.int (nI k)), some (.int (xs.getD k (-9))), some (.int l4)] [.int (bI bs')] (hS sw I J) 0 0 Q := by
        intro bs' hbs
        refine mOk.istore1n dX9_joins_97 rfl (by decide) rfl ?_
        refine mOk.aload0n dX9_joins_98 rfl ?_
        refine mOk.getR dX9_joins_99 fl_X9_46 (by first | assumption | rfl) (by first | assumption | rfl) ?_
        refine mOk.aload0n dX9_joins_102 rfl ?_
        refine mOk.getIv dX9_joins_103 fl_X9_157 (by first | assumption | rfl) hR.2.1 ?_
        refine mOk.iload3n dX9_joins_106 rfl ?_
        refine mOk.iastt dX9_joins_107 (by first | assumption | rfl) rfl (by omega) (by first | assumption | decide | omega) ?_
        have e18 : wI I 110 out.length (xs.getD k (-9)) 97 18 = nI out.length := by rw [wI_c (by decide)]; exact hR.2.1
        refine mOk.aload0n dX9_joins_108 rfl ?_
        refine mOk.dup dX9_joins_109 rfl ?_
        refine mOk.getIv dX9_joins_110 fl_X9_157 (by first | assumption | rfl) e18 ?_
        refine mOk.iconst (x := nI 1) dX9_joins_113 (by decide) ?_
        refine mOk.iadd dX9_joins_114 ?_
        refine mOk.top ((nI_add _ _)) ?_
        refine mOk.putIt dX9_joins_115 fl_X9_157 (by first | assumption | rfl) ?_
        refine mOk.iinc2 dX9_joins_118 (mOk.inc1 rfl) (by decide) rfl ?_
        refine mOk.goto (tgt := 14) dX9_joins_121 (by decide) ?_
        have o : Of [18] [110] I (wI (wI I 110 out.length (xs.getD k (-9))) 97 18 (nI (out.length + 1))) := (Of.a (by decide) (by decide)).tr (Of.f (by decide))
        refine ih (k + 1) bs' (out ++ [xs.getD k (-9)]) _ _ _ rfl (by omega) (by simp; omega) (fun b hb' => ?_) (fun y hy => ?_) (by rw [hbs]; exact hjn) (hM.of o (by decide) (by decide)) (hO.of o (by decide) (by decide) (by decide)) (hR.push (by omega) (by decide)) (ho.tr (o.up (by decide) (by decide)))
        · rw [hbs] at hb'
          split at hb'
          · cases hb'
            simp
          · have := hb b hb'
            simp
            omega
        · rw [List.mem_append, List.mem_singleton] at hy
          rcases hy with hy | rfl
          · exact hok y hy
          · exact hc.1
      refine mOk.aload0n dX9_joins_80 rfl ?_
      refine mOk.getR dX9_joins_81 fl_X9_13 (by first | assumption | rfl) (by first | assumption | rfl) ?_
      refine mOk.iload3n dX9_joins_84 rfl ?_
      refine mOk.ialdv (j := j) dX9_joins_85 (by first | assumption | rfl) e (by omega) (by first | assumption | decide | omega) (hM.C e hj) ?_
      refine mOk.ifne (tgt := 96) dX9_joins_86 (by decide) (fun c86 => ?_) (fun c86 => ?_)
      · refine mOk.iload1n dX9_joins_96 rfl ?_
        exact last bs (by rw [if_neg c86])
      · refine mOk.aload0n dX9_joins_89 rfl ?_
        refine mOk.getIv dX9_joins_90 fl_X9_157 (by first | assumption | rfl) hR.2.1 ?_
        refine mOk.goto (tgt := 97) dX9_joins_93 (by decide) ?_
        exact last (some out.length) (by rw [if_pos c86])
    -- the pair that was found
    have got : ∀ l4 : Option Value, mi_s [none, none, none, some (.int 0), l4] 4 = true → mOk mX9_joins 1 0 0 60 [some (.ref 97), some (.int (bI bs)), some (.int (nI k)), some (.int (xs.getD k (-9))), l4] [.int (jp T bs out (xs.getD k (-9)))] (hS sw I J) 0 0 Q := by
      intro l4 h4
      refine mOk.istore4 dX9_joins_60 (by decide) rfl ?_
      refine mOk.iload4 dX9_joins_62 ?_
      refine mOk.bipush (x := -9) dX9_joins_64 (by decide) ?_
      refine mOk.iceq (tgt := 80) dX9_joins_66 (by decide) (fun c66 => ?_) (fun c66 => ?_)
      · exact stay c66 _
      · rw [if_neg c66] at hjn
        cases hbs : bs with
        | none =>
          rw [hbs] at c66
          exact absurd rfl c66
        | some b =>
          have hbl := hb b hbs
          rw [hbs] at hjn c66
          refine mOk.aload0n dX9_joins_69 rfl ?_
          refine mOk.getR dX9_joins_70 fl_X9_46 (by first | assumption | rfl) (by first | assumption | rfl) ?_
          refine mOk.iload1n dX9_joins_73 rfl ?_
          refine mOk.iload4 dX9_joins_74 ?_
          refine mOk.iastt (j := b) dX9_joins_76 (by first | assumption | rfl) rfl (by omega) (by first | assumption | decide | omega) ?_
          refine mOk.goto (tgt := 118) dX9_joins_77 (by decide) ?_
          refine mOk.iinc2 dX9_joins_118 (mOk.inc1 rfl) (by decide) rfl ?_
          refine mOk.goto (tgt := 14) dX9_joins_121 (by decide) ?_
          have o : Of [18] [110] I (wI I 110 b (jp T (some b) out (xs.getD k (-9)))) := Of.a (by decide) (by decide)
          have hp : okC T (jp T (some b) out (xs.getD k (-9))) := by
            have hp' : ¬ (if blk T out b (xs.getD k (-9)) = true then -9 else pairC T (out.getD b (-9)) (xs.getD k (-9))) = -9 := c66
            show okC T (if blk T out b (xs.getD k (-9)) = true then -9 else pairC T (out.getD b (-9)) (xs.getD k (-9)))
            by_cases z : blk T out b (xs.getD k (-9)) = true
            · rw [if_pos z] at hp'
              exact absurd rfl hp'
            · rw [if_neg z] at hp' ⊢
              exact ((pairC_or (by omega) _ _).resolve_left hp').1
          refine ih (k + 1) (some b) (out.set b (jp T (some b) out (xs.getD k (-9)))) _ _ _ rfl (by omega) (by simp; omega) (fun b' hb' => by cases hb'; simpa using hbl) (fun y hy => ?_) hjn (hM.of o (by decide) (by decide)) (hO.of o (by decide) (by decide) (by decide)) (hR.put (by decide) hbl) (ho.tr (o.up (by decide) (by decide)))
          rcases List.mem_or_eq_of_mem_set hy with hy | rfl
          · exact hok y hy
          · exact hp
    refine mOk.iload2n dX9_joins_14 rfl ?_
    refine mOk.aload0n dX9_joins_15 rfl ?_
    refine mOk.getIv dX9_joins_16 fl_X9_163 (by first | assumption | rfl) hO.2.1 ?_
    refine mOk.icge (tgt := 124) dX9_joins_19 (by decide) (fun c19 => absurd c19 (mt (nI_le' (by omega) (by omega)).mp (by omega))) (fun c19 => ?_)
    refine mOk.aload0n dX9_joins_22 rfl ?_
    refine mOk.getR dX9_joins_23 fl_X9_49 (by first | assumption | rfl) (by first | assumption | rfl) ?_
    refine mOk.iload2n dX9_joins_26 rfl ?_
    refine mOk.ialdv dX9_joins_27 (by first | assumption | rfl) rfl (by omega) (by first | assumption | decide | omega) (hO.at hkl) ?_
    refine mOk.istore3n dX9_joins_28 rfl (by decide) rfl ?_
    cases hbs : bs with
    | none =>
      refine mOk.iload1n dX9_joins_29 rfl ?_
      refine mOk.bipush (x := -9) dX9_joins_30 (by decide) ?_
      refine mOk.iceq (tgt := 44) dX9_joins_32 (by decide) (fun c32 => ?_) (fun c32 => absurd (rfl) c32)
      refine mOk.bipush (x := -9) dX9_joins_44 (by decide) ?_
      refine mOk.goto (tgt := 60) dX9_joins_46 (by decide) ?_
      have := got l4 (by cases l4 <;> rfl)
      rw [hbs] at this
      exact this
    | some b =>
      have hbl := hb b hbs
      have hol' := hR.1
      refine mOk.iload1n dX9_joins_29 rfl ?_
      refine mOk.bipush (x := -9) dX9_joins_30 (by decide) ?_
      refine mOk.iceq (tgt := 44) dX9_joins_32 (by decide) (fun c32 => absurd c32 (nI_n9 (by omega))) (fun c32 => ?_)
      refine mOk.aload0n dX9_joins_35 rfl ?_
      refine mOk.iload1n dX9_joins_36 rfl ?_
      refine mOk.iload3n dX9_joins_37 rfl ?_
      refine mOk.callV2 (M' := mX9_isBlocked) dX9_joins_38 ml_X9_169 ke_X9_isBlocked (by first | assumption | rfl) (by decide) (by decide) (by simp [Value.category]) (c_blocked hM hR hok hc.1 hbl ?_)
      have hg := got l4 (by cases l4 <;> rfl)
      rw [hbs] at hg
      by_cases z : blk T out b (xs.getD k (-9)) = true
      · rw [if_pos z]
        have ej : jp T (some b) out (xs.getD k (-9)) = -9 := if_pos z
        rw [ej] at hg
        refine mOk.ifeq (tgt := 49) dX9_joins_41 (by decide) (fun c41 => absurd c41 ((by decide))) (fun c41 => ?_)
        refine mOk.bipush (x := -9) dX9_joins_44 (by decide) ?_
        refine mOk.goto (tgt := 60) dX9_joins_46 (by decide) ?_
        exact hg
      · rw [if_neg z]
        have ej : jp T (some b) out (xs.getD k (-9)) = pairC T (out.getD b (-9)) (xs.getD k (-9)) := if_neg z
        rw [ej] at hg
        refine mOk.ifeq (tgt := 49) dX9_joins_41 (by decide) (fun c41 => ?_) (fun c41 => absurd (rfl) c41)
        refine mOk.aload0n dX9_joins_49 rfl ?_
        refine mOk.aload0n dX9_joins_50 rfl ?_
        refine mOk.getR dX9_joins_51 fl_X9_46 (by first | assumption | rfl) (by first | assumption | rfl) ?_
        refine mOk.iload1n dX9_joins_54 rfl ?_
        refine mOk.ialdv (j := b) dX9_joins_55 (by first | assumption | rfl) rfl (by omega) (by first | assumption | decide | omega) (hR.at hbl) ?_
        refine mOk.iload3n dX9_joins_56 rfl ?_
        refine mOk.callV2 (M' := mX9_pairOf) dX9_joins_57 ml_X9_78 ke_X9_pairOf (by first | assumption | rfl) (by decide) (by decide) (by simp [Value.category]) (c_mpairOf hM hT ?_)
        exact hg
theorem c_joins (hT : TOk T) (hM : Md I T) (hR : Ro I xs) (hv : plL T xs) (hQ : ∀ I', Md I' T → Ro I' (jn T none [] xs) → Of [18, 20] [110, 111] I I' → Q none (hS sw I' J)) : mCl mX9_joins 1 0 0 [.ref 97] (hS sw I J) Q := by
  refine mCl.of (by decide) rfl (Nat.le_of_ble_eq_true rfl) ?_
  show mOk _ _ _ _ _ [some (.ref 97), none, none, none, none] _ _ _ _ _
  refine mOk.aload0n dX9_joins_0 rfl ?_
  refine mOk.callV0 (M' := mX9_asOther) dX9_joins_1 ml_X9_166 ke_X9_asOther (by first | assumption | rfl) (by decide) (by decide) (by simp [Value.category]) (c_asOther hR ?_)
  intro I1 hR1 hO1 ho1
  refine mOk.aload0n dX9_joins_4 rfl ?_
  refine mOk.iconst (x := nI 0) dX9_joins_5 (by decide) ?_
  refine mOk.putIt dX9_joins_6 fl_X9_157 (by first | assumption | rfl) ?_
  refine mOk.bipush (x := -9) dX9_joins_9 (by decide) ?_
  refine mOk.istore1n dX9_joins_11 rfl (by decide) rfl ?_
  refine mOk.iconst (x := nI 0) dX9_joins_12 (by decide) ?_
  refine mOk.istore2n dX9_joins_13 rfl (by decide) rfl ?_
  have o : Of [18] [] I1 (wI I1 97 18 (nI 0)) := Of.f (by decide)
  exact l_joins hT hv hQ xs.length 0 none [] _ none none rfl (Nat.zero_add _) (Nat.zero_le _) (fun b hb => by cases hb) (fun y hy => by simp at hy) rfl ((hM.of ho1 (by decide) (by decide)).of o (by decide) (by decide)) (hO1.of o (by decide) (by decide) (by decide)) (RW.nil (wI_s _ _ _ _)) ((ho1.up (by decide) (by decide)).tr (o.up (by decide) (by decide)))
end MODEL10
