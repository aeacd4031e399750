/-! ===== the reference: its rows ===== -/
def RW (I : Nat → Nat → Int32) (f a : Nat) (xs : List Int32) : Prop := xs.length ≤ 128 ∧ I 97 f = nI xs.length ∧ ∀ k c, xs[k]? = some c → I a k = c
abbrev Ro (I : Nat → Nat → Int32) (xs : List Int32) : Prop := RW I 18 110 xs
abbrev Ot (I : Nat → Nat → Int32) (xs : List Int32) : Prop := RW I 20 111 xs
abbrev Kp (I : Nat → Nat → Int32) (xs : List Int32) : Prop := RW I 22 112 xs
section RWS
variable {F S : List Nat} {I I' : Nat → Nat → Int32} {f a : Nat} {xs : List Int32}
theorem RW.of (h : RW I f a xs) (ho : Of F S I I') (hF : f ∉ F) (hS : a ∉ S) (ha : a ≠ 97) : RW I' f a xs := by
  unfold RW
  rw [ho.1 a ha hS, ho.2 f hF]
  exact h
theorem RW.at (h : RW I f a xs) {k : Nat} (hk : k < xs.length) : I a k = xs.getD k (-9) := h.2.2 k _ (getD_at hk _)
theorem RW.push (h : RW I f a xs) (hl : xs.length < 128) (ha : a ≠ 97) {c : Int32} : RW (wI (wI I a xs.length c) 97 f (nI (xs.length + 1))) f a (xs ++ [c]) := by
  refine ⟨by simp; omega, by rw [wI_s]; simp, fun k d hk => ?_⟩
  have hkl := (List.getElem?_eq_some_iff.mp hk).1
  simp at hkl
  rw [wI_c ha]
  rcases Nat.lt_or_ge k xs.length with z | z
  · rw [List.getElem?_append_left z] at hk
    rw [wI_j (by omega)]
    exact h.2.2 k d hk
  · rw [show k = xs.length by omega] at hk ⊢
    rw [wI_s]
    simpa using hk
theorem RW.put (h : RW I f a xs) (ha : a ≠ 97) {k : Nat} (hk : k < xs.length) {c : Int32} : RW (wI I a k c) f a (xs.set k c) := by
  refine ⟨by simp; exact h.1, by rw [wI_c (Ne.symm ha)]; simp; exact h.2.1, fun j d hj => ?_⟩
  by_cases e : k = j
  · subst e
    rw [List.getElem?_set_self hk] at hj
    rw [wI_s]
    exact Option.some.inj hj
  · rw [List.getElem?_set_ne e] at hj
    rw [wI_j (Ne.symm e)]
    exact h.2.2 j d hj
theorem RW.nil (h : I 97 f = nI 0) : RW I f a [] := ⟨by simp, h, fun k c hk => by simp at hk⟩
theorem mem_getD {xs : List Int32} {k : Nat} (hk : k < xs.length) : xs.getD k (-9) ∈ xs := by
  rw [List.getD_eq_getElem?_getD, List.getElem?_eq_getElem hk]
  exact List.getElem_mem _
end RWS
section MODEL9
variable {sw : Bool} {I : Nat → Nat → Int32} {J : Nat → Nat → Int64} {Q : Option Value → mi_H → Prop} {T : List CR} {tx : Nat → List Int32} {xs ys : List Int32}
theorem l_addsOut {I0 : Nat → Nat → Int32} {t : Nat} (ht : t < 4) (hl : xs.length + (tx t).length ≤ 128) (hQ : ∀ I', Ro I' (xs ++ tx t) → Of [18] [110] I0 I' → Q none (hS sw I' J)) :
    ∀ (m k : Nat) (I : Nat → Nat → Int32), k + m = (tx t).length → MX I tx → Ro I (xs ++ (tx t).take k) → Of [18] [110] I0 I → mOk mX9_addsOut 0 0 0 2 [some (.ref 97), some (.int (nI t)), some (.int (nI k))] [] (hS sw I J) 0 0 Q := by
  intro m
  induction m with
  | zero =>
    intro k I hk hX hR ho
    obtain ⟨x1, x2, x3⟩ := hX t ht
    rw [List.take_of_length_le (by omega)] at hR
    refine mOk.iload2n dX9_addsOut_2 rfl ?_
    refine mOk.aload0n dX9_addsOut_3 rfl ?_
    refine mOk.getR dX9_addsOut_4 fl_X9_34 (by first | assumption | rfl) (by first | assumption | rfl) ?_
    refine mOk.iload1n dX9_addsOut_7 rfl ?_
    refine mOk.ialdv dX9_addsOut_8 (by first | assumption | rfl) rfl (by omega) (by first | assumption | decide | omega) x2 ?_
    refine mOk.icge (tgt := 48) dX9_addsOut_9 (by decide) (fun c9 => ?_) (fun c9 => absurd ((nI_le' (by omega) (by omega)).mpr (by omega)) c9)
    refine mOk.vret dX9_addsOut_48 rfl (by decide) ?_
    exact hQ I hR ho
  | succ m ih =>
    intro k I hk hX hR ho
    obtain ⟨x1, x2, x3⟩ := hX t ht
    have hkl : k < (tx t).length := by omega
    have hlen : (xs ++ (tx t).take k).length = xs.length + k := by rw [List.length_append, List.length_take]; omega
    refine mOk.iload2n dX9_addsOut_2 rfl ?_
    refine mOk.aload0n dX9_addsOut_3 rfl ?_
    refine mOk.getR dX9_addsOut_4 fl_X9_34 (by first | assumption | rfl) (by first | assumption | rfl) ?_
    refine mOk.iload1n dX9_addsOut_7 rfl ?_
    refine mOk.ialdv dX9_addsOut_8 (by first | assumption | rfl) rfl (by omega) (by first | assumption | decide | omega) x2 ?_
    refine mOk.icge (tgt := 48) dX9_addsOut_9 (by decide) (fun c9 => absurd c9 (mt (nI_le' (by omega) (by omega)).mp (by omega))) (fun c9 => ?_)
    refine mOk.aload0n dX9_addsOut_12 rfl ?_
    refine mOk.getR dX9_addsOut_13 fl_X9_46 (by first | assumption | rfl) (by first | assumption | rfl) ?_
    refine mOk.aload0n dX9_addsOut_16 rfl ?_
    refine mOk.getIv dX9_addsOut_17 fl_X9_157 (by first | assumption | rfl) hR.2.1 ?_
    refine mOk.aload0n dX9_addsOut_20 rfl ?_
    refine mOk.getR dX9_addsOut_21 fl_X9_37 (by first | assumption | rfl) (by first | assumption | rfl) ?_
    refine mOk.bipush (x := nI 16) dX9_addsOut_24 (by decide) ?_
    refine mOk.iload1n dX9_addsOut_26 rfl ?_
    refine mOk.imul dX9_addsOut_27 ?_
    refine mOk.top ((pk_mul _ _)) ?_
    refine mOk.iload2n dX9_addsOut_28 rfl ?_
    refine mOk.iadd dX9_addsOut_29 ?_
    refine mOk.top ((nI_add _ _)) ?_
    refine mOk.ialdv dX9_addsOut_30 (by first | assumption | rfl) rfl (by omega) (by first | assumption | decide | omega) (x3 k _ (getD_at hkl (-9))) ?_
    refine mOk.iastt dX9_addsOut_31 (by first | assumption | rfl) rfl (by omega) (by first | assumption | decide | omega) ?_
    have e18 : wI I 110 (xs ++ (tx t).take k).length ((tx t).getD k (-9)) 97 18 = nI (xs ++ (tx t).take k).length := by rw [wI_c (by decide)]; exact hR.2.1
    refine mOk.aload0n dX9_addsOut_32 rfl ?_
    refine mOk.dup dX9_addsOut_33 rfl ?_
    refine mOk.getIv dX9_addsOut_34 fl_X9_157 (by first | assumption | rfl) e18 ?_
    refine mOk.iconst (x := nI 1) dX9_addsOut_37 (by decide) ?_
    refine mOk.iadd dX9_addsOut_38 ?_
    refine mOk.top ((nI_add _ _)) ?_
    refine mOk.putIt dX9_addsOut_39 fl_X9_157 (by first | assumption | rfl) ?_
    refine mOk.iinc2 dX9_addsOut_42 (mOk.inc1 rfl) (by decide) rfl ?_
    refine mOk.goto (tgt := 2) dX9_addsOut_45 (by decide) ?_
    have o : Of [18] [110] I (wI (wI I 110 (xs ++ (tx t).take k).length ((tx t).getD k (-9))) 97 18 (nI ((xs ++ (tx t).take k).length + 1))) := (Of.a (by decide) (by decide)).tr (Of.f (by decide))
    refine ih (k + 1) _ (by omega) (hX.of o (by decide) (by decide)) ?_ (ho.tr o)
    rw [take_s hkl, ← List.append_assoc]
    exact hR.push (by omega) (by decide)
theorem c_addsOut {t : Nat} (ht : t < 4) (hX : MX I tx) (hR : Ro I xs) (hl : xs.length + (tx t).length ≤ 128) (hQ : ∀ I', Ro I' (xs ++ tx t) → Of [18] [110] I I' → Q none (hS sw I' J)) : mCl mX9_addsOut 0 0 0 [.ref 97, .int (nI t)] (hS sw I J) Q := by
  refine mCl.of (by decide) rfl (Nat.le_of_ble_eq_true rfl) ?_
  show mOk _ _ _ _ _ [some (.ref 97), some (.int (nI t)), none] _ _ _ _ _
  refine mOk.iconst (x := nI 0) dX9_addsOut_0 (by decide) ?_
  refine mOk.istore2n dX9_addsOut_1 rfl (by decide) rfl ?_
  exact l_addsOut ht hl hQ (tx t).length 0 I (Nat.zero_add _) hX (by rw [List.take_zero, List.append_nil]; exact hR) Of.rf
theorem c_comeOut {t : Nat} (ht : t < 4) (hX : MX I tx) (hQ : ∀ I', Ro I' (tx t) → Of [18] [110] I I' → Q none (hS sw I' J)) : mCl mX9_comeOut 1 0 0 [.ref 97, .int (nI t)] (hS sw I J) Q := by
  have hx := (hX t ht).1
  refine mCl.of (by decide) rfl (Nat.le_of_ble_eq_true rfl) ?_
  show mOk _ _ _ _ _ [some (.ref 97), some (.int (nI t))] _ _ _ _ _
  refine mOk.aload0n dX9_comeOut_0 rfl ?_
  refine mOk.iconst (x := nI 0) dX9_comeOut_1 (by decide) ?_
  refine mOk.putIt dX9_comeOut_2 fl_X9_157 (by first | assumption | rfl) ?_
  have o : Of [18] [110] I (wI I 97 18 (nI 0)) := Of.f (by decide)
  refine mOk.aload0n dX9_comeOut_5 rfl ?_
  refine mOk.iload1n dX9_comeOut_6 rfl ?_
  refine mOk.callV1 (M' := mX9_addsOut) dX9_comeOut_7 ml_X9_160 ke_X9_addsOut (by first | assumption | rfl) (by decide) (by decide) (by simp [Value.category]) (c_addsOut (xs := []) ht (hX.of o (by decide) (by decide)) (RW.nil (wI_s I 97 18 (nI 0))) (by simp; omega) ?_)
  intro I' hR ho
  refine mOk.vret dX9_comeOut_10 rfl (by decide) ?_
  exact hQ I' hR (o.tr ho)
theorem l_asOther {I0 : Nat → Nat → Int32} (hQ : ∀ I', Ro I' xs → Ot I' xs → Of [20] [111] I0 I' → Q none (hS sw I' J)) :
    ∀ (m k : Nat) (I : Nat → Nat → Int32), k + m = xs.length → Ro I xs → I 97 20 = nI xs.length → (∀ j, j < k → I 111 j = xs.getD j (-9)) → Of [20] [111] I0 I → mOk mX9_asOther 0 0 0 10 [some (.ref 97), some (.int (nI k))] [] (hS sw I J) 0 0 Q := by
  intro m
  induction m with
  | zero =>
    intro k I hk hR h20 hj ho
    have hl := hR.1
    refine mOk.iload1n dX9_asOther_10 rfl ?_
    refine mOk.aload0n dX9_asOther_11 rfl ?_
    refine mOk.getIv dX9_asOther_12 fl_X9_157 (by first | assumption | rfl) hR.2.1 ?_
    refine mOk.icge (tgt := 36) dX9_asOther_15 (by decide) (fun c15 => ?_) (fun c15 => absurd ((nI_le' (by omega) (by omega)).mpr (by omega)) c15)
    refine mOk.vret dX9_asOther_36 rfl (by decide) ?_
    refine hQ I hR ⟨hl, h20, fun j c hc => ?_⟩ ho
    have hjl := (List.getElem?_eq_some_iff.mp hc).1
    rw [hj j (by omega), List.getD_eq_getElem?_getD, hc]
    rfl
  | succ m ih =>
    intro k I hk hR h20 hj ho
    have hl := hR.1
    refine mOk.iload1n dX9_asOther_10 rfl ?_
    refine mOk.aload0n dX9_asOther_11 rfl ?_
    refine mOk.getIv dX9_asOther_12 fl_X9_157 (by first | assumption | rfl) hR.2.1 ?_
    refine mOk.icge (tgt := 36) dX9_asOther_15 (by decide) (fun c15 => absurd c15 (mt (nI_le' (by omega) (by omega)).mp (by omega))) (fun c15 => ?_)
    refine mOk.aload0n dX9_asOther_18 rfl ?_
    refine mOk.getR dX9_asOther_19 fl_X9_49 (by first | assumption | rfl) (by first | assumption | rfl) ?_
    refine mOk.iload1n dX9_asOther_22 rfl ?_
    refine mOk.aload0n dX9_asOther_23 rfl ?_
    refine mOk.getR dX9_asOther_24 fl_X9_46 (by first | assumption | rfl) (by first | assumption | rfl) ?_
    refine mOk.iload1n dX9_asOther_27 rfl ?_
    refine mOk.ialdv dX9_asOther_28 (by first | assumption | rfl) rfl (by omega) (by first | assumption | decide | omega) (hR.at (by omega)) ?_
    refine mOk.iastt dX9_asOther_29 (by first | assumption | rfl) rfl (by omega) (by first | assumption | decide | omega) ?_
    refine mOk.iinc1 dX9_asOther_30 (mOk.inc1 rfl) (by decide) rfl ?_
    refine mOk.goto (tgt := 10) dX9_asOther_33 (by decide) ?_
    have o : Of [20] [111] I (wI I 111 k (xs.getD k (-9))) := Of.a (by decide) (by decide)
    refine ih (k + 1) _ (by omega) (hR.of o (by decide) (by decide) (by decide)) (by rw [wI_c (by decide)]; exact h20) (fun j hjk => ?_) (ho.tr o)
    rcases Nat.lt_or_ge j k with z | z
    · rw [wI_j (by omega)]
      exact hj j z
    · rw [show j = k by omega, wI_s]
theorem c_asOther (hR : Ro I xs) (hQ : ∀ I', Ro I' xs → Ot I' xs → Of [20] [111] I I' → Q none (hS sw I' J)) : mCl mX9_asOther 0 0 0 [.ref 97] (hS sw I J) Q := by
  refine mCl.of (by decide) rfl (Nat.le_of_ble_eq_true rfl) ?_
  show mOk _ _ _ _ _ [some (.ref 97), none] _ _ _ _ _
  refine mOk.aload0n dX9_asOther_0 rfl ?_
  refine mOk.aload0n dX9_asOther_1 rfl ?_
  refine mOk.getIv dX9_asOther_2 fl_X9_157 (by first | assumption | rfl) hR.2.1 ?_
  refine mOk.putIt dX9_asOther_5 fl_X9_163 (by first | assumption | rfl) ?_
  refine mOk.iconst (x := nI 0) dX9_asOther_8 (by decide) ?_
  refine mOk.istore1n dX9_asOther_9 rfl (by decide) rfl ?_
  have o : Of [20] [111] I (wI I 97 20 (nI xs.length)) := Of.f (by decide)
  exact l_asOther hQ xs.length 0 _ (Nat.zero_add _) (hR.of o (by decide) (by decide) (by decide)) (wI_s _ _ _ _) (fun j hj => absurd hj (Nat.not_lt_zero j)) o
theorem l_keeps {I0 : Nat → Nat → Int32} (hQ : ∀ I', Ro I' xs → Kp I' xs → Of [22] [112] I0 I' → Q none (hS sw I' J)) :
    ∀ (m k : Nat) (I : Nat → Nat → Int32), k + m = xs.length → Ro I xs → I 97 22 = nI xs.length → (∀ j, j < k → I 112 j = xs.getD j (-9)) → Of [22] [112] I0 I → mOk mX9_keeps 0 0 0 10 [some (.ref 97), some (.int (nI k))] [] (hS sw I J) 0 0 Q := by
  intro m
  induction m with
  | zero =>
    intro k I hk hR h20 hj ho
    have hl := hR.1
    refine mOk.iload1n dX9_keeps_10 rfl ?_
    refine mOk.aload0n dX9_keeps_11 rfl ?_
    refine mOk.getIv dX9_keeps_12 fl_X9_157 (by first | assumption | rfl) hR.2.1 ?_
    refine mOk.icge (tgt := 36) dX9_keeps_15 (by decide) (fun c15 => ?_) (fun c15 => absurd ((nI_le' (by omega) (by omega)).mpr (by omega)) c15)
    refine mOk.vret dX9_keeps_36 rfl (by decide) ?_
    refine hQ I hR ⟨hl, h20, fun j c hc => ?_⟩ ho
    have hjl := (List.getElem?_eq_some_iff.mp hc).1
    rw [hj j (by omega), List.getD_eq_getElem?_getD, hc]
    rfl
  | succ m ih =>
    intro k I hk hR h20 hj ho
    have hl := hR.1
    refine mOk.iload1n dX9_keeps_10 rfl ?_
    refine mOk.aload0n dX9_keeps_11 rfl ?_
    refine mOk.getIv dX9_keeps_12 fl_X9_157 (by first | assumption | rfl) hR.2.1 ?_
    refine mOk.icge (tgt := 36) dX9_keeps_15 (by decide) (fun c15 => absurd c15 (mt (nI_le' (by omega) (by omega)).mp (by omega))) (fun c15 => ?_)
    refine mOk.aload0n dX9_keeps_18 rfl ?_
    refine mOk.getR dX9_keeps_19 fl_X9_52 (by first | assumption | rfl) (by first | assumption | rfl) ?_
    refine mOk.iload1n dX9_keeps_22 rfl ?_
    refine mOk.aload0n dX9_keeps_23 rfl ?_
    refine mOk.getR dX9_keeps_24 fl_X9_46 (by first | assumption | rfl) (by first | assumption | rfl) ?_
    refine mOk.iload1n dX9_keeps_27 rfl ?_
    refine mOk.ialdv dX9_keeps_28 (by first | assumption | rfl) rfl (by omega) (by first | assumption | decide | omega) (hR.at (by omega)) ?_
    refine mOk.iastt dX9_keeps_29 (by first | assumption | rfl) rfl (by omega) (by first | assumption | decide | omega) ?_
    refine mOk.iinc1 dX9_keeps_30 (mOk.inc1 rfl) (by decide) rfl ?_
    refine mOk.goto (tgt := 10) dX9_keeps_33 (by decide) ?_
    have o : Of [22] [112] I (wI I 112 k (xs.getD k (-9))) := Of.a (by decide) (by decide)
    refine ih (k + 1) _ (by omega) (hR.of o (by decide) (by decide) (by decide)) (by rw [wI_c (by decide)]; exact h20) (fun j hjk => ?_) (ho.tr o)
    rcases Nat.lt_or_ge j k with z | z
    · rw [wI_j (by omega)]
      exact hj j z
    · rw [show j = k by omega, wI_s]
theorem c_keeps (hR : Ro I xs) (hQ : ∀ I', Ro I' xs → Kp I' xs → Of [22] [112] I I' → Q none (hS sw I' J)) : mCl mX9_keeps 0 0 0 [.ref 97] (hS sw I J) Q := by
  refine mCl.of (by decide) rfl (Nat.le_of_ble_eq_true rfl) ?_
  show mOk _ _ _ _ _ [some (.ref 97), none] _ _ _ _ _
  refine mOk.aload0n dX9_keeps_0 rfl ?_
  refine mOk.aload0n dX9_keeps_1 rfl ?_
  refine mOk.getIv dX9_keeps_2 fl_X9_157 (by first | assumption | rfl) hR.2.1 ?_
  refine mOk.putIt dX9_keeps_5 fl_X9_202 (by first | assumption | rfl) ?_
  refine mOk.iconst (x := nI 0) dX9_keeps_8 (by decide) ?_
  refine mOk.istore1n dX9_keeps_9 rfl (by decide) rfl ?_
  have o : Of [22] [112] I (wI I 97 22 (nI xs.length)) := Of.f (by decide)
  exact l_keeps hQ xs.length 0 _ (Nat.zero_add _) (hR.of o (by decide) (by decide) (by decide)) (wI_s _ _ _ _) (fun j hj => absurd hj (Nat.not_lt_zero j)) o
/-- the pieces of one -/
theorem l_comeApart2 {I0 : Nat → Nat → Int32} {out : List Int32} {c : Int32} {k : Nat} (hc : okC T c) (hl : out.length + (tP T c).length ≤ 128) (kk : ∀ I', Md I' T → Ot I' xs → Ro I' (out ++ tP T c) → Of [18, 20] [110, 111] I0 I' → ∀ l3, mOk mX9_comeApart 1 0 0 73 [some (.ref 97), some (.int (nI k)), some (.int c), some (.int l3)] [] (hS sw I' J) 0 0 Q) :
    ∀ (m i : Nat) (I : Nat → Nat → Int32), i + m = (tP T c).length → Md I T → Ot I xs → Ro I (out ++ (tP T c).take i) → Of [18, 20] [110, 111] I0 I → mOk mX9_comeApart 1 0 0 28 [some (.ref 97), some (.int (nI k)), some (.int c), some (.int (nI i))] [] (hS sw I J) 0 0 Q := by
  obtain ⟨j, hj, e⟩ := hc
  intro m
  induction m with
  | zero =>
    intro i I hi hM hO hR ho
    have hl24 := hM.1
    have hp4 := hM.P4 c
    rw [List.take_of_length_le (by omega)] at hR
    refine mOk.iload3n dX9_comeApart_28 rfl ?_
    refine mOk.aload0n dX9_comeApart_29 rfl ?_
    refine mOk.getR dX9_comeApart_30 fl_X9_22 (by first | assumption | rfl) (by first | assumption | rfl) ?_
    refine mOk.iload2n dX9_comeApart_33 rfl ?_
    refine mOk.ialdv (j := j) dX9_comeApart_34 (by first | assumption | rfl) e (by omega) (by first | assumption | decide | omega) (hM.P e hj) ?_
    refine mOk.icge (tgt := 73) dX9_comeApart_35 (by decide) (fun c35 => ?_) (fun c35 => absurd ((nI_le' (by omega) (by omega)).mpr (by omega)) c35)
    exact kk I hM hO hR ho _
  | succ m ih =>
    intro i I hi hM hO hR ho
    have hl24 := hM.1
    have hp4 := hM.P4 c
    have hil : i < (tP T c).length := by omega
    have hlen : (out ++ (tP T c).take i).length = out.length + i := by rw [List.length_append, List.length_take]; omega
    refine mOk.iload3n dX9_comeApart_28 rfl ?_
    refine mOk.aload0n dX9_comeApart_29 rfl ?_
    refine mOk.getR dX9_comeApart_30 fl_X9_22 (by first | assumption | rfl) (by first | assumption | rfl) ?_
    refine mOk.iload2n dX9_comeApart_33 rfl ?_
    refine mOk.ialdv (j := j) dX9_comeApart_34 (by first | assumption | rfl) e (by omega) (by first | assumption | decide | omega) (hM.P e hj) ?_
    refine mOk.icge (tgt := 73) dX9_comeApart_35 (by decide) (fun c35 => absurd c35 (mt (nI_le' (by omega) (by omega)).mp (by omega))) (fun c35 => ?_)
    refine mOk.aload0n dX9_comeApart_38 rfl ?_
    refine mOk.getR dX9_comeApart_39 fl_X9_46 (by first | assumption | rfl) (by first | assumption | rfl) ?_
    refine mOk.aload0n dX9_comeApart_42 rfl ?_
    refine mOk.getIv dX9_comeApart_43 fl_X9_157 (by first | assumption | rfl) hR.2.1 ?_
    refine mOk.aload0n dX9_comeApart_46 rfl ?_
    refine mOk.getR dX9_comeApart_47 fl_X9_25 (by first | assumption | rfl) (by first | assumption | rfl) ?_
    refine mOk.iconst (x := nI 4) dX9_comeApart_50 (by decide) ?_
    refine mOk.iload2n dX9_comeApart_51 rfl ?_
    refine mOk.imul dX9_comeApart_52 ?_
    refine mOk.iload3n dX9_comeApart_53 rfl ?_
    refine mOk.iadd dX9_comeApart_54 ?_
    refine mOk.ialdv (j := 4 * j + i) dX9_comeApart_55 (by first | assumption | rfl) (by rw [e, pk_mul, nI_add]) (by omega) (by first | assumption | decide | omega) (hM.p e hj hil) ?_
    refine mOk.iastt dX9_comeApart_56 (by first | assumption | rfl) rfl (by omega) (by first | assumption | decide | omega) ?_
    have e18 : wI I 110 (out ++ (tP T c).take i).length ((tP T c).getD i (-9)) 97 18 = nI (out ++ (tP T c).take i).length := by rw [wI_c (by decide)]; exact hR.2.1
    refine mOk.aload0n dX9_comeApart_57 rfl ?_
    refine mOk.dup dX9_comeApart_58 rfl ?_
    refine mOk.getIv dX9_comeApart_59 fl_X9_157 (by first | assumption | rfl) e18 ?_
    refine mOk.iconst (x := nI 1) dX9_comeApart_62 (by decide) ?_
    refine mOk.iadd dX9_comeApart_63 ?_
    refine mOk.top ((nI_add _ _)) ?_
    refine mOk.putIt dX9_comeApart_64 fl_X9_157 (by first | assumption | rfl) ?_
    refine mOk.iinc3 dX9_comeApart_67 (mOk.inc1 rfl) (by decide) rfl ?_
    refine mOk.goto (tgt := 28) dX9_comeApart_70 (by decide) ?_
    have o : Of [18] [110] I (wI (wI I 110 (out ++ (tP T c).take i).length ((tP T c).getD i (-9))) 97 18 (nI ((out ++ (tP T c).take i).length + 1))) := (Of.a (by decide) (by decide)).tr (Of.f (by decide))
    refine ih (i + 1) _ (by omega) (hM.of o (by decide) (by decide)) (hO.of o (by decide) (by decide) (by decide)) ?_ (ho.tr (o.up (by decide) (by decide)))
    rw [take_s hil, ← List.append_assoc]
    exact hR.push (by omega) (by decide)
theorem l_comeApart {I0 : Nat → Nat → Int32} (hv : okL T xs) (hl : pcs T xs ≤ 128) (hQ : ∀ I', Md I' T → Ro I' (xs.flatMap (tP T)) → Of [18, 20] [110, 111] I0 I' → Q none (hS sw I' J)) :
    ∀ (m k : Nat) (I : Nat → Nat → Int32) (l2 l3 : Option Value), mi_s [none, none, l2] 3 = true → k + m = xs.length → Md I T → Ot I xs → Ro I ((xs.take k).flatMap (tP T)) → Of [18, 20] [110, 111] I0 I → mOk mX9_comeApart 1 0 0 11 [some (.ref 97), some (.int (nI k)), l2, l3] [] (hS sw I J) 0 0 Q := by
  intro m
  induction m with
  | zero =>
    intro k I l2 l3 h2 hk hM hO hR ho
    have hx := hO.1
    rw [List.take_of_length_le (by omega)] at hR
    refine mOk.iload1n dX9_comeApart_11 rfl ?_
    refine mOk.aload0n dX9_comeApart_12 rfl ?_
    refine mOk.getIv dX9_comeApart_13 fl_X9_163 (by first | assumption | rfl) hO.2.1 ?_
    refine mOk.icge (tgt := 79) dX9_comeApart_16 (by decide) (fun c16 => ?_) (fun c16 => absurd ((nI_le' (by omega) (by omega)).mpr (by omega)) c16)
    refine mOk.vret dX9_comeApart_79 rfl (by decide) ?_
    exact hQ I hM hR ho
  | succ m ih =>
    intro k I l2 l3 h2 hk hM hO hR ho
    have hx := hO.1
    have hkl : k < xs.length := by omega
    have hsplit : pcs T xs = pcs T (xs.take k) + ((tP T (xs.getD k (-9))).length + pcs T (xs.drop (k + 1))) := by
      rw [← pcs_cons, ← drop_c hkl, ← pcs_app, List.take_append_drop]
    have hfl : ((xs.take k).flatMap (tP T)).length = pcs T (xs.take k) := rfl
    refine mOk.iload1n dX9_comeApart_11 rfl ?_
    refine mOk.aload0n dX9_comeApart_12 rfl ?_
    refine mOk.getIv dX9_comeApart_13 fl_X9_163 (by first | assumption | rfl) hO.2.1 ?_
    refine mOk.icge (tgt := 79) dX9_comeApart_16 (by decide) (fun c16 => absurd c16 (mt (nI_le' (by omega) (by omega)).mp (by omega))) (fun c16 => ?_)
    refine mOk.aload0n dX9_comeApart_19 rfl ?_
    refine mOk.getR dX9_comeApart_20 fl_X9_49 (by first | assumption | rfl) (by first | assumption | rfl) ?_
    refine mOk.iload1n dX9_comeApart_23 rfl ?_
    refine mOk.ialdv dX9_comeApart_24 (by first | assumption | rfl) rfl (by omega) (by first | assumption | decide | omega) (hO.at hkl) ?_
    refine mOk.istore2n dX9_comeApart_25 rfl (by decide) rfl ?_
    refine mOk.iconst (x := nI 0) dX9_comeApart_26 (by decide) ?_
    refine mOk.istore3n dX9_comeApart_27 rfl (by decide) rfl ?_
    refine l_comeApart2 (I0 := I0) (xs := xs) (out := (xs.take k).flatMap (tP T)) (hv _ (mem_getD hkl)) (by omega) (fun I' hM' hO' hR' ho' l3 => ?_) (tP T (xs.getD k (-9))).length 0 I (Nat.zero_add _) hM hO (by rw [List.take_zero, List.append_nil]; exact hR) ho
    refine mOk.iinc1 dX9_comeApart_73 (mOk.inc1 rfl) (by decide) rfl ?_
    refine mOk.goto (tgt := 11) dX9_comeApart_76 (by decide) ?_
    refine ih (k + 1) I' _ _ rfl (by omega) hM' hO' ?_ ho'
    rw [take_s hkl, List.flatMap_append]
    simpa using hR'
theorem c_comeApart (hM : Md I T) (hR : Ro I xs) (hv : okL T xs) (hl : pcs T xs ≤ 128) (hQ : ∀ I', Md I' T → Ro I' (xs.flatMap (tP T)) → Of [18, 20] [110, 111] I I' → Q none (hS sw I' J)) : mCl mX9_comeApart 1 0 0 [.ref 97] (hS sw I J) Q := by
  refine mCl.of (by decide) rfl (Nat.le_of_ble_eq_true rfl) ?_
  show mOk _ _ _ _ _ [some (.ref 97), none, none, none] _ _ _ _ _
  refine mOk.aload0n dX9_comeApart_0 rfl ?_
  refine mOk.callV0 (M' := mX9_asOther) dX9_comeApart_1 ml_X9_166 ke_X9_asOther (by first | assumption | rfl) (by decide) (by decide) (by simp [Value.category]) (c_asOther hR ?_)
  intro I1 hR1 hO1 ho1
  refine mOk.aload0n dX9_comeApart_4 rfl ?_
  refine mOk.iconst (x := nI 0) dX9_comeApart_5 (by decide) ?_
  refine mOk.putIt dX9_comeApart_6 fl_X9_157 (by first | assumption | rfl) ?_
  refine mOk.iconst (x := nI 0) dX9_comeApart_9 (by decide) ?_
  refine mOk.istore1n dX9_comeApart_10 rfl (by decide) rfl ?_
  have o : Of [18] [] I1 (wI I1 97 18 (nI 0)) := Of.f (by decide)
  exact l_comeApart hv hl hQ xs.length 0 _ none none rfl (Nat.zero_add _) ((hM.of ho1 (by decide) (by decide)).of o (by decide) (by decide)) (hO1.of o (by decide) (by decide) (by decide)) (RW.nil (wI_s _ _ _ _)) ((ho1.up (by decide) (by decide)).tr (o.up (by decide) (by decide)))
end MODEL9
