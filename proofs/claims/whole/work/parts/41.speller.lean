/-! ===== Speller ===== -/
theorem minl_sat {s : Nat} (h : s ≤ MO + MO) : (if (1000000000000000000 : Int64) < lN s then (1000000000000000000 : Int64) else lN s) = lN (sat s) := by
  have e : (1000000000000000000 : Int64) = lN MO := by decide
  have hMO : MO = 1000000000000000000 := rfl
  rw [e]
  unfold sat
  by_cases z : MO < s
  · rw [if_pos ((pk_lLT (by omega) (by omega)).mpr z), Nat.min_eq_right (by omega)]
  · rw [if_neg (mt (pk_lLT (by omega) (by omega)).mp z), Nat.min_eq_left (by omega)]
section SPELLER
variable {sw : Bool} {I : Nat → Nat → Int32} {J : Nat → Nat → Int64} {cb : Nat} {T : List CR} {Q : Option Value → mi_H → Prop} {r ra cap : Nat} {xs : List Int32}
def tmR (N : Nat → Nat) (e : Nat) (t : Tl) : Nat := if t.1 ≤ e ∧ t.2 (e - t.1) = true then N (e - t.1) else 0
theorem l_ways (hT : TOk T) (hc : Cd I cb T) (hx : Rw I r ra cap xs) {e : Nat} (he : e ≤ 128) {N : Nat → Nat} (hN : ∀ k, k < e → J 90 k = lN (sat (N k))) (hQ : Q (some (.long (lN (sat (sm (tmR N e) (tiles T xs)))))) (hS sw I J)) :
    ∀ (m j : Nat) (l7 : Option Value), j + m = T.length → mOk mX7_waysUpTo 3 0 0 6 [some (.ref 89), some (.int (nI e)), some (.ref r), some (.ref cb), some (.long (lN (sat (sm (tmR N e) ((tiles T xs).take j))))), none, some (.int (nI j)), l7] [] (hS sw I J) 0 0 Q := by
  obtain ⟨k0, -⟩ := cdK hc.1
  obtain ⟨r0, -⟩ := id hx.1
  have hl := hc.2.1
  have b1 := hx.1.2.2.2.1
  have b2 := hx.2.1
  intro m
  induction m with
  | zero =>
    intro j l7 hj
    refine mOk.iload6 dX7_waysUpTo_6 ?_
    refine mOk.aload3n dX7_waysUpTo_8 rfl ?_
    refine mOk.callV0 (M' := mX1_size) dX7_waysUpTo_9 ml_X7_31 ke_X1_size (by first | assumption | rfl) (by decide) (by decide) (by simp [Value.category]) (c_size hc ?_)
    refine mOk.icge (tgt := 76) dX7_waysUpTo_12 (by decide) (fun c12 => ?_) (fun c12 => absurd ((nI_le' (by omega) (by omega)).mpr (by omega)) c12)
    refine mOk.lload4 dX7_waysUpTo_76 ?_
    refine mOk.lret dX7_waysUpTo_78 rfl ?_
    rw [List.take_of_length_le (by simp [tiles]; omega)]
    exact hQ
  | succ m ih =>
    intro j l7 hj
    have hp1 := (hT.all (nI j) ⟨j, by omega, rfl⟩).2.2.1
    have hp4 := hc.le4 (nI j)
    have IH := fun l7 => ih (j + 1) l7 (by omega)
    rw [tiles_take (by omega), sm_app, sm, sm, Nat.add_zero] at IH
    refine mOk.iload6 dX7_waysUpTo_6 ?_
    refine mOk.aload3n dX7_waysUpTo_8 rfl ?_
    refine mOk.callV0 (M' := mX1_size) dX7_waysUpTo_9 ml_X7_31 ke_X1_size (by first | assumption | rfl) (by decide) (by decide) (by simp [Value.category]) (c_size hc ?_)
    refine mOk.icge (tgt := 76) dX7_waysUpTo_12 (by decide) (fun c12 => absurd c12 (mt (nI_le' (by omega) (by omega)).mp (by omega))) (fun c12 => ?_)
    refine mOk.iload1n dX7_waysUpTo_15 rfl ?_
    refine mOk.aload3n dX7_waysUpTo_16 rfl ?_
    refine mOk.iload6 dX7_waysUpTo_17 ?_
    refine mOk.callV1 (M' := mX1_pieceCount) dX7_waysUpTo_19 ml_X7_36 ke_X1_pieceCount (by first | assumption | rfl) (by decide) (by decide) (by simp [Value.category]) (c_pieceCount hc ?_)
    by_cases hle : (tP T (nI j)).length ≤ e
    · refine mOk.isub dX7_waysUpTo_22 ?_
      refine mOk.top (pk_sub hle) ?_
      refine mOk.istore7 dX7_waysUpTo_23 (by decide) rfl ?_
      refine mOk.iload7 dX7_waysUpTo_25 ?_
      refine mOk.iflt (tgt := 70) dX7_waysUpTo_27 (by decide) (fun c27 => absurd c27 (nI_neg' (by omega))) (fun c27 => ?_)
      refine mOk.iload7 dX7_waysUpTo_30 ?_
      refine mOk.aload0n dX7_waysUpTo_32 rfl ?_
      refine mOk.getR dX7_waysUpTo_33 fl_X7_9 (by first | assumption | rfl) (by first | assumption | rfl) ?_
      refine mOk.alenJ dX7_waysUpTo_36 (by first | assumption | rfl) rfl ?_
      refine mOk.icge (tgt := 70) dX7_waysUpTo_37 (by decide) (fun c37 => absurd c37 (mt (nI_le' (by omega) (by omega)).mp (by omega))) (fun c37 => ?_)
      refine mOk.aload3n dX7_waysUpTo_40 rfl ?_
      refine mOk.iload6 dX7_waysUpTo_41 ?_
      refine mOk.aload2n dX7_waysUpTo_43 rfl ?_
      refine mOk.iload7 dX7_waysUpTo_44 ?_
      refine mOk.callV3 (M' := mX1_piecesStandAt) dX7_waysUpTo_46 ml_X7_40 ke_X1_piecesStandAt (by first | assumption | rfl) (by decide) (by decide) (by simp [Value.category]) (c_stand hc hx (by omega) (fun hst => ?_) (fun hst => ?_))
      · have hterm : tmR N e (tile T xs j) = N (e - (tP T (nI j)).length) := if_pos ⟨hle, stnB_iff.mpr hst⟩
        rw [hterm] at IH
        refine mOk.ifeq (tgt := 70) dX7_waysUpTo_49 (by decide) (fun c49 => absurd c49 ((by decide))) (fun c49 => ?_)
        refine mOk.lload4 dX7_waysUpTo_52 ?_
        refine mOk.aload0n dX7_waysUpTo_54 rfl ?_
        refine mOk.getR dX7_waysUpTo_55 fl_X7_9 (by first | assumption | rfl) (by first | assumption | rfl) ?_
        refine mOk.iload7 dX7_waysUpTo_58 ?_
        refine mOk.laldv dX7_waysUpTo_60 (by first | assumption | rfl) rfl (by omega) (by first | assumption | decide | omega) (hN _ (by omega)) ?_
        refine mOk.ladd dX7_waysUpTo_61 ?_
        refine mOk.topl (lN_add _ _) ?_
        have hs1 := sat_le (sm (tmR N e) ((tiles T xs).take j))
        have hs2 := sat_le (N (e - (tP T (nI j)).length))
        refine mOk.ldc2 dX7_waysUpTo_62 cl_X7_44 ?_
        refine mOk.mminl dX7_waysUpTo_65 ml_X7_46 (by decide) (by decide) (by simp [Value.category]) ?_
        refine mOk.topl (minl_sat (by omega)) ?_
        rw [sat_add]
        refine mOk.lstore4 dX7_waysUpTo_68 (by decide) rfl ?_
        refine mOk.iinc6 dX7_waysUpTo_70 (mOk.inc1 rfl) (by decide) rfl ?_
        refine mOk.goto (tgt := 6) dX7_waysUpTo_73 (by decide) ?_
        exact IH _
      · have hterm : tmR N e (tile T xs j) = 0 := if_neg (fun z => hst (stnB_iff.mp z.2))
        rw [hterm, Nat.add_zero] at IH
        refine mOk.ifeq (tgt := 70) dX7_waysUpTo_49 (by decide) (fun c49 => ?_) (fun c49 => absurd (rfl) c49)
        refine mOk.iinc6 dX7_waysUpTo_70 (mOk.inc1 rfl) (by decide) rfl ?_
        refine mOk.goto (tgt := 6) dX7_waysUpTo_73 (by decide) ?_
        exact IH _
    · have hterm : tmR N e (tile T xs j) = 0 := if_neg (fun z => hle z.1)
      rw [hterm, Nat.add_zero] at IH
      refine mOk.isub dX7_waysUpTo_22 ?_
      refine mOk.istore7 dX7_waysUpTo_23 (by decide) rfl ?_
      refine mOk.iload7 dX7_waysUpTo_25 ?_
      refine mOk.iflt (tgt := 70) dX7_waysUpTo_27 (by decide) (fun c27 => ?_) (fun c27 => absurd (pk_sneg (by omega) (by omega)) c27)
      refine mOk.iinc6 dX7_waysUpTo_70 (mOk.inc1 rfl) (by decide) rfl ?_
      refine mOk.goto (tgt := 6) dX7_waysUpTo_73 (by decide) ?_
      exact IH _
theorem c_ways (hT : TOk T) (hc : Cd I cb T) (hx : Rw I r ra cap xs) {e : Nat} (he : e ≤ 128) {N : Nat → Nat} (hN : ∀ k, k < e → J 90 k = lN (sat (N k))) (hQ : Q (some (.long (lN (sat (sm (tmR N e) (tiles T xs)))))) (hS sw I J)) : mCl mX7_waysUpTo 3 0 0 [.ref 89, .int (nI e), .ref r, .ref cb] (hS sw I J) Q := by
  refine mCl.of (by decide) rfl (Nat.le_of_ble_eq_true rfl) ?_
  show mOk _ _ _ _ _ [some (.ref 89), some (.int (nI e)), some (.ref r), some (.ref cb), none, none, none, none] _ _ _ _ _
  refine mOk.lconst (x := lN (sat 0)) dX7_waysUpTo_0 (by decide) ?_
  refine mOk.lstore4 dX7_waysUpTo_1 (by decide) rfl ?_
  refine mOk.iconst (x := nI 0) dX7_waysUpTo_3 (by decide) ?_
  refine mOk.istore6 dX7_waysUpTo_4 (by decide) rfl ?_
  exact l_ways hT hc hx he hN hQ T.length 0 none (Nat.zero_add _)
theorem l_spell (hT : TOk T) (hc : Cd I cb T) (hx : Rw I r ra cap xs) (hl : xs.length ≤ 128) {N : Nat → Nat} (h0 : N 0 = 1) (hN : ∀ e, 1 ≤ e → e ≤ xs.length → N e = sm (tmR N e) (tiles T xs)) (hQ : ∀ J', (∀ a, a ≠ 90 → J' a = J a) → Q (some (.long (lN (sat (N xs.length))))) (hS sw I J')) :
    ∀ (m e : Nat) (J' : Nat → Nat → Int64), e + m = xs.length → (∀ k, k < e + 1 → J' 90 k = lN (sat (N k))) → (∀ a, a ≠ 90 → J' a = J a) → mOk mX7_waysToSpell 4 0 0 21 [some (.ref 89), some (.ref r), some (.ref cb), some (.int (nI xs.length)), some (.int (nI (e + 1)))] [] (hS sw I J') 0 0 Q := by
  intro m
  induction m with
  | zero =>
    intro e J' he hk ho
    refine mOk.iload4 dX7_waysToSpell_21 ?_
    refine mOk.iload3n dX7_waysToSpell_23 rfl ?_
    refine mOk.icgt (tgt := 48) dX7_waysToSpell_24 (by decide) (fun c24 => ?_) (fun c24 => absurd ((nI_lt' (by omega) (by omega)).mpr (by omega)) c24)
    refine mOk.iload3n dX7_waysToSpell_48 rfl ?_
    refine mOk.ifge (tgt := 56) dX7_waysToSpell_49 (by decide) (fun c49 => ?_) (fun c49 => absurd (nI_pos' (by omega)) c49)
    refine mOk.aload0n dX7_waysToSpell_56 rfl ?_
    refine mOk.getR dX7_waysToSpell_57 fl_X7_9 (by first | assumption | rfl) (by first | assumption | rfl) ?_
    refine mOk.iload3n dX7_waysToSpell_60 rfl ?_
    refine mOk.laldv dX7_waysToSpell_61 (by first | assumption | rfl) rfl (by omega) (by first | assumption | decide | omega) (hk _ (by omega)) ?_
    refine mOk.lret dX7_waysToSpell_62 rfl ?_
    exact hQ J' ho
  | succ m ih =>
    intro e J' he hk ho
    refine mOk.iload4 dX7_waysToSpell_21 ?_
    refine mOk.iload3n dX7_waysToSpell_23 rfl ?_
    refine mOk.icgt (tgt := 48) dX7_waysToSpell_24 (by decide) (fun c24 => absurd c24 (mt (nI_lt' (by omega) (by omega)).mp (by omega))) (fun c24 => ?_)
    refine mOk.aload0n dX7_waysToSpell_27 rfl ?_
    refine mOk.getR dX7_waysToSpell_28 fl_X7_9 (by first | assumption | rfl) (by first | assumption | rfl) ?_
    refine mOk.iload4 dX7_waysToSpell_31 ?_
    refine mOk.aload0n dX7_waysToSpell_33 rfl ?_
    refine mOk.iload4 dX7_waysToSpell_34 ?_
    refine mOk.aload1n dX7_waysToSpell_36 rfl ?_
    refine mOk.aload2n dX7_waysToSpell_37 rfl ?_
    refine mOk.callV3 (M' := mX7_waysUpTo) dX7_waysToSpell_38 ml_X7_27 ke_X7_waysUpTo (by first | assumption | rfl) (by decide) (by decide) (by simp [Value.category]) (c_ways hT hc hx (by omega) hk ?_)
    rw [← hN (e + 1) (by omega) (by omega)]
    refine mOk.lastt dX7_waysToSpell_41 (by first | assumption | rfl) rfl (by omega) (by first | assumption | decide | omega) ?_
    refine mOk.iinc4 dX7_waysToSpell_42 (mOk.inc1 rfl) (by decide) rfl ?_
    refine mOk.goto (tgt := 21) dX7_waysToSpell_45 (by decide) ?_
    refine ih (e + 1) _ (by omega) (fun k hk' => ?_) (fun a ha => by rw [wJ_c ha]; exact ho a ha)
    by_cases z : k = e + 1
    · rw [z, wJ_s]
    · rw [wJ_j z]; exact hk k (by omega)
theorem c_spell (hT : TOk T) (hc : Cd I cb T) (hx : Rw I r ra cap xs) (hl : xs.length ≤ 128) (hQ : ∀ J', (∀ a, a ≠ 90 → J' a = J a) → Q (some (.long (lN (sat (spell T xs))))) (hS sw I J')) : mCl mX7_waysToSpell 4 0 0 [.ref 89, .ref r, .ref cb] (hS sw I J) Q := by
  obtain ⟨r0, -⟩ := id hx.1
  have b1 := hx.1.2.2.2.1
  have b2 := hx.2.1
  have h1 := tiles_1 hT xs
  refine mCl.of (by decide) rfl (Nat.le_of_ble_eq_true rfl) ?_
  show mOk _ _ _ _ _ [some (.ref 89), some (.ref r), some (.ref cb), none, none] _ _ _ _ _
  refine mOk.aload1n dX7_waysToSpell_0 rfl ?_
  refine mOk.callV0 (M' := mX5_length) dX7_waysToSpell_1 ml_X7_15 ke_X5_length (by first | assumption | rfl) (by decide) (by decide) (by simp [Value.category]) (c_length hx ?_)
  refine mOk.sipush (x := nI 128) dX7_waysToSpell_4 (by decide) ?_
  refine mOk.mmin dX7_waysToSpell_7 ml_X7_21 (by decide) (by decide) (by simp [Value.category]) ?_
  refine mOk.top ((min_nI (a := xs.length) (b := 128) (by omega) (by omega)).trans (by rw [Nat.min_eq_left hl])) ?_
  refine mOk.istore3n dX7_waysToSpell_10 rfl (by decide) rfl ?_
  refine mOk.aload0n dX7_waysToSpell_11 rfl ?_
  refine mOk.getR dX7_waysToSpell_12 fl_X7_9 (by first | assumption | rfl) (by first | assumption | rfl) ?_
  refine mOk.iconst (x := nI 0) dX7_waysToSpell_15 (by decide) ?_
  refine mOk.lconst (x := 1) dX7_waysToSpell_16 (by decide) ?_
  refine mOk.lastt dX7_waysToSpell_17 (by first | assumption | rfl) rfl (by omega) (by first | assumption | decide | omega) ?_
  refine mOk.iconst (x := nI 1) dX7_waysToSpell_18 (by decide) ?_
  refine mOk.istore4 dX7_waysToSpell_19 (by decide) rfl ?_
  refine l_spell hT hc hx hl (N := fun e => tR (tiles T xs) xs.length 0 e) tR_eq (fun e he1 he2 => ?_) hQ xs.length 0 _ (Nat.zero_add _) (fun k hk => ?_) (fun a ha => wJ_c ha)
  · show tR (tiles T xs) xs.length 0 e = _
    rw [tR_step h1 (by omega) (by omega)]
    exact sm_cong (fun t _ => by simp only [tmR, Nat.sub_zero])
  · rw [show k = 0 by omega, wJ_s]
    show (1 : Int64) = lN (sat (tR _ _ 0 0))
    rw [tR_eq]
    decide
end SPELLER
