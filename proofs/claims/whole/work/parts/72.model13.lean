/-! ===== the reference: quick, same, seam, spellings ===== -/
theorem cpl_ge : ∀ (xs ys : List Int32) (i : Nat), i ≤ xs.length → i ≤ ys.length → (∀ j, j < i → xs.getD j (-9) = ys.getD j (-9)) → i ≤ cpl xs ys
  | _, _, 0, _, _, _ => Nat.zero_le _
  | [], ys, i + 1, h1, _, _ => by simp at h1
  | x :: xs, [], i + 1, _, h2, _ => by simp at h2
  | x :: xs, y :: ys, i + 1, h1, h2, h3 => by
    have h0 : x = y := h3 0 (by omega)
    have := cpl_ge xs ys i (by simpa using h1) (by simpa using h2) (fun j hj => h3 (j + 1) (by omega))
    unfold cpl
    rw [if_pos h0]
    omega
def b01 (b : Bool) : Int32 := if b = true then 1 else 0
theorem b01_0 {b : Bool} : b01 b = 0 ↔ b = false := by cases b <;> decide
section MODEL13
variable {sw : Bool} {I : Nat → Nat → Int32} {J : Nat → Nat → Int64} {Q : Option Value → mi_H → Prop} {xs ys : List Int32} {bs : List Nat} {T : List CR} {tx : Nat → List Int32} {pp : List Nat} {hs : List (Nat × List Int32)} {im : ImT}
theorem M_quick_tout {t f : Int32} (ht : t < 0 ∨ nI 4 ≤ t) (hQ : Q (some (.int (-1))) (hS sw I J)) : mCl mX9_quick 2 0 0 [.ref 97, .int t, .int f] (hS sw I J) Q := by
  refine mCl.of (by decide) rfl (Nat.le_of_ble_eq_true rfl) ?_
  show mOk _ _ _ _ _ [some (.ref 97), some (.int t), some (.int f), none, none, none, none, none] _ _ _ _ _
  refine mOk.iload1n dX9_quick_0 rfl ?_
  refine mOk.callS1 (M' := mX9_isText) dX9_quick_1 ml_X9_147 ke_X9_isText rfl (by decide) (by decide) (by simp [Value.category]) (c_isText_n ht ?_)
  refine mOk.ifeq (tgt := 16) dX9_quick_4 (by decide) (fun c4 => ?_) (fun c4 => absurd (rfl) c4)
  refine mOk.iconst (x := -1) dX9_quick_16 (by decide) ?_
  refine mOk.iret dX9_quick_17 rfl hQ
theorem M_quick_fout {t : Nat} {f : Int32} (ht : t < 4) (hf : f < 0 ∨ nI 2 ≤ f) (hQ : Q (some (.int (-1))) (hS sw I J)) : mCl mX9_quick 2 0 0 [.ref 97, .int (nI t), .int f] (hS sw I J) Q := by
  refine mCl.of (by decide) rfl (Nat.le_of_ble_eq_true rfl) ?_
  show mOk _ _ _ _ _ [some (.ref 97), some (.int (nI t)), some (.int f), none, none, none, none, none] _ _ _ _ _
  refine mOk.iload1n dX9_quick_0 rfl ?_
  refine mOk.callS1 (M' := mX9_isText) dX9_quick_1 ml_X9_147 ke_X9_isText rfl (by decide) (by decide) (by simp [Value.category]) (c_isText_y ht ?_)
  refine mOk.ifeq (tgt := 16) dX9_quick_4 (by decide) (fun c4 => absurd c4 ((by decide))) (fun c4 => ?_)
  refine mOk.iload2n dX9_quick_7 rfl ?_
  refine mOk.iconst (x := nI 0) dX9_quick_8 (by decide) ?_
  refine mOk.iconst (x := nI 1) dX9_quick_9 (by decide) ?_
  refine mOk.callS3 (M' := mX9_in) dX9_quick_10 ml_X9_66 ke_X9_in rfl (by decide) (by decide) (by simp [Value.category]) (c_in_n (hf.imp id (i32_ltg (by omega))) ?_)
  refine mOk.ifne (tgt := 18) dX9_quick_13 (by decide) (fun c13 => absurd (rfl) c13) (fun c13 => ?_)
  refine mOk.iconst (x := -1) dX9_quick_16 (by decide) ?_
  refine mOk.iret dX9_quick_17 rfl hQ
def pln (T : List CR) (xs : List Int32) : Bool := xs.all (fun c => decide (tK T c = 0))
theorem all_take {f : Int32 → Bool} {xs : List Int32} {k : Nat} (h : k < xs.length) : (xs.take (k + 1)).all f = ((xs.take k).all f && f (xs.getD k (-9))) := by
  rw [take_s h, List.all_append]
  simp
theorem l_mquick {t : Nat} {f : Int32} (ht : t < 4) (hM : Md I T) (hT : TOk T) (hX : MX I tx) (hv : okL T (tx t))
    (kk : ∀ l7 : Option Value, mOk mX9_quick 2 0 0 142 [some (.ref 97), some (.int (nI t)), some (.int f), some (.int (b01 (pln T (tx t)))), some (.int (b01 (stg T (tx t)))), some (.int (b01 (sec T (tx t)))), some (.int (nI (tx t).length)), l7] [] (hS sw I J) 0 0 Q) :
    ∀ (m k : Nat) (l7 : Option Value), k + m = (tx t).length → mOk mX9_quick 2 0 0 29 [some (.ref 97), some (.int (nI t)), some (.int f), some (.int (b01 (pln T ((tx t).take k)))), some (.int (b01 (stg T ((tx t).take k)))), some (.int (b01 (sec T ((tx t).take k)))), some (.int (nI k)), l7] [] (hS sw I J) 0 0 Q := by
  obtain ⟨x1, x2, x3⟩ := hX t ht
  have hl24 := hM.1
  intro m
  induction m with
  | zero =>
    intro k l7 hk
    rw [List.take_of_length_le (by omega)]
    refine mOk.iload6 dX9_quick_29 ?_
    refine mOk.aload0n dX9_quick_31 rfl ?_
    refine mOk.getR dX9_quick_32 fl_X9_34 (by first | assumption | rfl) (by first | assumption | rfl) ?_
    refine mOk.iload1n dX9_quick_35 rfl ?_
    refine mOk.ialdv dX9_quick_36 (by first | assumption | rfl) rfl (by omega) (by first | assumption | decide | omega) x2 ?_
    refine mOk.icge (tgt := 142) dX9_quick_37 (by decide) (fun c37 => ?_) (fun c37 => absurd ((nI_le' (by omega) (by omega)).mpr (by omega)) c37)
    rw [show k = (tx t).length by omega]
    exact kk l7
  | succ m ih =>
    intro k l7 hk
    have hkl : k < (tx t).length := by omega
    have hok := hv _ (mem_getD hkl)
    obtain ⟨j, hj, e⟩ := id hok
    have hp0 := (hT.all _ hok).2.2.1
    have e1 : pln T ((tx t).take (k + 1)) = (pln T ((tx t).take k) && decide (tK T ((tx t).getD k (-9)) = 0)) := all_take hkl
    have e2 : stg T ((tx t).take (k + 1)) = (stg T ((tx t).take k) || (decide (tK T ((tx t).getD k (-9)) = 2) || decide (tK T ((tx t).getD k (-9)) = 3))) := any_take hkl
    have e3 : sec T ((tx t).take (k + 1)) = (sec T ((tx t).take k) || isSec T ((tP T ((tx t).getD k (-9))).getD 0 (-9))) := any_take hkl
    have IH := ih (k + 1) (some (.int ((tx t).getD k (-9)))) (by omega)
    generalize pln T ((tx t).take (k + 1)) = P' at e1 IH
    generalize stg T ((tx t).take (k + 1)) = G' at e2 IH
    generalize sec T ((tx t).take (k + 1)) = S' at e3 IH
    generalize pln T ((tx t).take k) = P at e1 ⊢
    generalize stg T ((tx t).take k) = G at e2 ⊢
    generalize sec T ((tx t).take k) = S at e3 ⊢
    have stC : mOk mX9_quick 2 0 0 108 [some (.ref 97), some (.int (nI t)), some (.int f), some (.int (b01 P')), some (.int (b01 G')), some (.int (b01 S)), some (.int (nI k)), some (.int ((tx t).getD k (-9)))] [] (hS sw I J) 0 0 Q := by
      have yes : S' = true → mOk mX9_quick 2 0 0 129 [some (.ref 97), some (.int (nI t)), some (.int f), some (.int (b01 P')), some (.int (b01 G')), some (.int (b01 S)), some (.int (nI k)), some (.int ((tx t).getD k (-9)))] [] (hS sw I J) 0 0 Q := by
        intro z
        refine mOk.iconst (x := 1) dX9_quick_129 (by decide) ?_
        refine mOk.goto (tgt := 134) dX9_quick_130 (by decide) ?_
        refine mOk.istore5 dX9_quick_134 (by decide) rfl ?_
        refine mOk.iinc6 dX9_quick_136 (mOk.inc1 rfl) (by decide) rfl ?_
        refine mOk.goto (tgt := 29) dX9_quick_139 (by decide) ?_
        rw [z] at IH
        exact IH
      by_cases z : S = true
      · refine mOk.iload5 dX9_quick_108 ?_
        refine mOk.ifne (tgt := 129) dX9_quick_110 (by decide) (fun c110 => ?_) (fun c110 => absurd c110 ((by rw [z]; decide)))
        exact yes (by rw [e3, z]; rfl)
      · rw [Bool.not_eq_true] at z
        refine mOk.iload5 dX9_quick_108 ?_
        refine mOk.ifne (tgt := 129) dX9_quick_110 (by decide) (fun c110 => absurd ((by rw [z]; rfl)) c110) (fun c110 => ?_)
        refine mOk.aload0n dX9_quick_113 rfl ?_
        refine mOk.aload0n dX9_quick_114 rfl ?_
        refine mOk.getR dX9_quick_115 fl_X9_25 (by first | assumption | rfl) (by first | assumption | rfl) ?_
        refine mOk.iconst (x := nI 4) dX9_quick_118 (by decide) ?_
        refine mOk.iload7 dX9_quick_119 ?_
        refine mOk.imul dX9_quick_121 ?_
        refine mOk.ialdv (j := 4 * j + 0) dX9_quick_122 (by first | assumption | rfl) (by rw [e, pk_mul]; rfl) (by omega) (by first | assumption | decide | omega) (hM.p e hj hp0) ?_
        refine mOk.callV1 (M' := mX9_isSecond) dX9_quick_123 ml_X9_211 ke_X9_isSecond (by first | assumption | rfl) (by decide) (by decide) (by simp [Value.category]) (c_isSecond hM ?_)
        by_cases w : isSec T ((tP T ((tx t).getD k (-9))).getD 0 (-9)) = true
        · rw [if_pos w]
          refine mOk.ifeq (tgt := 133) dX9_quick_126 (by decide) (fun c126 => absurd c126 ((by decide))) (fun c126 => ?_)
          exact yes (by rw [e3, w, Bool.or_true])
        · rw [if_neg w]
          rw [Bool.not_eq_true] at w
          refine mOk.ifeq (tgt := 133) dX9_quick_126 (by decide) (fun c126 => ?_) (fun c126 => absurd (rfl) c126)
          refine mOk.iconst (x := 0) dX9_quick_133 (by decide) ?_
          refine mOk.istore5 dX9_quick_134 (by decide) rfl ?_
          refine mOk.iinc6 dX9_quick_136 (mOk.inc1 rfl) (by decide) rfl ?_
          refine mOk.goto (tgt := 29) dX9_quick_139 (by decide) ?_
          rw [z, w] at e3
          rw [e3] at IH
          exact IH
    have stB : mOk mX9_quick 2 0 0 74 [some (.ref 97), some (.int (nI t)), some (.int f), some (.int (b01 P')), some (.int (b01 G)), some (.int (b01 S)), some (.int (nI k)), some (.int ((tx t).getD k (-9)))] [] (hS sw I J) 0 0 Q := by
      have yes : G' = true → mOk mX9_quick 2 0 0 101 [some (.ref 97), some (.int (nI t)), some (.int f), some (.int (b01 P')), some (.int (b01 G)), some (.int (b01 S)), some (.int (nI k)), some (.int ((tx t).getD k (-9)))] [] (hS sw I J) 0 0 Q := by
        intro z
        refine mOk.iconst (x := 1) dX9_quick_101 (by decide) ?_
        refine mOk.goto (tgt := 106) dX9_quick_102 (by decide) ?_
        refine mOk.istore4 dX9_quick_106 (by decide) rfl ?_
        rw [z] at stC
        exact stC
      by_cases z : G = true
      · refine mOk.iload4 dX9_quick_74 ?_
        refine mOk.ifne (tgt := 101) dX9_quick_76 (by decide) (fun c76 => ?_) (fun c76 => absurd c76 ((by rw [z]; decide)))
        exact yes (by rw [e2, z]; rfl)
      · rw [Bool.not_eq_true] at z
        refine mOk.iload4 dX9_quick_74 ?_
        refine mOk.ifne (tgt := 101) dX9_quick_76 (by decide) (fun c76 => absurd ((by rw [z]; rfl)) c76) (fun c76 => ?_)
        refine mOk.aload0n dX9_quick_79 rfl ?_
        refine mOk.getR dX9_quick_80 fl_X9_7 (by first | assumption | rfl) (by first | assumption | rfl) ?_
        refine mOk.iload7 dX9_quick_83 ?_
        refine mOk.ialdv (j := j) dX9_quick_85 (by first | assumption | rfl) e (by omega) (by first | assumption | decide | omega) (hM.K e hj) ?_
        refine mOk.iconst (x := 2) dX9_quick_86 (by decide) ?_
        refine mOk.iceq (tgt := 101) dX9_quick_87 (by decide) (fun c87 => ?_) (fun c87 => ?_)
        · exact yes (by rw [e2, decide_eq_true c87]; simp)
        · refine mOk.aload0n dX9_quick_90 rfl ?_
          refine mOk.getR dX9_quick_91 fl_X9_7 (by first | assumption | rfl) (by first | assumption | rfl) ?_
          refine mOk.iload7 dX9_quick_94 ?_
          refine mOk.ialdv (j := j) dX9_quick_96 (by first | assumption | rfl) e (by omega) (by first | assumption | decide | omega) (hM.K e hj) ?_
          refine mOk.iconst (x := 3) dX9_quick_97 (by decide) ?_
          refine mOk.icne (tgt := 105) dX9_quick_98 (by decide) (fun c98 => ?_) (fun c98 => ?_)
          · refine mOk.iconst (x := 0) dX9_quick_105 (by decide) ?_
            refine mOk.istore4 dX9_quick_106 (by decide) rfl ?_
            rw [z, decide_eq_false c87, decide_eq_false c98] at e2
            rw [e2] at stC
            exact stC
          · exact yes (by rw [e2, decide_eq_true c98]; simp)
    refine mOk.iload6 dX9_quick_29 ?_
    refine mOk.aload0n dX9_quick_31 rfl ?_
    refine mOk.getR dX9_quick_32 fl_X9_34 (by first | assumption | rfl) (by first | assumption | rfl) ?_
    refine mOk.iload1n dX9_quick_35 rfl ?_
    refine mOk.ialdv dX9_quick_36 (by first | assumption | rfl) rfl (by omega) (by first | assumption | decide | omega) x2 ?_
    refine mOk.icge (tgt := 142) dX9_quick_37 (by decide) (fun c37 => absurd c37 (mt (nI_le' (by omega) (by omega)).mp (by omega))) (fun c37 => ?_)
    refine mOk.aload0n dX9_quick_40 rfl ?_
    refine mOk.getR dX9_quick_41 fl_X9_37 (by first | assumption | rfl) (by first | assumption | rfl) ?_
    refine mOk.bipush (x := nI 16) dX9_quick_44 (by decide) ?_
    refine mOk.iload1n dX9_quick_46 rfl ?_
    refine mOk.imul dX9_quick_47 ?_
    refine mOk.top ((pk_mul _ _)) ?_
    refine mOk.iload6 dX9_quick_48 ?_
    refine mOk.iadd dX9_quick_50 ?_
    refine mOk.top ((nI_add _ _)) ?_
    refine mOk.ialdv dX9_quick_51 (by first | assumption | rfl) rfl (by omega) (by first | assumption | decide | omega) (x3 k _ (getD_at hkl (-9))) ?_
    refine mOk.istore7 dX9_quick_52 (by decide) rfl ?_
    by_cases z : P = true
    · refine mOk.iload3n dX9_quick_54 rfl ?_
      refine mOk.ifeq (tgt := 72) dX9_quick_55 (by decide) (fun c55 => absurd c55 ((by rw [z]; decide))) (fun c55 => ?_)
      refine mOk.aload0n dX9_quick_58 rfl ?_
      refine mOk.getR dX9_quick_59 fl_X9_7 (by first | assumption | rfl) (by first | assumption | rfl) ?_
      refine mOk.iload7 dX9_quick_62 ?_
      refine mOk.ialdv (j := j) dX9_quick_64 (by first | assumption | rfl) e (by omega) (by first | assumption | decide | omega) (hM.K e hj) ?_
      refine mOk.ifne (tgt := 72) dX9_quick_65 (by decide) (fun c65 => ?_) (fun c65 => ?_)
      · refine mOk.iconst (x := 0) dX9_quick_72 (by decide) ?_
        refine mOk.istore3n dX9_quick_73 rfl (by decide) rfl ?_
        rw [z, decide_eq_false c65] at e1
        rw [e1] at stB
        exact stB
      · refine mOk.iconst (x := 1) dX9_quick_68 (by decide) ?_
        refine mOk.goto (tgt := 73) dX9_quick_69 (by decide) ?_
        refine mOk.istore3n dX9_quick_73 rfl (by decide) rfl ?_
        rw [z, decide_eq_true c65] at e1
        rw [e1] at stB
        exact stB
    · rw [Bool.not_eq_true] at z
      refine mOk.iload3n dX9_quick_54 rfl ?_
      refine mOk.ifeq (tgt := 72) dX9_quick_55 (by decide) (fun c55 => ?_) (fun c55 => absurd ((by rw [z]; rfl)) c55)
      refine mOk.iconst (x := 0) dX9_quick_72 (by decide) ?_
      refine mOk.istore3n dX9_quick_73 rfl (by decide) rfl ?_
      rw [z] at e1
      rw [e1] at stB
      exact stB
theorem M_quick_in {t f : Nat} (h : InvM I bs T tx pp hs im) (hs' : SOk bs T tx pp hs im) (ht : t < 4) (hf : f < 2) (hQ : ∀ I', InvM I' bs T tx pp hs im → Of FW SW I I' → Q (some (.int (if f = 0 then qkA T (tx t) else qkJ T (tx t)))) (hS sw I' J)) : mCl mX9_quick 2 0 0 [.ref 97, .int (nI t), .int (nI f)] (hS sw I J) Q := by
  have hT := hs'.2.1
  have hx := hs'.2.2.1 t ht
  refine mCl.of (by decide) rfl (Nat.le_of_ble_eq_true rfl) ?_
  show mOk _ _ _ _ _ [some (.ref 97), some (.int (nI t)), some (.int (nI f)), none, none, none, none, none] _ _ _ _ _
  refine mOk.iload1n dX9_quick_0 rfl ?_
  refine mOk.callS1 (M' := mX9_isText) dX9_quick_1 ml_X9_147 ke_X9_isText rfl (by decide) (by decide) (by simp [Value.category]) (c_isText_y ht ?_)
  refine mOk.ifeq (tgt := 16) dX9_quick_4 (by decide) (fun c4 => absurd c4 ((by decide))) (fun c4 => ?_)
  refine mOk.iload2n dX9_quick_7 rfl ?_
  refine mOk.iconst (x := nI 0) dX9_quick_8 (by decide) ?_
  refine mOk.iconst (x := nI 1) dX9_quick_9 (by decide) ?_
  refine mOk.callS3 (M' := mX9_in) dX9_quick_10 ml_X9_66 ke_X9_in rfl (by decide) (by decide) (by simp [Value.category]) (c_in_y (nI_neg' (by omega)) (mt (nI_lt' (by omega) (by omega)).mp (by omega)) ?_)
  refine mOk.ifne (tgt := 18) dX9_quick_13 (by decide) (fun c13 => ?_) (fun c13 => absurd c13 ((by decide)))
  refine mOk.iconst (x := 1) dX9_quick_18 (by decide) ?_
  refine mOk.istore3n dX9_quick_19 rfl (by decide) rfl ?_
  refine mOk.iconst (x := 0) dX9_quick_20 (by decide) ?_
  refine mOk.istore4 dX9_quick_21 (by decide) rfl ?_
  refine mOk.iconst (x := 0) dX9_quick_23 (by decide) ?_
  refine mOk.istore5 dX9_quick_24 (by decide) rfl ?_
  refine mOk.iconst (x := nI 0) dX9_quick_26 (by decide) ?_
  refine mOk.istore6 dX9_quick_27 (by decide) rfl ?_
  refine l_mquick ht h.1 hT h.2.2.1 hx.1 (fun l7 => ?_) (tx t).length 0 none (Nat.zero_add _)
  refine mOk.aload0n dX9_quick_142 rfl ?_
  refine mOk.iload1n dX9_quick_143 rfl ?_
  refine mOk.callV1 (M' := mX9_comeOut) dX9_quick_144 ml_X9_193 ke_X9_comeOut (by first | assumption | rfl) (by decide) (by decide) (by simp [Value.category]) (c_comeOut ht h.2.2.1 ?_)
  intro I1 hR1 ho1
  refine mOk.aload0n dX9_quick_147 rfl ?_
  refine mOk.callV0 (M' := mX9_isSorted) dX9_quick_148 ml_X9_214 ke_X9_isSorted (by first | assumption | rfl) (by decide) (by decide) (by simp [Value.category]) (c_misSorted hT (h.1.of ho1 (by decide) (by decide)) hR1 hx.1 ?_)
  intro I2 ho2
  have o : Of FW SW I I2 := (ho1.up (by decide) (by decide)).tr (ho2.up (by decide) (by decide))
  have hq := hQ I2 (h.w o) o
  refine mOk.istore6 dX9_quick_151 (by decide) rfl ?_
  rcases (show f = 0 ∨ f = 1 by omega) with rfl | rfl
  · rw [if_pos rfl] at hq
    have hq' : Q (some (.int (if pln T (tx t) = true then (if srtd (tC T) (tx t) = true then 1 else 0) else 0))) (hS sw I2 J) := hq
    refine mOk.iload2n dX9_quick_153 rfl ?_
    refine mOk.ifne (tgt := 172) dX9_quick_154 (by decide) (fun c154 => absurd (rfl) c154) (fun c154 => ?_)
    by_cases z : pln T (tx t) = true
    · rw [if_pos z] at hq'
      refine mOk.iload3n dX9_quick_157 rfl ?_
      refine mOk.ifeq (tgt := 170) dX9_quick_158 (by decide) (fun c158 => absurd c158 ((by rw [z]; decide))) (fun c158 => ?_)
      by_cases w : srtd (tC T) (tx t) = true
      · rw [if_pos w] at hq' ⊢
        refine mOk.iload6 dX9_quick_161 ?_
        refine mOk.ifeq (tgt := 170) dX9_quick_163 (by decide) (fun c163 => absurd c163 ((by decide))) (fun c163 => ?_)
        refine mOk.iconst (x := 1) dX9_quick_166 (by decide) ?_
        refine mOk.goto (tgt := 171) dX9_quick_167 (by decide) ?_
        refine mOk.iret dX9_quick_171 rfl hq'
      · rw [if_neg w] at hq' ⊢
        refine mOk.iload6 dX9_quick_161 ?_
        refine mOk.ifeq (tgt := 170) dX9_quick_163 (by decide) (fun c163 => ?_) (fun c163 => absurd (rfl) c163)
        refine mOk.iconst (x := 0) dX9_quick_170 (by decide) ?_
        refine mOk.iret dX9_quick_171 rfl hq'
    · rw [if_neg z] at hq'
      rw [Bool.not_eq_true] at z
      refine mOk.iload3n dX9_quick_157 rfl ?_
      refine mOk.ifeq (tgt := 170) dX9_quick_158 (by decide) (fun c158 => ?_) (fun c158 => absurd ((by rw [z]; rfl)) c158)
      refine mOk.iconst (x := 0) dX9_quick_170 (by decide) ?_
      refine mOk.iret dX9_quick_171 rfl hq'
  · rw [if_neg (by decide)] at hq
    unfold qkJ at hq
    refine mOk.iload2n dX9_quick_153 rfl ?_
    refine mOk.ifne (tgt := 172) dX9_quick_154 (by decide) (fun c154 => ?_) (fun c154 => absurd c154 ((by decide)))
    by_cases z : stg T (tx t) = true
    · rw [if_pos z] at hq
      refine mOk.iload4 dX9_quick_172 ?_
      refine mOk.ifne (tgt := 182) dX9_quick_174 (by decide) (fun c174 => ?_) (fun c174 => absurd c174 ((by rw [z]; decide)))
      refine mOk.iconst (x := 0) dX9_quick_182 (by decide) ?_
      refine mOk.goto (tgt := 196) dX9_quick_183 (by decide) ?_
      refine mOk.iret dX9_quick_196 rfl hq
    · rw [if_neg z] at hq
      rw [Bool.not_eq_true] at z
      refine mOk.iload4 dX9_quick_172 ?_
      refine mOk.ifne (tgt := 182) dX9_quick_174 (by decide) (fun c174 => absurd ((by rw [z]; rfl)) c174) (fun c174 => ?_)
      by_cases w : srtd (tC T) (tx t) = true
      · rw [if_pos w] at hq ⊢
        refine mOk.iload6 dX9_quick_177 ?_
        refine mOk.ifne (tgt := 186) dX9_quick_179 (by decide) (fun c179 => ?_) (fun c179 => absurd c179 ((by decide)))
        by_cases v : sec T (tx t) = true
        · rw [if_pos v] at hq
          refine mOk.iload5 dX9_quick_186 ?_
          refine mOk.ifeq (tgt := 195) dX9_quick_188 (by decide) (fun c188 => absurd c188 ((by rw [v]; decide))) (fun c188 => ?_)
          refine mOk.iconst (x := 2) dX9_quick_191 (by decide) ?_
          refine mOk.goto (tgt := 196) dX9_quick_192 (by decide) ?_
          refine mOk.iret dX9_quick_196 rfl hq
        · rw [if_neg v] at hq
          rw [Bool.not_eq_true] at v
          refine mOk.iload5 dX9_quick_186 ?_
          refine mOk.ifeq (tgt := 195) dX9_quick_188 (by decide) (fun c188 => ?_) (fun c188 => absurd ((by rw [v]; rfl)) c188)
          refine mOk.iconst (x := 1) dX9_quick_195 (by decide) ?_
          refine mOk.iret dX9_quick_196 rfl hq
      · rw [if_neg w] at hq ⊢
        refine mOk.iload6 dX9_quick_177 ?_
        refine mOk.ifne (tgt := 186) dX9_quick_179 (by decide) (fun c179 => absurd (rfl) c179) (fun c179 => ?_)
        refine mOk.iconst (x := 0) dX9_quick_182 (by decide) ?_
        refine mOk.goto (tgt := 196) dX9_quick_183 (by decide) ?_
        refine mOk.iret dX9_quick_196 rfl hq
theorem M_same_out {t u r : Int32} (ht : (t < 0 ∨ nI 4 ≤ t) ∨ (u < 0 ∨ nI 4 ≤ u) ∨ (r < 0 ∨ nI 6 ≤ r)) (hQ : Q (some (.int (-1))) (hS sw I J)) : mCl mX9_same 3 0 0 [.ref 97, .int t, .int u, .int r] (hS sw I J) Q := by
  refine mCl.of (by decide) rfl (Nat.le_of_ble_eq_true rfl) ?_
  show mOk _ _ _ _ _ [some (.ref 97), some (.int t), some (.int u), some (.int r)] _ _ _ _ _
  rcases ixc t (show 4 < 100000 by omega) with zt | ⟨t, ht', rfl⟩
  · refine mOk.iload1n dX9_same_0 rfl ?_
    refine mOk.callS1 (M' := mX9_isText) dX9_same_1 ml_X9_147 ke_X9_isText rfl (by decide) (by decide) (by simp [Value.category]) (c_isText_n zt ?_)
    refine mOk.ifeq (tgt := 21) dX9_same_4 (by decide) (fun c4 => ?_) (fun c4 => absurd (rfl) c4)
    refine mOk.iconst (x := -1) dX9_same_21 (by decide) ?_
    refine mOk.iret dX9_same_22 rfl hQ
  · refine mOk.iload1n dX9_same_0 rfl ?_
    refine mOk.callS1 (M' := mX9_isText) dX9_same_1 ml_X9_147 ke_X9_isText rfl (by decide) (by decide) (by simp [Value.category]) (c_isText_y ht' ?_)
    refine mOk.ifeq (tgt := 21) dX9_same_4 (by decide) (fun c4 => absurd c4 ((by decide))) (fun c4 => ?_)
    rcases ixc u (show 4 < 100000 by omega) with zu | ⟨u, hu', rfl⟩
    · refine mOk.iload2n dX9_same_7 rfl ?_
      refine mOk.callS1 (M' := mX9_isText) dX9_same_8 ml_X9_147 ke_X9_isText rfl (by decide) (by decide) (by simp [Value.category]) (c_isText_n zu ?_)
      refine mOk.ifeq (tgt := 21) dX9_same_11 (by decide) (fun c11 => ?_) (fun c11 => absurd (rfl) c11)
      refine mOk.iconst (x := -1) dX9_same_21 (by decide) ?_
      refine mOk.iret dX9_same_22 rfl hQ
    · have hr : r < 0 ∨ nI 6 ≤ r := by
        rcases ht with (z | z) | (z | z) | z
        · exact absurd z (nI_neg' (by omega))
        · have := (nI_le' (by omega) (by omega)).mp z
          omega
        · exact absurd z (nI_neg' (by omega))
        · have := (nI_le' (by omega) (by omega)).mp z
          omega
        · exact z
      refine mOk.iload2n dX9_same_7 rfl ?_
      refine mOk.callS1 (M' := mX9_isText) dX9_same_8 ml_X9_147 ke_X9_isText rfl (by decide) (by decide) (by simp [Value.category]) (c_isText_y hu' ?_)
      refine mOk.ifeq (tgt := 21) dX9_same_11 (by decide) (fun c11 => absurd c11 ((by decide))) (fun c11 => ?_)
      refine mOk.iload3n dX9_same_14 rfl ?_
      refine mOk.callS1 (M' := mX9_isRule) dX9_same_15 ml_X9_190 ke_X9_isRule rfl (by decide) (by decide) (by simp [Value.category]) (c_misRule_n hr ?_)
      refine mOk.ifne (tgt := 23) dX9_same_18 (by decide) (fun c18 => absurd (rfl) c18) (fun c18 => ?_)
      refine mOk.iconst (x := -1) dX9_same_21 (by decide) ?_
      refine mOk.iret dX9_same_22 rfl hQ
theorem M_same_in {t u r : Nat} (h : InvM I bs T tx pp hs im) (hs' : SOk bs T tx pp hs im) (ht : t < 4) (hu : u < 4) (hr : r < 6) (hQ : ∀ I', InvM I' bs T tx pp hs im → Of FW SW I I' → Q (some (.int (if ruleF T r (tx t) = ruleF T r (tx u) then 1 else 0))) (hS sw I' J)) : mCl mX9_same 3 0 0 [.ref 97, .int (nI t), .int (nI u), .int (nI r)] (hS sw I J) Q := by
  have hT := hs'.2.1
  have hx := hs'.2.2.1 t ht
  have hp := pcs_le4 hT hx.1
  have hx2 := hs'.2.2.1 u hu
  have hp2 := pcs_le4 hT hx2.1
  refine mCl.of (by decide) rfl (Nat.le_of_ble_eq_true rfl) ?_
  show mOk _ _ _ _ _ [some (.ref 97), some (.int (nI t)), some (.int (nI u)), some (.int (nI r))] _ _ _ _ _
  refine mOk.iload1n dX9_same_0 rfl ?_
  refine mOk.callS1 (M' := mX9_isText) dX9_same_1 ml_X9_147 ke_X9_isText rfl (by decide) (by decide) (by simp [Value.category]) (c_isText_y ht ?_)
  refine mOk.ifeq (tgt := 21) dX9_same_4 (by decide) (fun c4 => absurd c4 ((by decide))) (fun c4 => ?_)
  refine mOk.iload2n dX9_same_7 rfl ?_
  refine mOk.callS1 (M' := mX9_isText) dX9_same_8 ml_X9_147 ke_X9_isText rfl (by decide) (by decide) (by simp [Value.category]) (c_isText_y hu ?_)
  refine mOk.ifeq (tgt := 21) dX9_same_11 (by decide) (fun c11 => absurd c11 ((by decide))) (fun c11 => ?_)
  refine mOk.iload3n dX9_same_14 rfl ?_
  refine mOk.callS1 (M' := mX9_isRule) dX9_same_15 ml_X9_190 ke_X9_isRule rfl (by decide) (by decide) (by simp [Value.category]) (c_misRule_y hr ?_)
  refine mOk.ifne (tgt := 23) dX9_same_18 (by decide) (fun c18 => ?_) (fun c18 => absurd c18 ((by decide)))
  refine mOk.aload0n dX9_same_23 rfl ?_
  refine mOk.iload1n dX9_same_24 rfl ?_
  refine mOk.callV1 (M' := mX9_comeOut) dX9_same_25 ml_X9_193 ke_X9_comeOut (by first | assumption | rfl) (by decide) (by decide) (by simp [Value.category]) (c_comeOut ht h.2.2.1 ?_)
  intro I1 hR1 ho1
  refine mOk.aload0n dX9_same_28 rfl ?_
  refine mOk.iload3n dX9_same_29 rfl ?_
  refine mOk.callV1 (M' := mX9_rules) dX9_same_30 ml_X9_196 ke_X9_rules (by first | assumption | rfl) (by decide) (by decide) (by simp [Value.category]) (c_rules hr hT (h.1.of ho1 (by decide) (by decide)) hR1 hx.1 (by omega) ?_)
  intro I2 hM2 hR2 ho2
  refine mOk.aload0n dX9_same_33 rfl ?_
  refine mOk.callV0 (M' := mX9_keeps) dX9_same_34 ml_X9_205 ke_X9_keeps (by first | assumption | rfl) (by decide) (by decide) (by simp [Value.category]) (c_keeps hR2 ?_)
  intro I3 hR3 hK3 ho3
  have o3 : Of FW SW I I3 := (ho1.up (by decide) (by decide)).tr ((ho2.up (by decide) (by decide)).tr (ho3.up (by decide) (by decide)))
  have g3 := h.w o3
  refine mOk.aload0n dX9_same_37 rfl ?_
  refine mOk.iload2n dX9_same_38 rfl ?_
  refine mOk.callV1 (M' := mX9_comeOut) dX9_same_39 ml_X9_193 ke_X9_comeOut (by first | assumption | rfl) (by decide) (by decide) (by simp [Value.category]) (c_comeOut hu g3.2.2.1 ?_)
  intro I4 hR4 ho4
  refine mOk.aload0n dX9_same_42 rfl ?_
  refine mOk.iload3n dX9_same_43 rfl ?_
  refine mOk.callV1 (M' := mX9_rules) dX9_same_44 ml_X9_196 ke_X9_rules (by first | assumption | rfl) (by decide) (by decide) (by simp [Value.category]) (c_rules hr hT (g3.1.of ho4 (by decide) (by decide)) hR4 hx2.1 (by omega) ?_)
  intro I5 hM5 hR5 ho5
  have o : Of FW SW I I5 := o3.tr ((ho4.up (by decide) (by decide)).tr (ho5.up (by decide) (by decide)))
  have hq := hQ I5 (h.w o) o
  refine mOk.aload0n dX9_same_47 rfl ?_
  refine mOk.callV0 (M' := mX9_isKept) dX9_same_48 ml_X9_208 ke_X9_isKept (by first | assumption | rfl) (by decide) (by decide) (by simp [Value.category]) (c_misKept hR5 ((hK3.of ho4 (by decide) (by decide) (by decide)).of ho5 (by decide) (by decide) (by decide)) ?_)
  by_cases z : ruleF T r (tx t) = ruleF T r (tx u)
  · rw [if_pos z] at hq
    rw [if_pos z.symm]
    refine mOk.ifeq (tgt := 58) dX9_same_51 (by decide) (fun c51 => absurd c51 ((by decide))) (fun c51 => ?_)
    refine mOk.iconst (x := 1) dX9_same_54 (by decide) ?_
    refine mOk.goto (tgt := 59) dX9_same_55 (by decide) ?_
    refine mOk.iret dX9_same_59 rfl hq
  · rw [if_neg z] at hq
    rw [if_neg (fun w => z w.symm)]
    refine mOk.ifeq (tgt := 58) dX9_same_51 (by decide) (fun c51 => ?_) (fun c51 => absurd (rfl) c51)
    refine mOk.iconst (x := 0) dX9_same_58 (by decide) ?_
    refine mOk.iret dX9_same_59 rfl hq
end MODEL13
