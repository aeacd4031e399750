/-! ===== MarkOrder: rules, the pipe, images, counts ===== -/
theorem pcs_le4 {T : List CR} (hT : TOk T) : ∀ {xs : List Int32}, okL T xs → pcs T xs ≤ 4 * xs.length
  | [], _ => by simp [pcs]
  | c :: xs, h => by
    have h1 := (hT.all c (h c (by simp))).2.2.2.1
    have h2 := pcs_le4 hT (xs := xs) (fun x hx => h x (by simp [hx]))
    rw [pcs_cons]
    simp
    omega
theorem hdjS {sw : Bool} {S : List Nat} (h : ∀ a ∈ S, 21 < a) : ∀ a ∈ cS (cA sw), a ∉ S := fun a ha z => by
  have := cS_r ha
  have := h a z
  omega
def stg (T : List CR) (xs : List Int32) : Bool := xs.any (fun c => decide (tK T c = 2) || decide (tK T c = 3))
def sec (T : List CR) (xs : List Int32) : Bool := xs.any (fun c => isSec T ((tP T c).getD 0 (-9)))
def qkJ (T : List CR) (xs : List Int32) : Int32 := if stg T xs = true then 0 else if srtd (tC T) xs = true then (if sec T xs = true then 2 else 1) else 0
def qkA (T : List CR) (xs : List Int32) : Int32 := if (xs.all (fun c => decide (tK T c = 0))) = true then (if srtd (tC T) xs = true then 1 else 0) else 0
def fixF (T : List CR) (pp : List Nat) : Nat → Nat → List Int32 → Int32
  | 0, _, _ => -9
  | m + 1, p, xs => if pipeF T pp xs = xs then nI p else fixF T pp m (p + 1) (pipeF T pp xs)
def smA (T : List CR) (r : Nat) (xs ys : List Int32) : Nat := cpl (ruleF T r (xs ++ ys)) (ruleF T r xs)
def smB (T : List CR) (r : Nat) (xs ys : List Int32) : Nat := min (cpl (ruleF T r (xs ++ ys)).reverse (ruleF T r ys).reverse) ((ruleF T r (xs ++ ys)).length - smA T r xs ys)
def smW (T : List CR) (r : Nat) (xs ys : List Int32) (w : Nat) : Nat := match w with
  | 0 => smA T r xs ys
  | 1 => smB T r xs ys
  | _ => (ruleF T r (xs ++ ys)).length - smA T r xs ys - smB T r xs ys
section ORDER2
variable {sw : Bool} {I : Nat → Nat → Int32} {J : Nat → Nat → Int64} {Q : Option Value → mi_H → Prop} {bs : List Nat} {T : List CR} {tx : Nat → List Int32} {pp : List Nat} {hs : List (Nat × List Int32)} {im : ImT}
theorem C_forms_tout {t r : Int32} (ht : t < 0 ∨ nI 4 ≤ t) (hQ : Q (some (.int (-1))) (hS sw I J)) : mCl mX8_forms 5 0 0 [.ref 0, .int t, .int r] (hS sw I J) Q := by
  refine mCl.of (by decide) rfl (Nat.le_of_ble_eq_true rfl) ?_
  show mOk _ _ _ _ _ [some (.ref 0), some (.int t), some (.int r), none] _ _ _ _ _
  refine mOk.aload0n dX8_forms_0 rfl ?_
  refine mOk.getR dX8_forms_1 fl_X8_29 (by first | assumption | rfl) (by first | assumption | rfl) ?_
  refine mOk.iload1n dX8_forms_4 rfl ?_
  refine mOk.callV1 (M' := mX0_text) dX8_forms_5 ml_X8_131 ke_X0_text (by first | assumption | rfl) (by decide) (by decide) (by simp [Value.category]) (c_text_out b22 ht ?_)
  refine mOk.astoreN3n dX8_forms_8 rfl (by decide) rfl ?_
  refine mOk.aloadN3n dX8_forms_9 rfl ?_
  refine mOk.ifnull_n (tgt := 20) dX8_forms_10 (by decide) ?_
  refine mOk.iconst (x := -1) dX8_forms_20 (by decide) ?_
  refine mOk.iret dX8_forms_21 rfl hQ
theorem C_forms_rout {t : Nat} {r : Int32} (ht : t < 4) (hr : r < 0 ∨ nI 6 ≤ r) (hQ : Q (some (.int (-1))) (hS sw I J)) : mCl mX8_forms 5 0 0 [.ref 0, .int (nI t), .int r] (hS sw I J) Q := by
  refine mCl.of (by decide) rfl (Nat.le_of_ble_eq_true rfl) ?_
  show mOk _ _ _ _ _ [some (.ref 0), some (.int (nI t)), some (.int r), none] _ _ _ _ _
  refine mOk.aload0n dX8_forms_0 rfl ?_
  refine mOk.getR dX8_forms_1 fl_X8_29 (by first | assumption | rfl) (by first | assumption | rfl) ?_
  refine mOk.iload1n dX8_forms_4 rfl ?_
  refine mOk.callV1 (M' := mX0_text) dX8_forms_5 ml_X8_131 ke_X0_text (by first | assumption | rfl) (by decide) (by decide) (by simp [Value.category]) (c_text_in b22 ht ?_)
  refine mOk.astore3n dX8_forms_8 rfl (by decide) rfl ?_
  refine mOk.aload3n dX8_forms_9 rfl ?_
  refine mOk.ifnull_r dX8_forms_10 ?_
  refine mOk.iload2n dX8_forms_13 rfl ?_
  refine mOk.callS1 (M' := mX8_isRule) dX8_forms_14 ml_X8_149 ke_X8_isRule rfl (by decide) (by decide) (by simp [Value.category]) (c_isRule_out hr ?_)
  refine mOk.ifne (tgt := 22) dX8_forms_17 (by decide) (fun c17 => absurd (rfl) c17) (fun c17 => ?_)
  refine mOk.iconst (x := -1) dX8_forms_20 (by decide) ?_
  refine mOk.iret dX8_forms_21 rfl hQ
theorem C_forms_in {t r : Nat} (h : InvC sw I bs T tx pp hs im) (hs' : SOk bs T tx pp hs im) (ht : t < 4) (hr : r < 6)
    (hQ0 : 16 < (ruleF T r (tx t)).length → ∀ I', InvC sw I' bs T tx pp hs im → Fr I I' → Q (some (.int (-3))) (hS sw I' J))
    (hQ1 : (ruleF T r (tx t)).length ≤ 16 → ∀ I', InvC sw I' bs T (va_up tx t (ruleF T r (tx t))) pp (((t, tx t) :: hs).take 10) im → Fr I I' → Q (some (.int (nI (ruleF T r (tx t)).length))) (hS sw I' J)) : mCl mX8_forms 5 0 0 [.ref 0, .int (nI t), .int (nI r)] (hS sw I J) Q := by
  obtain ⟨h1, h2, ⟨T', h3⟩, h4, h5, h6, ⟨c1, c2, ⟨w, h7⟩, c4, c5⟩⟩ := id h
  have hT := hs'.2.1
  have hx := hs'.2.2.1 t ht
  have hp := pcs_le4 hT hx.1
  have kt := (bdT b22 ht sw).2
  refine mCl.of (by decide) rfl (Nat.le_of_ble_eq_true rfl) ?_
  show mOk _ _ _ _ _ [some (.ref 0), some (.int (nI t)), some (.int (nI r)), none] _ _ _ _ _
  refine mOk.aload0n dX8_forms_0 rfl ?_
  refine mOk.getR dX8_forms_1 fl_X8_29 (by first | assumption | rfl) (by first | assumption | rfl) ?_
  refine mOk.iload1n dX8_forms_4 rfl ?_
  refine mOk.callV1 (M' := mX0_text) dX8_forms_5 ml_X8_131 ke_X0_text (by first | assumption | rfl) (by decide) (by decide) (by simp [Value.category]) (c_text_in b22 ht ?_)
  refine mOk.astore3n dX8_forms_8 rfl (by decide) rfl ?_
  refine mOk.aload3n dX8_forms_9 rfl ?_
  refine mOk.ifnull_r dX8_forms_10 ?_
  refine mOk.iload2n dX8_forms_13 rfl ?_
  refine mOk.callS1 (M' := mX8_isRule) dX8_forms_14 ml_X8_149 ke_X8_isRule rfl (by decide) (by decide) (by simp [Value.category]) (c_isRule_in hr ?_)
  refine mOk.ifne (tgt := 22) dX8_forms_17 (by decide) (fun c17 => ?_) (fun c17 => absurd c17 ((by decide)))
  refine mOk.aload0n dX8_forms_22 rfl ?_
  refine mOk.getR dX8_forms_23 fl_X8_50 (by first | assumption | rfl) (by first | assumption | rfl) ?_
  refine mOk.iload2n dX8_forms_26 rfl ?_
  refine mOk.aload0n dX8_forms_27 rfl ?_
  refine mOk.getR dX8_forms_28 fl_X8_19 (by first | assumption | rfl) (by first | assumption | rfl) ?_
  refine mOk.aload3n dX8_forms_31 rfl ?_
  refine mOk.aload0n dX8_forms_32 rfl ?_
  refine mOk.getR dX8_forms_33 fl_X8_66 (by first | assumption | rfl) (by first | assumption | rfl) ?_
  refine mOk.callV4 (M' := mX6_make) dX8_forms_36 ml_X8_152 ke_X6_make (by first | assumption | rfl) (by decide) (by decide) (by simp [Value.category]) (c_make hT h2 (h4.2.1 t ht) hx.1 h7 (hdjS (by decide)) (by simp; omega) (by simp; omega) (by omega) hr ?_)
  intro I1 hm1 ho1
  have g1 : InvC sw I1 bs T tx pp hs im := h.scr ho1 (by decide) ⟨c1.imp (fun _ z => z.off ho1 (by decide) (by decide)), c2.imp (fun _ z => z.off ho1 (by decide) (by decide)), ⟨_, hm1⟩, c4.imp (fun _ z => z.off ho1 (by decide) (by decide)), c5.imp (fun _ z => z.off ho1 (by decide) (by decide))⟩
  have hml := hm1.2.1
  refine mOk.aload0n dX8_forms_39 rfl ?_
  refine mOk.getR dX8_forms_40 fl_X8_66 (by first | assumption | rfl) (by first | assumption | rfl) ?_
  refine mOk.callV0 (M' := mX5_length) dX8_forms_43 ml_X8_84 ke_X5_length (by first | assumption | rfl) (by decide) (by decide) (by simp [Value.category]) (c_length hm1 ?_)
  by_cases z : (ruleF T r (tx t)).length ≤ 16
  · refine mOk.bipush (x := nI 16) dX8_forms_46 (by decide) ?_
    refine mOk.icle (tgt := 54) dX8_forms_48 (by decide) (fun c48 => ?_) (fun c48 => absurd ((nI_le' (by omega) (by omega)).mpr z) c48)
    refine mOk.aload0n dX8_forms_54 rfl ?_
    refine mOk.getR dX8_forms_55 fl_X8_43 (by first | assumption | rfl) (by first | assumption | rfl) ?_
    refine mOk.iload1n dX8_forms_58 rfl ?_
    refine mOk.aload3n dX8_forms_59 rfl ?_
    refine mOk.callV2 (M' := mX2_remember) dX8_forms_60 ml_X8_135 ke_X2_remember (by first | assumption | rfl) (by decide) (by decide) (by simp [Value.category]) (c_remember g1.2.2.2.2.2.1 (g1.2.2.2.1.2.1 t ht) (hS10_t ht).1 (hS10_t ht).2 ?_)
    intro I2 hH2 ho2
    have g2 := g1.hst hH2 ho2
    have hm2 := hm1.off ho2 (by decide) (by decide)
    refine mOk.aload3n dX8_forms_63 rfl ?_
    refine mOk.aload0n dX8_forms_64 rfl ?_
    refine mOk.getR dX8_forms_65 fl_X8_66 (by first | assumption | rfl) (by first | assumption | rfl) ?_
    refine mOk.callV1 (M' := mX5_become) dX8_forms_68 ml_X8_156 ke_X5_become (by first | assumption | rfl) (by decide) (by decide) (by simp [Value.category]) (c_become (g2.2.2.2.1.2.1 t ht) hm2 z (by omega) (by omega) (by omega) (by omega) ?_)
    intro I3 ht3 ho3
    refine mOk.aload3n dX8_forms_71 rfl ?_
    refine mOk.callV0 (M' := mX5_length) dX8_forms_72 ml_X8_84 ke_X5_length (by first | assumption | rfl) (by decide) (by decide) (by simp [Value.category]) (c_length ht3 ?_)
    refine mOk.iret dX8_forms_75 rfl ?_
    exact hQ1 z I3 (g2.txt ht3 ho3 ht) (((ho1.fr (by decide)).tr (ho2.fr (by decide))).tr (ho3.fr (fun a ha => by simp at ha; omega)))
  · refine mOk.bipush (x := nI 16) dX8_forms_46 (by decide) ?_
    refine mOk.icle (tgt := 54) dX8_forms_48 (by decide) (fun c48 => absurd c48 (mt (nI_le' (by omega) (by omega)).mp z)) (fun c48 => ?_)
    refine mOk.bipush (x := -3) dX8_forms_51 (by decide) ?_
    refine mOk.iret dX8_forms_53 rfl ?_
    exact hQ0 (by omega) I1 g1 (ho1.fr (by decide))
theorem C_ruled_tout {t r i : Int32} (ht : t < 0 ∨ nI 4 ≤ t) (hQ : Q (some (.int (-1))) (hS sw I J)) : mCl mX8_ruled 5 0 0 [.ref 0, .int t, .int r, .int i] (hS sw I J) Q := by
  refine mCl.of (by decide) rfl (Nat.le_of_ble_eq_true rfl) ?_
  show mOk _ _ _ _ _ [some (.ref 0), some (.int t), some (.int r), some (.int i), none] _ _ _ _ _
  refine mOk.aload0n dX8_ruled_0 rfl ?_
  refine mOk.getR dX8_ruled_1 fl_X8_29 (by first | assumption | rfl) (by first | assumption | rfl) ?_
  refine mOk.iload1n dX8_ruled_4 rfl ?_
  refine mOk.callV1 (M' := mX0_text) dX8_ruled_5 ml_X8_131 ke_X0_text (by first | assumption | rfl) (by decide) (by decide) (by simp [Value.category]) (c_text_out b22 ht ?_)
  refine mOk.astoreN4 dX8_ruled_8 (by decide) rfl ?_
  refine mOk.aloadN4 dX8_ruled_10 ?_
  refine mOk.ifnull_n (tgt := 22) dX8_ruled_12 (by decide) ?_
  refine mOk.iconst (x := -1) dX8_ruled_22 (by decide) ?_
  refine mOk.iret dX8_ruled_23 rfl hQ
theorem C_ruled_rout {t : Nat} {r i : Int32} (ht : t < 4) (hr : r < 0 ∨ nI 6 ≤ r) (hQ : Q (some (.int (-1))) (hS sw I J)) : mCl mX8_ruled 5 0 0 [.ref 0, .int (nI t), .int r, .int i] (hS sw I J) Q := by
  refine mCl.of (by decide) rfl (Nat.le_of_ble_eq_true rfl) ?_
  show mOk _ _ _ _ _ [some (.ref 0), some (.int (nI t)), some (.int r), some (.int i), none] _ _ _ _ _
  refine mOk.aload0n dX8_ruled_0 rfl ?_
  refine mOk.getR dX8_ruled_1 fl_X8_29 (by first | assumption | rfl) (by first | assumption | rfl) ?_
  refine mOk.iload1n dX8_ruled_4 rfl ?_
  refine mOk.callV1 (M' := mX0_text) dX8_ruled_5 ml_X8_131 ke_X0_text (by first | assumption | rfl) (by decide) (by decide) (by simp [Value.category]) (c_text_in b22 ht ?_)
  refine mOk.astore4 dX8_ruled_8 (by decide) rfl ?_
  refine mOk.aload4 dX8_ruled_10 ?_
  refine mOk.ifnull_r dX8_ruled_12 ?_
  refine mOk.iload2n dX8_ruled_15 rfl ?_
  refine mOk.callS1 (M' := mX8_isRule) dX8_ruled_16 ml_X8_149 ke_X8_isRule rfl (by decide) (by decide) (by simp [Value.category]) (c_isRule_out hr ?_)
  refine mOk.ifne (tgt := 24) dX8_ruled_19 (by decide) (fun c19 => absurd (rfl) c19) (fun c19 => ?_)
  refine mOk.iconst (x := -1) dX8_ruled_22 (by decide) ?_
  refine mOk.iret dX8_ruled_23 rfl hQ
theorem C_ruled_in {t r : Nat} {i : Int32} (h : InvC sw I bs T tx pp hs im) (hs' : SOk bs T tx pp hs im) (ht : t < 4) (hr : r < 6)
    (hQ : ∀ I', InvC sw I' bs T tx pp hs im → Fr I I' → Q (some (.int (lk (ruleF T r (tx t)) i))) (hS sw I' J)) : mCl mX8_ruled 5 0 0 [.ref 0, .int (nI t), .int (nI r), .int i] (hS sw I J) Q := by
  obtain ⟨h1, h2, ⟨T', h3⟩, h4, h5, h6, ⟨c1, c2, ⟨w, h7⟩, c4, c5⟩⟩ := id h
  have hT := hs'.2.1
  have hx := hs'.2.2.1 t ht
  have hp := pcs_le4 hT hx.1
  refine mCl.of (by decide) rfl (Nat.le_of_ble_eq_true rfl) ?_
  show mOk _ _ _ _ _ [some (.ref 0), some (.int (nI t)), some (.int (nI r)), some (.int i), none] _ _ _ _ _
  refine mOk.aload0n dX8_ruled_0 rfl ?_
  refine mOk.getR dX8_ruled_1 fl_X8_29 (by first | assumption | rfl) (by first | assumption | rfl) ?_
  refine mOk.iload1n dX8_ruled_4 rfl ?_
  refine mOk.callV1 (M' := mX0_text) dX8_ruled_5 ml_X8_131 ke_X0_text (by first | assumption | rfl) (by decide) (by decide) (by simp [Value.category]) (c_text_in b22 ht ?_)
  refine mOk.astore4 dX8_ruled_8 (by decide) rfl ?_
  refine mOk.aload4 dX8_ruled_10 ?_
  refine mOk.ifnull_r dX8_ruled_12 ?_
  refine mOk.iload2n dX8_ruled_15 rfl ?_
  refine mOk.callS1 (M' := mX8_isRule) dX8_ruled_16 ml_X8_149 ke_X8_isRule rfl (by decide) (by decide) (by simp [Value.category]) (c_isRule_in hr ?_)
  refine mOk.ifne (tgt := 24) dX8_ruled_19 (by decide) (fun c19 => ?_) (fun c19 => absurd c19 ((by decide)))
  refine mOk.aload0n dX8_ruled_24 rfl ?_
  refine mOk.getR dX8_ruled_25 fl_X8_50 (by first | assumption | rfl) (by first | assumption | rfl) ?_
  refine mOk.iload2n dX8_ruled_28 rfl ?_
  refine mOk.aload0n dX8_ruled_29 rfl ?_
  refine mOk.getR dX8_ruled_30 fl_X8_19 (by first | assumption | rfl) (by first | assumption | rfl) ?_
  refine mOk.aload4 dX8_ruled_33 ?_
  refine mOk.aload0n dX8_ruled_35 rfl ?_
  refine mOk.getR dX8_ruled_36 fl_X8_66 (by first | assumption | rfl) (by first | assumption | rfl) ?_
  refine mOk.callV4 (M' := mX6_make) dX8_ruled_39 ml_X8_152 ke_X6_make (by first | assumption | rfl) (by decide) (by decide) (by simp [Value.category]) (c_make hT h2 (h4.2.1 t ht) hx.1 h7 (hdjS (by decide)) (by simp; omega) (by simp; omega) (by omega) hr ?_)
  intro I1 hm1 ho1
  have g1 : InvC sw I1 bs T tx pp hs im := h.scr ho1 (by decide) ⟨c1.imp (fun _ z => z.off ho1 (by decide) (by decide)), c2.imp (fun _ z => z.off ho1 (by decide) (by decide)), ⟨_, hm1⟩, c4.imp (fun _ z => z.off ho1 (by decide) (by decide)), c5.imp (fun _ z => z.off ho1 (by decide) (by decide))⟩
  refine mOk.aload0n dX8_ruled_42 rfl ?_
  refine mOk.getR dX8_ruled_43 fl_X8_66 (by first | assumption | rfl) (by first | assumption | rfl) ?_
  refine mOk.iload3n dX8_ruled_46 rfl ?_
  refine mOk.callS2 (M' := mX8_look) dX8_ruled_47 ml_X8_168 ke_X8_look rfl (by decide) (by decide) (by simp [Value.category]) (c_look hm1 ?_)
  refine mOk.iret dX8_ruled_50 rfl ?_
  exact hQ I1 g1 (ho1.fr (by decide))
theorem l_quickA {r ra cap : Nat} {xs : List Int32} (h2 : Cd I (cA sw) T) (hx : Rw I r ra cap xs) (hQ : Q (some (.int (qkA T xs))) (hS sw I J)) :
    ∀ (m k : Nat), k + m = xs.length → (∀ j, j < k → tK T (xs.getD j (-9)) = 0) → mOk mX8_quickApart 4 0 0 2 [some (.ref 0), some (.ref r), some (.int (nI k))] [] (hS sw I J) 0 0 Q := by
  obtain ⟨k0, -⟩ := cdK (cA_r sw)
  obtain ⟨r0, -⟩ := id hx.1
  have hl := hx.2.1
  have hcap := hx.1.2.2.2.1
  intro m
  induction m with
  | zero =>
    intro k hk hall
    have ha : xs.all (fun c => decide (tK T c = 0)) = true := by
      rw [List.all_eq_true]
      intro c hc
      obtain ⟨j, hj, rfl⟩ := List.getElem_of_mem hc
      have := hall j (by omega)
      rw [List.getD_eq_getElem?_getD, List.getElem?_eq_getElem hj] at this
      simpa using this
    unfold qkA at hQ
    rw [if_pos ha] at hQ
    refine mOk.iload2n dX8_quickApart_2 rfl ?_
    refine mOk.aload1n dX8_quickApart_3 rfl ?_
    refine mOk.callV0 (M' := mX5_length) dX8_quickApart_4 ml_X8_84 ke_X5_length (by first | assumption | rfl) (by decide) (by decide) (by simp [Value.category]) (c_length hx ?_)
    refine mOk.icge (tgt := 33) dX8_quickApart_7 (by decide) (fun c7 => ?_) (fun c7 => absurd ((nI_le' (by omega) (by omega)).mpr (by omega)) c7)
    refine mOk.aload0n dX8_quickApart_33 rfl ?_
    refine mOk.getR dX8_quickApart_34 fl_X8_50 (by first | assumption | rfl) (by first | assumption | rfl) ?_
    refine mOk.aload0n dX8_quickApart_37 rfl ?_
    refine mOk.getR dX8_quickApart_38 fl_X8_19 (by first | assumption | rfl) (by first | assumption | rfl) ?_
    refine mOk.aload1n dX8_quickApart_41 rfl ?_
    refine mOk.callV2 (M' := mX6_isSorted) dX8_quickApart_42 ml_X8_237 ke_X6_isSorted (by first | assumption | rfl) (by decide) (by decide) (by simp [Value.category]) (c_isSorted h2 hx ?_)
    by_cases z : srtd (tC T) xs = true
    · rw [if_pos z] at hQ ⊢
      refine mOk.ifeq (tgt := 52) dX8_quickApart_45 (by decide) (fun c45 => absurd c45 ((by decide))) (fun c45 => ?_)
      refine mOk.iconst (x := 1) dX8_quickApart_48 (by decide) ?_
      refine mOk.goto (tgt := 53) dX8_quickApart_49 (by decide) ?_
      refine mOk.iret dX8_quickApart_53 rfl hQ
    · rw [if_neg z] at hQ ⊢
      refine mOk.ifeq (tgt := 52) dX8_quickApart_45 (by decide) (fun c45 => ?_) (fun c45 => absurd (rfl) c45)
      refine mOk.iconst (x := 0) dX8_quickApart_52 (by decide) ?_
      refine mOk.iret dX8_quickApart_53 rfl hQ
  | succ m ih =>
    intro k hk hall
    refine mOk.iload2n dX8_quickApart_2 rfl ?_
    refine mOk.aload1n dX8_quickApart_3 rfl ?_
    refine mOk.callV0 (M' := mX5_length) dX8_quickApart_4 ml_X8_84 ke_X5_length (by first | assumption | rfl) (by decide) (by decide) (by simp [Value.category]) (c_length hx ?_)
    refine mOk.icge (tgt := 33) dX8_quickApart_7 (by decide) (fun c7 => absurd c7 (mt (nI_le' (by omega) (by omega)).mp (by omega))) (fun c7 => ?_)
    refine mOk.aload0n dX8_quickApart_10 rfl ?_
    refine mOk.getR dX8_quickApart_11 fl_X8_19 (by first | assumption | rfl) (by first | assumption | rfl) ?_
    refine mOk.aload1n dX8_quickApart_14 rfl ?_
    refine mOk.iload2n dX8_quickApart_15 rfl ?_
    refine mOk.callV1 (M' := mX5_cell) dX8_quickApart_16 ml_X8_139 ke_X5_cell (by first | assumption | rfl) (by decide) (by decide) (by simp [Value.category]) (c_cell_in hx (by omega) ?_)
    refine mOk.callV1 (M' := mX1_kindOf) dX8_quickApart_19 ml_X8_112 ke_X1_kindOf (by first | assumption | rfl) (by decide) (by decide) (by simp [Value.category]) (c_kindOf h2 ?_)
    refine mOk.ifeq (tgt := 27) dX8_quickApart_22 (by decide) (fun c22 => ?_) (fun c22 => ?_)
    · refine mOk.iinc2 dX8_quickApart_27 (mOk.inc1 rfl) (by decide) rfl ?_
      refine mOk.goto (tgt := 2) dX8_quickApart_30 (by decide) ?_
      refine ih (k + 1) (by omega) (fun j hj => ?_)
      rcases Nat.lt_or_ge j k with z | z
      · exact hall j z
      · rw [show j = k by omega]
        exact c22
    · refine mOk.iconst (x := 0) dX8_quickApart_25 (by decide) ?_
      refine mOk.iret dX8_quickApart_26 rfl ?_
      unfold qkA at hQ
      rw [if_neg] at hQ
      · exact hQ
      · intro z
        rw [List.all_eq_true] at z
        have := z (xs.getD k (-9)) (by rw [List.getD_eq_getElem?_getD, List.getElem?_eq_getElem (by omega)]; exact List.getElem_mem _)
        exact c22 (by simpa using this)
theorem c_quickA {r ra cap : Nat} {xs : List Int32} (h2 : Cd I (cA sw) T) (hx : Rw I r ra cap xs) (hQ : Q (some (.int (qkA T xs))) (hS sw I J)) : mCl mX8_quickApart 4 0 0 [.ref 0, .ref r] (hS sw I J) Q := by
  refine mCl.of (by decide) rfl (Nat.le_of_ble_eq_true rfl) ?_
  show mOk _ _ _ _ _ [some (.ref 0), some (.ref r), none] _ _ _ _ _
  refine mOk.iconst (x := nI 0) dX8_quickApart_0 (by decide) ?_
  refine mOk.istore2n dX8_quickApart_1 rfl (by decide) rfl ?_
  exact l_quickA h2 hx hQ xs.length 0 (Nat.zero_add _) (fun j hj => absurd hj (Nat.not_lt_zero j))
theorem any_take {f : Int32 → Bool} {xs : List Int32} {k : Nat} (h : k < xs.length) : (xs.take (k + 1)).any f = ((xs.take k).any f || f (xs.getD k (-9))) := by
  rw [take_s h, List.any_append]
  simp
theorem any_all {f : Int32 → Bool} {xs : List Int32} {k : Nat} (h : k < xs.length) (hf : f (xs.getD k (-9)) = true) : xs.any f = true := by
  rw [List.any_eq_true]
  exact ⟨xs.getD k (-9), by rw [List.getD_eq_getElem?_getD, List.getElem?_eq_getElem h]; exact List.getElem_mem _, hf⟩
theorem l_quickJ {r ra cap : Nat} {xs : List Int32} (h2 : Cd I (cA sw) T) (hx : Rw I r ra cap xs) (hQ : Q (some (.int (qkJ T xs))) (hS sw I J)) :
    ∀ (m k : Nat) (x4 x5 : Option Value), mi_s [none, none, none, none, x4] 5 = true → k + m = xs.length → stg T (xs.take k) = false → mOk mX8_quickJoined 4 0 0 4 [some (.ref 0), some (.ref r), some (.int (if sec T (xs.take k) = true then 1 else 0)), some (.int (nI k)), x4, x5] [] (hS sw I J) 0 0 Q := by
  obtain ⟨k0, -⟩ := cdK (cA_r sw)
  obtain ⟨r0, -⟩ := id hx.1
  have hl := hx.2.1
  have hcap := hx.1.2.2.2.1
  intro m
  induction m with
  | zero =>
    intro k x4 x5 hx4 hk hall
    rw [List.take_of_length_le (by omega)] at hall ⊢
    unfold qkJ at hQ
    rw [if_neg (by rw [hall]; decide)] at hQ
    refine mOk.iload3n dX8_quickJoined_4 rfl ?_
    refine mOk.aload1n dX8_quickJoined_5 rfl ?_
    refine mOk.callV0 (M' := mX5_length) dX8_quickJoined_6 ml_X8_84 ke_X5_length (by first | assumption | rfl) (by decide) (by decide) (by simp [Value.category]) (c_length hx ?_)
    refine mOk.icge (tgt := 72) dX8_quickJoined_9 (by decide) (fun c9 => ?_) (fun c9 => absurd ((nI_le' (by omega) (by omega)).mpr (by omega)) c9)
    refine mOk.aload0n dX8_quickJoined_72 rfl ?_
    refine mOk.getR dX8_quickJoined_73 fl_X8_50 (by first | assumption | rfl) (by first | assumption | rfl) ?_
    refine mOk.aload0n dX8_quickJoined_76 rfl ?_
    refine mOk.getR dX8_quickJoined_77 fl_X8_19 (by first | assumption | rfl) (by first | assumption | rfl) ?_
    refine mOk.aload1n dX8_quickJoined_80 rfl ?_
    refine mOk.callV2 (M' := mX6_isSorted) dX8_quickJoined_81 ml_X8_237 ke_X6_isSorted (by first | assumption | rfl) (by decide) (by decide) (by simp [Value.category]) (c_isSorted h2 hx ?_)
    by_cases z : srtd (tC T) xs = true
    · rw [if_pos z] at hQ ⊢
      refine mOk.ifne (tgt := 89) dX8_quickJoined_84 (by decide) (fun c84 => ?_) (fun c84 => absurd c84 ((by decide)))
      by_cases z2 : sec T xs = true
      · rw [if_pos z2] at hQ ⊢
        refine mOk.iload2n dX8_quickJoined_89 rfl ?_
        refine mOk.ifeq (tgt := 97) dX8_quickJoined_90 (by decide) (fun c90 => absurd c90 ((by decide))) (fun c90 => ?_)
        refine mOk.iconst (x := 2) dX8_quickJoined_93 (by decide) ?_
        refine mOk.goto (tgt := 98) dX8_quickJoined_94 (by decide) ?_
        refine mOk.iret dX8_quickJoined_98 rfl hQ
      · rw [if_neg z2] at hQ ⊢
        refine mOk.iload2n dX8_quickJoined_89 rfl ?_
        refine mOk.ifeq (tgt := 97) dX8_quickJoined_90 (by decide) (fun c90 => ?_) (fun c90 => absurd (rfl) c90)
        refine mOk.iconst (x := 1) dX8_quickJoined_97 (by decide) ?_
        refine mOk.iret dX8_quickJoined_98 rfl hQ
    · rw [if_neg z] at hQ ⊢
      refine mOk.ifne (tgt := 89) dX8_quickJoined_84 (by decide) (fun c84 => absurd (rfl) c84) (fun c84 => ?_)
      refine mOk.iconst (x := 0) dX8_quickJoined_87 (by decide) ?_
      refine mOk.iret dX8_quickJoined_88 rfl hQ
  | succ m ih =>
    intro k x4 x5 hx4 hk hall
    have hkl : k < xs.length := by omega
    have bad : (tK T (xs.getD k (-9)) = 2 ∨ tK T (xs.getD k (-9)) = 3) → Q (some (.int 0)) (hS sw I J) := fun z => by
      unfold qkJ at hQ
      rw [if_pos] at hQ
      · exact hQ
      · exact any_all hkl (by simpa using z)
    refine mOk.iload3n dX8_quickJoined_4 rfl ?_
    refine mOk.aload1n dX8_quickJoined_5 rfl ?_
    refine mOk.callV0 (M' := mX5_length) dX8_quickJoined_6 ml_X8_84 ke_X5_length (by first | assumption | rfl) (by decide) (by decide) (by simp [Value.category]) (c_length hx ?_)
    refine mOk.icge (tgt := 72) dX8_quickJoined_9 (by decide) (fun c9 => absurd c9 (mt (nI_le' (by omega) (by omega)).mp (by omega))) (fun c9 => ?_)
    refine mOk.aload1n dX8_quickJoined_12 rfl ?_
    refine mOk.iload3n dX8_quickJoined_13 rfl ?_
    refine mOk.callV1 (M' := mX5_cell) dX8_quickJoined_14 ml_X8_139 ke_X5_cell (by first | assumption | rfl) (by decide) (by decide) (by simp [Value.category]) (c_cell_in hx hkl ?_)
    refine mOk.istore4 dX8_quickJoined_17 (by decide) rfl ?_
    refine mOk.aload0n dX8_quickJoined_19 rfl ?_
    refine mOk.getR dX8_quickJoined_20 fl_X8_19 (by first | assumption | rfl) (by first | assumption | rfl) ?_
    refine mOk.iload4 dX8_quickJoined_23 ?_
    refine mOk.callV1 (M' := mX1_kindOf) dX8_quickJoined_25 ml_X8_112 ke_X1_kindOf (by first | assumption | rfl) (by decide) (by decide) (by simp [Value.category]) (c_kindOf h2 ?_)
    refine mOk.istore5 dX8_quickJoined_28 (by decide) rfl ?_
    refine mOk.iload5 dX8_quickJoined_30 ?_
    refine mOk.iconst (x := 2) dX8_quickJoined_32 (by decide) ?_
    refine mOk.iceq (tgt := 42) dX8_quickJoined_33 (by decide) (fun c33 => ?_) (fun c33 => ?_)
    · refine mOk.iconst (x := 0) dX8_quickJoined_42 (by decide) ?_
      refine mOk.iret dX8_quickJoined_43 rfl ?_
      exact bad (Or.inl c33)
    · refine mOk.iload5 dX8_quickJoined_36 ?_
      refine mOk.iconst (x := 3) dX8_quickJoined_38 (by decide) ?_
      refine mOk.icne (tgt := 44) dX8_quickJoined_39 (by decide) (fun c39 => ?_) (fun c39 => ?_)
      · refine mOk.aload0n dX8_quickJoined_44 rfl ?_
        refine mOk.getR dX8_quickJoined_45 fl_X8_19 (by first | assumption | rfl) (by first | assumption | rfl) ?_
        refine mOk.aload0n dX8_quickJoined_48 rfl ?_
        refine mOk.getR dX8_quickJoined_49 fl_X8_19 (by first | assumption | rfl) (by first | assumption | rfl) ?_
        refine mOk.iload4 dX8_quickJoined_52 ?_
        refine mOk.iconst (x := nI 0) dX8_quickJoined_54 (by decide) ?_
        refine mOk.callV2 (M' := mX1_piece) dX8_quickJoined_55 ml_X8_124 ke_X1_piece (by first | assumption | rfl) (by decide) (by decide) (by simp [Value.category]) (c_piece h2 (k := 0) (by omega) ?_)
        refine mOk.callV1 (M' := mX1_isSecondOfPair) dX8_quickJoined_58 ml_X8_241 ke_X1_isSecondOfPair (by first | assumption | rfl) (by decide) (by decide) (by simp [Value.category]) (c_isSec h2 ?_)
        have hstg : stg T (xs.take (k + 1)) = false := by
          unfold stg
          rw [any_take hkl]
          unfold stg at hall
          rw [hall]
          rw [Bool.false_or, decide_eq_false c33, decide_eq_false c39]
          rfl
        have hsec : sec T (xs.take (k + 1)) = (sec T (xs.take k) || isSec T ((tP T (xs.getD k (-9))).getD 0 (-9))) := any_take hkl
        by_cases z : isSec T ((tP T (xs.getD k (-9))).getD 0 (-9)) = true
        · rw [if_pos z]
          rw [z, Bool.or_true] at hsec
          refine mOk.ifeq (tgt := 66) dX8_quickJoined_61 (by decide) (fun c61 => absurd c61 ((by decide))) (fun c61 => ?_)
          refine mOk.iconst (x := 1) dX8_quickJoined_64 (by decide) ?_
          refine mOk.istore2n dX8_quickJoined_65 rfl (by decide) rfl ?_
          refine mOk.iinc3 dX8_quickJoined_66 (mOk.inc1 rfl) (by decide) rfl ?_
          refine mOk.goto (tgt := 4) dX8_quickJoined_69 (by decide) ?_
          have := ih (k + 1) (some (.int (xs.getD k (-9)))) (some (.int (tK T (xs.getD k (-9))))) rfl (by omega) hstg
          rw [if_pos hsec] at this
          exact this
        · rw [if_neg z]
          rw [Bool.not_eq_true] at z
          rw [z, Bool.or_false] at hsec
          refine mOk.ifeq (tgt := 66) dX8_quickJoined_61 (by decide) (fun c61 => ?_) (fun c61 => absurd (rfl) c61)
          refine mOk.iinc3 dX8_quickJoined_66 (mOk.inc1 rfl) (by decide) rfl ?_
          refine mOk.goto (tgt := 4) dX8_quickJoined_69 (by decide) ?_
          have := ih (k + 1) (some (.int (xs.getD k (-9)))) (some (.int (tK T (xs.getD k (-9))))) rfl (by omega) hstg
          rw [hsec] at this
          exact this
      · refine mOk.iconst (x := 0) dX8_quickJoined_42 (by decide) ?_
        refine mOk.iret dX8_quickJoined_43 rfl ?_
        exact bad (Or.inr c39)
theorem c_quickJ {r ra cap : Nat} {xs : List Int32} (h2 : Cd I (cA sw) T) (hx : Rw I r ra cap xs) (hQ : Q (some (.int (qkJ T xs))) (hS sw I J)) : mCl mX8_quickJoined 4 0 0 [.ref 0, .ref r] (hS sw I J) Q := by
  refine mCl.of (by decide) rfl (Nat.le_of_ble_eq_true rfl) ?_
  show mOk _ _ _ _ _ [some (.ref 0), some (.ref r), none, none, none, none] _ _ _ _ _
  refine mOk.iconst (x := nI 0) dX8_quickJoined_0 (by decide) ?_
  refine mOk.istore2n dX8_quickJoined_1 rfl (by decide) rfl ?_
  refine mOk.iconst (x := nI 0) dX8_quickJoined_2 (by decide) ?_
  refine mOk.istore3n dX8_quickJoined_3 rfl (by decide) rfl ?_
  exact l_quickJ h2 hx hQ xs.length 0 none none rfl (Nat.zero_add _) rfl
theorem C_quick_tout {t f : Int32} (ht : t < 0 ∨ nI 4 ≤ t) (hQ : Q (some (.int (-1))) (hS sw I J)) : mCl mX8_quick 5 0 0 [.ref 0, .int t, .int f] (hS sw I J) Q := by
  refine mCl.of (by decide) rfl (Nat.le_of_ble_eq_true rfl) ?_
  show mOk _ _ _ _ _ [some (.ref 0), some (.int t), some (.int f), none] _ _ _ _ _
  refine mOk.aload0n dX8_quick_0 rfl ?_
  refine mOk.getR dX8_quick_1 fl_X8_29 (by first | assumption | rfl) (by first | assumption | rfl) ?_
  refine mOk.iload1n dX8_quick_4 rfl ?_
  refine mOk.callV1 (M' := mX0_text) dX8_quick_5 ml_X8_131 ke_X0_text (by first | assumption | rfl) (by decide) (by decide) (by simp [Value.category]) (c_text_out b22 ht ?_)
  refine mOk.astoreN3n dX8_quick_8 rfl (by decide) rfl ?_
  refine mOk.aloadN3n dX8_quick_9 rfl ?_
  refine mOk.ifnonnull_n dX8_quick_10 ?_
  refine mOk.iconst (x := -1) dX8_quick_13 (by decide) ?_
  refine mOk.iret dX8_quick_14 rfl hQ
theorem lkup2 {f : Int32} (h : f < 0 ∨ nI 2 ≤ f) : Op.lookupswitch.offset [(0, 28), (1, 34)] 40 f.toInt = 40 := by
  have := i32_out (n := 1) (by omega) h
  have e1 : ¬ ((0 : Int) = f.toInt) := by omega
  have e2 : ¬ ((1 : Int) = f.toInt) := by omega
  simp [Op.lookupswitch.offset, e1, e2]
theorem C_quick_fout {t : Nat} {f : Int32} (ht : t < 4) (hf : f < 0 ∨ nI 2 ≤ f) (hQ : Q (some (.int (-1))) (hS sw I J)) : mCl mX8_quick 5 0 0 [.ref 0, .int (nI t), .int f] (hS sw I J) Q := by
  refine mCl.of (by decide) rfl (Nat.le_of_ble_eq_true rfl) ?_
  show mOk _ _ _ _ _ [some (.ref 0), some (.int (nI t)), some (.int f), none] _ _ _ _ _
  refine mOk.aload0n dX8_quick_0 rfl ?_
  refine mOk.getR dX8_quick_1 fl_X8_29 (by first | assumption | rfl) (by first | assumption | rfl) ?_
  refine mOk.iload1n dX8_quick_4 rfl ?_
  refine mOk.callV1 (M' := mX0_text) dX8_quick_5 ml_X8_131 ke_X0_text (by first | assumption | rfl) (by decide) (by decide) (by simp [Value.category]) (c_text_in b22 ht ?_)
  refine mOk.astore3n dX8_quick_8 rfl (by decide) rfl ?_
  refine mOk.aload3n dX8_quick_9 rfl ?_
  refine mOk.ifnonnull_r (tgt := 15) dX8_quick_10 (by decide) ?_
  refine mOk.iload2n dX8_quick_15 rfl ?_
  refine mOk.lookup (off := 40) (tgt := 56) dX8_quick_16 (by decide) (lkup2 hf) (by decide) ?_
  refine mOk.iconst (x := -1) dX8_quick_56 (by decide) ?_
  refine mOk.iret dX8_quick_57 rfl hQ
theorem C_quick_0 {t : Nat} (h : InvC sw I bs T tx pp hs im) (ht : t < 4) (hQ : Q (some (.int (qkA T (tx t)))) (hS sw I J)) : mCl mX8_quick 5 0 0 [.ref 0, .int (nI t), .int (nI 0)] (hS sw I J) Q := by
  refine mCl.of (by decide) rfl (Nat.le_of_ble_eq_true rfl) ?_
  show mOk _ _ _ _ _ [some (.ref 0), some (.int (nI t)), some (.int (nI 0)), none] _ _ _ _ _
  refine mOk.aload0n dX8_quick_0 rfl ?_
  refine mOk.getR dX8_quick_1 fl_X8_29 (by first | assumption | rfl) (by first | assumption | rfl) ?_
  refine mOk.iload1n dX8_quick_4 rfl ?_
  refine mOk.callV1 (M' := mX0_text) dX8_quick_5 ml_X8_131 ke_X0_text (by first | assumption | rfl) (by decide) (by decide) (by simp [Value.category]) (c_text_in b22 ht ?_)
  refine mOk.astore3n dX8_quick_8 rfl (by decide) rfl ?_
  refine mOk.aload3n dX8_quick_9 rfl ?_
  refine mOk.ifnonnull_r (tgt := 15) dX8_quick_10 (by decide) ?_
  refine mOk.iload2n dX8_quick_15 rfl ?_
  refine mOk.lookup (off := 28) (tgt := 44) dX8_quick_16 (by decide) (by decide) (by decide) ?_
  refine mOk.aload0n dX8_quick_44 rfl ?_
  refine mOk.aload3n dX8_quick_45 rfl ?_
  refine mOk.callV1 (M' := mX8_quickApart) dX8_quick_46 ml_X8_172 ke_X8_quickApart (by first | assumption | rfl) (by decide) (by decide) (by simp [Value.category]) (c_quickA h.2.1 (h.2.2.2.1.2.1 t ht) ?_)
  refine mOk.iret dX8_quick_49 rfl hQ
theorem C_quick_1 {t : Nat} (h : InvC sw I bs T tx pp hs im) (ht : t < 4) (hQ : Q (some (.int (qkJ T (tx t)))) (hS sw I J)) : mCl mX8_quick 5 0 0 [.ref 0, .int (nI t), .int (nI 1)] (hS sw I J) Q := by
  refine mCl.of (by decide) rfl (Nat.le_of_ble_eq_true rfl) ?_
  show mOk _ _ _ _ _ [some (.ref 0), some (.int (nI t)), some (.int (nI 1)), none] _ _ _ _ _
  refine mOk.aload0n dX8_quick_0 rfl ?_
  refine mOk.getR dX8_quick_1 fl_X8_29 (by first | assumption | rfl) (by first | assumption | rfl) ?_
  refine mOk.iload1n dX8_quick_4 rfl ?_
  refine mOk.callV1 (M' := mX0_text) dX8_quick_5 ml_X8_131 ke_X0_text (by first | assumption | rfl) (by decide) (by decide) (by simp [Value.category]) (c_text_in b22 ht ?_)
  refine mOk.astore3n dX8_quick_8 rfl (by decide) rfl ?_
  refine mOk.aload3n dX8_quick_9 rfl ?_
  refine mOk.ifnonnull_r (tgt := 15) dX8_quick_10 (by decide) ?_
  refine mOk.iload2n dX8_quick_15 rfl ?_
  refine mOk.lookup (off := 34) (tgt := 50) dX8_quick_16 (by decide) (by decide) (by decide) ?_
  refine mOk.aload0n dX8_quick_50 rfl ?_
  refine mOk.aload3n dX8_quick_51 rfl ?_
  refine mOk.callV1 (M' := mX8_quickJoined) dX8_quick_52 ml_X8_176 ke_X8_quickJoined (by first | assumption | rfl) (by decide) (by decide) (by simp [Value.category]) (c_quickJ h.2.1 (h.2.2.2.1.2.1 t ht) ?_)
  refine mOk.iret dX8_quick_55 rfl hQ
theorem C_spell_out {t : Int32} (ht : t < 0 ∨ nI 4 ≤ t) (hQ : Q (some (.long (-1))) (hS sw I J)) : mCl mX8_spellings 5 0 0 [.ref 0, .int t] (hS sw I J) Q := by
  refine mCl.of (by decide) rfl (Nat.le_of_ble_eq_true rfl) ?_
  show mOk _ _ _ _ _ [some (.ref 0), some (.int t), none] _ _ _ _ _
  refine mOk.aload0n dX8_spellings_0 rfl ?_
  refine mOk.getR dX8_spellings_1 fl_X8_29 (by first | assumption | rfl) (by first | assumption | rfl) ?_
  refine mOk.iload1n dX8_spellings_4 rfl ?_
  refine mOk.callV1 (M' := mX0_text) dX8_spellings_5 ml_X8_131 ke_X0_text (by first | assumption | rfl) (by decide) (by decide) (by simp [Value.category]) (c_text_out b22 ht ?_)
  refine mOk.astoreN2n dX8_spellings_8 rfl (by decide) rfl ?_
  refine mOk.aloadN2n dX8_spellings_9 rfl ?_
  refine mOk.ifnonnull_n dX8_spellings_10 ?_
  refine mOk.ldc2 dX8_spellings_13 cl_X8_198 ?_
  refine mOk.lret dX8_spellings_16 rfl hQ
theorem C_spell_in {t : Nat} (h : InvC sw I bs T tx pp hs im) (hs' : SOk bs T tx pp hs im) (ht : t < 4)
    (hQ : ∀ I' J', InvC sw I' bs T tx pp hs im → Fr I I' → Q (some (.long (lN (sat (spell T (apart T (tx t))))))) (hS sw I' J')) : mCl mX8_spellings 5 0 0 [.ref 0, .int (nI t)] (hS sw I J) Q := by
  obtain ⟨h1, h2, ⟨T', h3⟩, h4, h5, h6, ⟨c1, c2, ⟨w, h7⟩, c4, c5⟩⟩ := id h
  have hT := hs'.2.1
  have hx := hs'.2.2.1 t ht
  have hp := pcs_le4 hT hx.1
  refine mCl.of (by decide) rfl (Nat.le_of_ble_eq_true rfl) ?_
  show mOk _ _ _ _ _ [some (.ref 0), some (.int (nI t)), none] _ _ _ _ _
  refine mOk.aload0n dX8_spellings_0 rfl ?_
  refine mOk.getR dX8_spellings_1 fl_X8_29 (by first | assumption | rfl) (by first | assumption | rfl) ?_
  refine mOk.iload1n dX8_spellings_4 rfl ?_
  refine mOk.callV1 (M' := mX0_text) dX8_spellings_5 ml_X8_131 ke_X0_text (by first | assumption | rfl) (by decide) (by decide) (by simp [Value.category]) (c_text_in b22 ht ?_)
  refine mOk.astore2n dX8_spellings_8 rfl (by decide) rfl ?_
  refine mOk.aload2n dX8_spellings_9 rfl ?_
  refine mOk.ifnonnull_r (tgt := 17) dX8_spellings_10 (by decide) ?_
  refine mOk.aload0n dX8_spellings_17 rfl ?_
  refine mOk.getR dX8_spellings_18 fl_X8_50 (by first | assumption | rfl) (by first | assumption | rfl) ?_
  refine mOk.iconst (x := nI 0) dX8_spellings_21 (by decide) ?_
  refine mOk.aload0n dX8_spellings_22 rfl ?_
  refine mOk.getR dX8_spellings_23 fl_X8_19 (by first | assumption | rfl) (by first | assumption | rfl) ?_
  refine mOk.aload2n dX8_spellings_26 rfl ?_
  refine mOk.aload0n dX8_spellings_27 rfl ?_
  refine mOk.getR dX8_spellings_28 fl_X8_66 (by first | assumption | rfl) (by first | assumption | rfl) ?_
  refine mOk.callV4 (M' := mX6_make) dX8_spellings_31 ml_X8_152 ke_X6_make (by first | assumption | rfl) (by decide) (by decide) (by simp [Value.category]) (c_make hT h2 (h4.2.1 t ht) hx.1 h7 (hdjS (by decide)) (by simp; omega) (by simp; omega) (by omega) (show 0 < 6 by omega) ?_)
  intro I1 hm1 ho1
  have g1 : InvC sw I1 bs T tx pp hs im := h.scr ho1 (by decide) ⟨c1.imp (fun _ z => z.off ho1 (by decide) (by decide)), c2.imp (fun _ z => z.off ho1 (by decide) (by decide)), ⟨_, hm1⟩, c4.imp (fun _ z => z.off ho1 (by decide) (by decide)), c5.imp (fun _ z => z.off ho1 (by decide) (by decide))⟩
  refine mOk.aload0n dX8_spellings_34 rfl ?_
  refine mOk.getR dX8_spellings_35 fl_X8_57 (by first | assumption | rfl) (by first | assumption | rfl) ?_
  refine mOk.aload0n dX8_spellings_38 rfl ?_
  refine mOk.getR dX8_spellings_39 fl_X8_66 (by first | assumption | rfl) (by first | assumption | rfl) ?_
  refine mOk.aload0n dX8_spellings_42 rfl ?_
  refine mOk.getR dX8_spellings_43 fl_X8_19 (by first | assumption | rfl) (by first | assumption | rfl) ?_
  refine mOk.callV2 (M' := mX7_waysToSpell) dX8_spellings_46 ml_X8_200 ke_X7_waysToSpell (by first | assumption | rfl) (by decide) (by decide) (by simp [Value.category]) (c_spell hT g1.2.1 hm1 hm1.2.1 ?_)
  intro J' hJ
  refine mOk.lret dX8_spellings_49 rfl ?_
  exact hQ I1 J' g1 (ho1.fr (by decide))
theorem C_pipes_out {r : Int32} (hr : r < 0 ∨ nI 6 ≤ r) (hQ : Q (some (.int (-1))) (hS sw I J)) : mCl mX8_pipes 1 0 0 [.ref 0, .int r] (hS sw I J) Q := by
  refine mCl.of (by decide) rfl (Nat.le_of_ble_eq_true rfl) ?_
  show mOk _ _ _ _ _ [some (.ref 0), some (.int r), none] _ _ _ _ _
  refine mOk.iload1n dX8_pipes_0 rfl ?_
  refine mOk.callS1 (M' := mX8_isRule) dX8_pipes_1 ml_X8_149 ke_X8_isRule rfl (by decide) (by decide) (by simp [Value.category]) (c_isRule_out hr ?_)
  refine mOk.ifne (tgt := 9) dX8_pipes_4 (by decide) (fun c4 => absurd (rfl) c4) (fun c4 => ?_)
  refine mOk.iconst (x := -1) dX8_pipes_7 (by decide) ?_
  refine mOk.iret dX8_pipes_8 rfl hQ
theorem C_pipes_full {r : Nat} (h : InvC sw I bs T tx pp hs im) (hr : r < 6) (hl : pp.length = 4) (hQ : Q (some (.int (-3))) (hS sw I J)) : mCl mX8_pipes 1 0 0 [.ref 0, .int (nI r)] (hS sw I J) Q := by
  refine mCl.of (by decide) rfl (Nat.le_of_ble_eq_true rfl) ?_
  show mOk _ _ _ _ _ [some (.ref 0), some (.int (nI r)), none] _ _ _ _ _
  refine mOk.iload1n dX8_pipes_0 rfl ?_
  refine mOk.callS1 (M' := mX8_isRule) dX8_pipes_1 ml_X8_149 ke_X8_isRule rfl (by decide) (by decide) (by simp [Value.category]) (c_isRule_in hr ?_)
  refine mOk.ifne (tgt := 9) dX8_pipes_4 (by decide) (fun c4 => ?_) (fun c4 => absurd c4 ((by decide)))
  refine mOk.aload0n dX8_pipes_9 rfl ?_
  refine mOk.getR dX8_pipes_10 fl_X8_29 (by first | assumption | rfl) (by first | assumption | rfl) ?_
  refine mOk.callV0 (M' := mX0_pipe) dX8_pipes_13 ml_X8_204 ke_X0_pipe (by first | assumption | rfl) (by decide) (by decide) (by simp [Value.category]) (c_pipe b22 ?_)
  refine mOk.astore2n dX8_pipes_16 rfl (by decide) rfl ?_
  refine mOk.aload2n dX8_pipes_17 rfl ?_
  refine mOk.iload1n dX8_pipes_18 rfl ?_
  refine mOk.callV1 (M' := mX5_push) dX8_pipes_19 ml_X8_80 ke_X5_push (by first | assumption | rfl) (by decide) (by decide) (by simp [Value.category]) (c_push_full h.2.2.2.1.2.2 (by rw [List.length_map]; exact hl) ?_)
  refine mOk.ifeq (tgt := 32) dX8_pipes_22 (by decide) (fun c22 => ?_) (fun c22 => absurd (rfl) c22)
  refine mOk.bipush (x := -3) dX8_pipes_32 (by decide) ?_
  refine mOk.iret dX8_pipes_34 rfl hQ
theorem C_pipes_in {r : Nat} (h : InvC sw I bs T tx pp hs im) (hr : r < 6) (hl : pp.length < 4) (hQ : ∀ I', InvC sw I' bs T tx (pp ++ [r]) hs im → Fr I I' → Q (some (.int (nI (pp.length + 1)))) (hS sw I' J)) : mCl mX8_pipes 1 0 0 [.ref 0, .int (nI r)] (hS sw I J) Q := by
  obtain ⟨h1, h2, ⟨T', h3⟩, h4, h5, h6, h7⟩ := id h
  refine mCl.of (by decide) rfl (Nat.le_of_ble_eq_true rfl) ?_
  show mOk _ _ _ _ _ [some (.ref 0), some (.int (nI r)), none] _ _ _ _ _
  refine mOk.iload1n dX8_pipes_0 rfl ?_
  refine mOk.callS1 (M' := mX8_isRule) dX8_pipes_1 ml_X8_149 ke_X8_isRule rfl (by decide) (by decide) (by simp [Value.category]) (c_isRule_in hr ?_)
  refine mOk.ifne (tgt := 9) dX8_pipes_4 (by decide) (fun c4 => ?_) (fun c4 => absurd c4 ((by decide)))
  refine mOk.aload0n dX8_pipes_9 rfl ?_
  refine mOk.getR dX8_pipes_10 fl_X8_29 (by first | assumption | rfl) (by first | assumption | rfl) ?_
  refine mOk.callV0 (M' := mX0_pipe) dX8_pipes_13 ml_X8_204 ke_X0_pipe (by first | assumption | rfl) (by decide) (by decide) (by simp [Value.category]) (c_pipe b22 ?_)
  refine mOk.astore2n dX8_pipes_16 rfl (by decide) rfl ?_
  refine mOk.aload2n dX8_pipes_17 rfl ?_
  refine mOk.iload1n dX8_pipes_18 rfl ?_
  refine mOk.callV1 (M' := mX5_push) dX8_pipes_19 ml_X8_80 ke_X5_push (by first | assumption | rfl) (by decide) (by decide) (by simp [Value.category]) (c_push h4.2.2 (by rw [List.length_map]; exact hl) ?_)
  intro I1 ht ho
  have e : pp.map nI ++ [nI r] = (pp ++ [r]).map nI := by simp
  rw [e] at ht
  refine mOk.ifeq (tgt := 32) dX8_pipes_22 (by decide) (fun c22 => absurd c22 ((by decide))) (fun c22 => ?_)
  refine mOk.aload2n dX8_pipes_25 rfl ?_
  refine mOk.callV0 (M' := mX5_length) dX8_pipes_26 ml_X8_84 ke_X5_length (by first | assumption | rfl) (by decide) (by decide) (by simp [Value.category]) (c_length ht ?_)
  refine mOk.goto (tgt := 34) dX8_pipes_29 (by decide) ?_
  refine mOk.iret dX8_pipes_34 rfl ?_
  rw [List.length_map, List.length_append]
  exact hQ I1 ⟨h1.ag (ho.ag (by decide)), h2.ag (ho.ag (by decide)), ⟨T', h3.ag (ho.ag (by decide))⟩, ⟨b22, fun t ht' => (h4.2.1 t ht').off ho (by simp; omega) (by simp; omega), ht⟩, h5.ag (ho.ag (by decide)), h6.ag (ho.ag (by decide)), h7.ag (ho.ag (by decide))⟩ (ho.fr (by decide))
theorem C_unpipe (h : InvC sw I bs T tx pp hs im) (hQ : ∀ I', InvC sw I' bs T tx [] hs im → Fr I I' → Q (some (.int (nI pp.length))) (hS sw I' J)) : mCl mX8_unpipe 1 0 0 [.ref 0] (hS sw I J) Q := by
  obtain ⟨h1, h2, ⟨T', h3⟩, h4, h5, h6, h7⟩ := id h
  refine mCl.of (by decide) rfl (Nat.le_of_ble_eq_true rfl) ?_
  show mOk _ _ _ _ _ [some (.ref 0), none, none] _ _ _ _ _
  refine mOk.aload0n dX8_unpipe_0 rfl ?_
  refine mOk.getR dX8_unpipe_1 fl_X8_29 (by first | assumption | rfl) (by first | assumption | rfl) ?_
  refine mOk.callV0 (M' := mX0_pipe) dX8_unpipe_4 ml_X8_204 ke_X0_pipe (by first | assumption | rfl) (by decide) (by decide) (by simp [Value.category]) (c_pipe b22 ?_)
  refine mOk.astore1n dX8_unpipe_7 rfl (by decide) rfl ?_
  refine mOk.aload1n dX8_unpipe_8 rfl ?_
  refine mOk.callV0 (M' := mX5_length) dX8_unpipe_9 ml_X8_84 ke_X5_length (by first | assumption | rfl) (by decide) (by decide) (by simp [Value.category]) (c_length h4.2.2 ?_)
  refine mOk.istore2n dX8_unpipe_12 rfl (by decide) rfl ?_
  refine mOk.aload1n dX8_unpipe_13 rfl ?_
  refine mOk.callV0 (M' := mX5_empty) dX8_unpipe_14 ml_X8_88 ke_X5_empty (by first | assumption | rfl) (by decide) (by decide) (by simp [Value.category]) (c_rempty h4.2.2 ?_)
  intro I1 ht ho
  refine mOk.iload2n dX8_unpipe_17 rfl ?_
  refine mOk.iret dX8_unpipe_18 rfl ?_
  rw [List.length_map]
  exact hQ I1 ⟨h1.ag (ho.ag (by decide)), h2.ag (ho.ag (by decide)), ⟨T', h3.ag (ho.ag (by decide))⟩, ⟨b22, fun t ht' => (h4.2.1 t ht').off ho (by simp; omega) (by simp; omega), ht⟩, h5.ag (ho.ag (by decide)), h6.ag (ho.ag (by decide)), h7.ag (ho.ag (by decide))⟩ (ho.fr (by decide))
theorem C_piped_out {t i : Int32} (ht : t < 0 ∨ nI 4 ≤ t) (hQ : Q (some (.int (-1))) (hS sw I J)) : mCl mX8_piped 6 0 0 [.ref 0, .int t, .int i] (hS sw I J) Q := by
  refine mCl.of (by decide) rfl (Nat.le_of_ble_eq_true rfl) ?_
  show mOk _ _ _ _ _ [some (.ref 0), some (.int t), some (.int i), none] _ _ _ _ _
  refine mOk.aload0n dX8_piped_0 rfl ?_
  refine mOk.getR dX8_piped_1 fl_X8_29 (by first | assumption | rfl) (by first | assumption | rfl) ?_
  refine mOk.iload1n dX8_piped_4 rfl ?_
  refine mOk.callV1 (M' := mX0_text) dX8_piped_5 ml_X8_131 ke_X0_text (by first | assumption | rfl) (by decide) (by decide) (by simp [Value.category]) (c_text_out b22 ht ?_)
  refine mOk.astoreN3n dX8_piped_8 rfl (by decide) rfl ?_
  refine mOk.aloadN3n dX8_piped_9 rfl ?_
  refine mOk.ifnonnull_n dX8_piped_10 ?_
  refine mOk.iconst (x := -1) dX8_piped_13 (by decide) ?_
  refine mOk.iret dX8_piped_14 rfl hQ
theorem C_piped_in {t : Nat} {i : Int32} (h : InvC sw I bs T tx pp hs im) (hs' : SOk bs T tx pp hs im) (ht : t < 4)
    (hQ : ∀ I', InvC sw I' bs T tx pp hs im → Fr I I' → Q (some (.int (lk (pipeF T pp (tx t)) i))) (hS sw I' J)) : mCl mX8_piped 6 0 0 [.ref 0, .int (nI t), .int i] (hS sw I J) Q := by
  obtain ⟨h1, h2, ⟨T', h3⟩, h4, h5, h6, ⟨c1, c2, ⟨w, h7⟩, c4, c5⟩⟩ := id h
  have hT := hs'.2.1
  have hx := hs'.2.2.1 t ht
  have hp := pcs_le4 hT hx.1
  refine mCl.of (by decide) rfl (Nat.le_of_ble_eq_true rfl) ?_
  show mOk _ _ _ _ _ [some (.ref 0), some (.int (nI t)), some (.int i), none] _ _ _ _ _
  refine mOk.aload0n dX8_piped_0 rfl ?_
  refine mOk.getR dX8_piped_1 fl_X8_29 (by first | assumption | rfl) (by first | assumption | rfl) ?_
  refine mOk.iload1n dX8_piped_4 rfl ?_
  refine mOk.callV1 (M' := mX0_text) dX8_piped_5 ml_X8_131 ke_X0_text (by first | assumption | rfl) (by decide) (by decide) (by simp [Value.category]) (c_text_in b22 ht ?_)
  refine mOk.astore3n dX8_piped_8 rfl (by decide) rfl ?_
  refine mOk.aload3n dX8_piped_9 rfl ?_
  refine mOk.ifnonnull_r (tgt := 15) dX8_piped_10 (by decide) ?_
  refine mOk.aload0n dX8_piped_15 rfl ?_
  refine mOk.getR dX8_piped_16 fl_X8_66 (by first | assumption | rfl) (by first | assumption | rfl) ?_
  refine mOk.aload3n dX8_piped_19 rfl ?_
  refine mOk.callV1 (M' := mX5_become) dX8_piped_20 ml_X8_156 ke_X5_become (by first | assumption | rfl) (by decide) (by decide) (by simp [Value.category]) (c_become h7 (h4.2.1 t ht) (by omega) (by omega) (by omega) (by omega) (by omega) ?_)
  intro I1 hm1 ho1
  obtain ⟨w2, hw2⟩ := c2
  refine mOk.aload0n dX8_piped_23 rfl ?_
  refine mOk.getR dX8_piped_24 fl_X8_50 (by first | assumption | rfl) (by first | assumption | rfl) ?_
  refine mOk.aload0n dX8_piped_27 rfl ?_
  refine mOk.getR dX8_piped_28 fl_X8_29 (by first | assumption | rfl) (by first | assumption | rfl) ?_
  refine mOk.callV0 (M' := mX0_pipe) dX8_piped_31 ml_X8_204 ke_X0_pipe (by first | assumption | rfl) (by decide) (by decide) (by simp [Value.category]) (c_pipe b22 ?_)
  refine mOk.aload0n dX8_piped_34 rfl ?_
  refine mOk.getR dX8_piped_35 fl_X8_19 (by first | assumption | rfl) (by first | assumption | rfl) ?_
  refine mOk.aload0n dX8_piped_38 rfl ?_
  refine mOk.getR dX8_piped_39 fl_X8_66 (by first | assumption | rfl) (by first | assumption | rfl) ?_
  refine mOk.callV3 (M' := mX6_goThrough) dX8_piped_42 ml_X8_207 ke_X6_goThrough (by first | assumption | rfl) (by decide) (by decide) (by simp [Value.category]) (c_through hs'.2.2.2.1.2 hT (h2.ag (ho1.ag (by decide))) (h4.2.2.off ho1 (by decide) (by decide)) hm1 (hw2.off ho1 (by decide) (by decide)) hx.1 (by omega) (hdjS (by decide)) (by decide) (by decide) (by decide) (by decide) ?_)
  intro I2 w3 hm2 hw3 ho2
  have g2 : InvC sw I2 bs T tx pp hs im := h.scr (S := [91, 92, 87, 88]) ((ho1.up (by decide)).tr ho2) (by decide) ⟨c1.imp (fun _ z => (z.off ho1 (by decide) (by decide)).off ho2 (by decide) (by decide)), ⟨_, hw3⟩, ⟨_, hm2⟩, c4.imp (fun _ z => (z.off ho1 (by decide) (by decide)).off ho2 (by decide) (by decide)), c5.imp (fun _ z => (z.off ho1 (by decide) (by decide)).off ho2 (by decide) (by decide))⟩
  refine mOk.aload0n dX8_piped_45 rfl ?_
  refine mOk.getR dX8_piped_46 fl_X8_66 (by first | assumption | rfl) (by first | assumption | rfl) ?_
  refine mOk.iload2n dX8_piped_49 rfl ?_
  refine mOk.callS2 (M' := mX8_look) dX8_piped_50 ml_X8_168 ke_X8_look rfl (by decide) (by decide) (by simp [Value.category]) (c_look hm2 ?_)
  refine mOk.iret dX8_piped_53 rfl ?_
  exact hQ I2 g2 ((ho1.fr (by decide)).tr (ho2.fr (by decide)))
theorem C_fixed_out {t : Int32} (ht : t < 0 ∨ nI 4 ≤ t) (hQ : Q (some (.int (-1))) (hS sw I J)) : mCl mX8_fixed 6 0 0 [.ref 0, .int t] (hS sw I J) Q := by
  refine mCl.of (by decide) rfl (Nat.le_of_ble_eq_true rfl) ?_
  show mOk _ _ _ _ _ [some (.ref 0), some (.int t), none, none] _ _ _ _ _
  refine mOk.aload0n dX8_fixed_0 rfl ?_
  refine mOk.getR dX8_fixed_1 fl_X8_29 (by first | assumption | rfl) (by first | assumption | rfl) ?_
  refine mOk.iload1n dX8_fixed_4 rfl ?_
  refine mOk.callV1 (M' := mX0_text) dX8_fixed_5 ml_X8_131 ke_X0_text (by first | assumption | rfl) (by decide) (by decide) (by simp [Value.category]) (c_text_out b22 ht ?_)
  refine mOk.astoreN2n dX8_fixed_8 rfl (by decide) rfl ?_
  refine mOk.aloadN2n dX8_fixed_9 rfl ?_
  refine mOk.ifnonnull_n dX8_fixed_10 ?_
  refine mOk.iconst (x := -1) dX8_fixed_13 (by decide) ?_
  refine mOk.iret dX8_fixed_14 rfl hQ
theorem l_fixed {I0 : Nat → Nat → Int32} {t : Nat} {xs0 : List Int32} (hs' : SOk bs T tx pp hs im)
    (hQ : ∀ I', InvC sw I' bs T tx pp hs im → Fr I0 I' → Q (some (.int (fixF T pp 10 0 xs0))) (hS sw I' J)) :
    ∀ (m p : Nat) (I : Nat → Nat → Int32) (xs : List Int32), p + m = 10 → fixF T pp m p xs = fixF T pp 10 0 xs0 → okL T xs → pcs T xs ≤ 128 → InvC sw I bs T tx pp hs im → Rw I 91 92 128 xs → Fr I0 I → mOk mX8_fixed 6 0 0 25 [some (.ref 0), some (.int (nI t)), some (.ref (22 + 4 + 2 * t)), some (.int (nI p))] [] (hS sw I J) 0 0 Q := by
  have hT := hs'.2.1
  intro m
  induction m with
  | zero =>
    intro p I xs hp hf hv hl h hm ho
    refine mOk.iload3n dX8_fixed_25 rfl ?_
    refine mOk.bipush (x := nI 9) dX8_fixed_26 (by decide) ?_
    refine mOk.icgt (tgt := 86) dX8_fixed_28 (by decide) (fun c28 => ?_) (fun c28 => absurd ((nI_lt' (by omega) (by omega)).mpr (by omega)) c28)
    refine mOk.bipush (x := -9) dX8_fixed_86 (by decide) ?_
    refine mOk.iret dX8_fixed_88 rfl ?_
    rw [← hf] at hQ
    exact hQ I h ho
  | succ m ih =>
    intro p I xs hp hf hv hl h hm ho
    obtain ⟨h1, h2, ⟨T', h3⟩, h4, h5, h6, ⟨c1, ⟨w2, hw2⟩, ⟨w, h7⟩, ⟨w4, hw4⟩, c5⟩⟩ := id h
    have hlen := len_pcs hT hv
    refine mOk.iload3n dX8_fixed_25 rfl ?_
    refine mOk.bipush (x := nI 9) dX8_fixed_26 (by decide) ?_
    refine mOk.icgt (tgt := 86) dX8_fixed_28 (by decide) (fun c28 => absurd c28 (mt (nI_lt' (by omega) (by omega)).mp (by omega))) (fun c28 => ?_)
    refine mOk.aload0n dX8_fixed_31 rfl ?_
    refine mOk.getR dX8_fixed_32 fl_X8_70 (by first | assumption | rfl) (by first | assumption | rfl) ?_
    refine mOk.aload0n dX8_fixed_35 rfl ?_
    refine mOk.getR dX8_fixed_36 fl_X8_66 (by first | assumption | rfl) (by first | assumption | rfl) ?_
    refine mOk.callV1 (M' := mX5_become) dX8_fixed_39 ml_X8_156 ke_X5_become (by first | assumption | rfl) (by decide) (by decide) (by simp [Value.category]) (c_become hw4 hm (by omega) (by omega) (by omega) (by omega) (by omega) ?_)
    intro I1 hn1 ho1
    have hm1 := hm.off ho1 (by decide) (by decide)
    refine mOk.aload0n dX8_fixed_42 rfl ?_
    refine mOk.getR dX8_fixed_43 fl_X8_50 (by first | assumption | rfl) (by first | assumption | rfl) ?_
    refine mOk.aload0n dX8_fixed_46 rfl ?_
    refine mOk.getR dX8_fixed_47 fl_X8_29 (by first | assumption | rfl) (by first | assumption | rfl) ?_
    refine mOk.callV0 (M' := mX0_pipe) dX8_fixed_50 ml_X8_204 ke_X0_pipe (by first | assumption | rfl) (by decide) (by decide) (by simp [Value.category]) (c_pipe b22 ?_)
    refine mOk.aload0n dX8_fixed_53 rfl ?_
    refine mOk.getR dX8_fixed_54 fl_X8_19 (by first | assumption | rfl) (by first | assumption | rfl) ?_
    refine mOk.aload0n dX8_fixed_57 rfl ?_
    refine mOk.getR dX8_fixed_58 fl_X8_66 (by first | assumption | rfl) (by first | assumption | rfl) ?_
    refine mOk.callV3 (M' := mX6_goThrough) dX8_fixed_61 ml_X8_207 ke_X6_goThrough (by first | assumption | rfl) (by decide) (by decide) (by simp [Value.category]) (c_through hs'.2.2.2.1.2 hT (h2.ag (ho1.ag (by decide))) (h4.2.2.off ho1 (by decide) (by decide)) hm1 (hw2.off ho1 (by decide) (by decide)) hv hl (hdjS (by decide)) (by decide) (by decide) (by decide) (by decide) ?_)
    intro I2 w3 hm2 hw3 ho2
    have hn2 := hn1.off ho2 (by decide) (by decide)
    have g2 : InvC sw I2 bs T tx pp hs im := h.scr (S := [91, 92, 87, 88, 93, 94]) ((ho1.up (by decide)).tr (ho2.up (by decide))) (by decide) ⟨c1.imp (fun _ z => (z.off ho1 (by decide) (by decide)).off ho2 (by decide) (by decide)), ⟨_, hw3⟩, ⟨_, hm2⟩, ⟨_, hn2⟩, c5.imp (fun _ z => (z.off ho1 (by decide) (by decide)).off ho2 (by decide) (by decide))⟩
    have hfr := ho.tr ((ho1.fr (by decide)).tr (ho2.fr (by decide)))
    obtain ⟨p1, p2⟩ := pipe_ok hT pp hv
    refine mOk.aload0n dX8_fixed_64 rfl ?_
    refine mOk.getR dX8_fixed_65 fl_X8_66 (by first | assumption | rfl) (by first | assumption | rfl) ?_
    refine mOk.aload0n dX8_fixed_68 rfl ?_
    refine mOk.getR dX8_fixed_69 fl_X8_70 (by first | assumption | rfl) (by first | assumption | rfl) ?_
    refine mOk.callV1 (M' := mX5_isLike) dX8_fixed_72 ml_X8_179 ke_X5_isLike (by first | assumption | rfl) (by decide) (by decide) (by simp [Value.category]) (c_isLike hm2 hn2 ?_)
    by_cases z : pipeF T pp xs = xs
    · rw [if_pos z]
      refine mOk.ifeq (tgt := 80) dX8_fixed_75 (by decide) (fun c75 => absurd c75 ((by decide))) (fun c75 => ?_)
      refine mOk.iload3n dX8_fixed_78 rfl ?_
      refine mOk.iret dX8_fixed_79 rfl ?_
      rw [← hf, fixF, if_pos z] at hQ
      exact hQ I2 g2 hfr
    · rw [if_neg z]
      refine mOk.ifeq (tgt := 80) dX8_fixed_75 (by decide) (fun c75 => ?_) (fun c75 => absurd (rfl) c75)
      refine mOk.iinc3 dX8_fixed_80 (mOk.inc1 rfl) (by decide) rfl ?_
      refine mOk.goto (tgt := 25) dX8_fixed_83 (by decide) ?_
      refine ih (p + 1) I2 (pipeF T pp xs) (by omega) ?_ p1 (by omega) g2 hm2 hfr
      rw [← hf, fixF, if_neg z]
theorem C_fixed_in {t : Nat} (h : InvC sw I bs T tx pp hs im) (hs' : SOk bs T tx pp hs im) (ht : t < 4)
    (hQ : ∀ I', InvC sw I' bs T tx pp hs im → Fr I I' → Q (some (.int (fixF T pp 10 0 (tx t)))) (hS sw I' J)) : mCl mX8_fixed 6 0 0 [.ref 0, .int (nI t)] (hS sw I J) Q := by
  obtain ⟨h1, h2, ⟨T', h3⟩, h4, h5, h6, ⟨c1, c2, ⟨w, h7⟩, c4, c5⟩⟩ := id h
  have hT := hs'.2.1
  have hx := hs'.2.2.1 t ht
  have hp := pcs_le4 hT hx.1
  refine mCl.of (by decide) rfl (Nat.le_of_ble_eq_true rfl) ?_
  show mOk _ _ _ _ _ [some (.ref 0), some (.int (nI t)), none, none] _ _ _ _ _
  refine mOk.aload0n dX8_fixed_0 rfl ?_
  refine mOk.getR dX8_fixed_1 fl_X8_29 (by first | assumption | rfl) (by first | assumption | rfl) ?_
  refine mOk.iload1n dX8_fixed_4 rfl ?_
  refine mOk.callV1 (M' := mX0_text) dX8_fixed_5 ml_X8_131 ke_X0_text (by first | assumption | rfl) (by decide) (by decide) (by simp [Value.category]) (c_text_in b22 ht ?_)
  refine mOk.astore2n dX8_fixed_8 rfl (by decide) rfl ?_
  refine mOk.aload2n dX8_fixed_9 rfl ?_
  refine mOk.ifnonnull_r (tgt := 15) dX8_fixed_10 (by decide) ?_
  refine mOk.aload0n dX8_fixed_15 rfl ?_
  refine mOk.getR dX8_fixed_16 fl_X8_66 (by first | assumption | rfl) (by first | assumption | rfl) ?_
  refine mOk.aload2n dX8_fixed_19 rfl ?_
  refine mOk.callV1 (M' := mX5_become) dX8_fixed_20 ml_X8_156 ke_X5_become (by first | assumption | rfl) (by decide) (by decide) (by simp [Value.category]) (c_become h7 (h4.2.1 t ht) (by omega) (by omega) (by omega) (by omega) (by omega) ?_)
  intro I1 hm1 ho1
  have g1 : InvC sw I1 bs T tx pp hs im := h.scr ho1 (by decide) ⟨c1.imp (fun _ z => z.off ho1 (by decide) (by decide)), c2.imp (fun _ z => z.off ho1 (by decide) (by decide)), ⟨_, hm1⟩, c4.imp (fun _ z => z.off ho1 (by decide) (by decide)), c5.imp (fun _ z => z.off ho1 (by decide) (by decide))⟩
  refine mOk.iconst (x := nI 0) dX8_fixed_23 (by decide) ?_
  refine mOk.istore3n dX8_fixed_24 rfl (by decide) rfl ?_
  exact l_fixed hs' hQ 10 0 I1 (tx t) rfl rfl hx.1 (by omega) g1 hm1 (ho1.fr (by decide))
end ORDER2
