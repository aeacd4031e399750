/-! ===== MarkOrder: two texts, images, counts ===== -/
section ORDER3
variable {sw : Bool} {I : Nat → Nat → Int32} {J : Nat → Nat → Int64} {Q : Option Value → mi_H → Prop} {bs : List Nat} {T : List CR} {tx : Nat → List Int32} {pp : List Nat} {hs : List (Nat × List Int32)} {im : ImT}
theorem C_same_out {t u r : Int32} (ht : (t < 0 ∨ nI 4 ≤ t) ∨ (u < 0 ∨ nI 4 ≤ u) ∨ (r < 0 ∨ nI 6 ≤ r)) (hQ : Q (some (.int (-1))) (hS sw I J)) : mCl mX8_same 5 0 0 [.ref 0, .int t, .int u, .int r] (hS sw I J) Q := by
  refine mCl.of (by decide) rfl (Nat.le_of_ble_eq_true rfl) ?_
  show mOk _ _ _ _ _ [some (.ref 0), some (.int t), some (.int u), some (.int r), none, none] _ _ _ _ _
  rcases ixc t (show 4 < 100000 by omega) with zt | ⟨t, ht', rfl⟩
  · refine mOk.aload0n dX8_same_0 rfl ?_
    refine mOk.getR dX8_same_1 fl_X8_29 (by first | assumption | rfl) (by first | assumption | rfl) ?_
    refine mOk.iload1n dX8_same_4 rfl ?_
    refine mOk.callV1 (M' := mX0_text) dX8_same_5 ml_X8_131 ke_X0_text (by first | assumption | rfl) (by decide) (by decide) (by simp [Value.category]) (c_text_out b22 zt ?_)
    refine mOk.astoreN4 dX8_same_8 (by decide) rfl ?_
    rcases ixc u (show 4 < 100000 by omega) with zu | ⟨u, hu', rfl⟩
    · refine mOk.aload0n dX8_same_10 rfl ?_
      refine mOk.getR dX8_same_11 fl_X8_29 (by first | assumption | rfl) (by first | assumption | rfl) ?_
      refine mOk.iload2n dX8_same_14 rfl ?_
      refine mOk.callV1 (M' := mX0_text) dX8_same_15 ml_X8_131 ke_X0_text (by first | assumption | rfl) (by decide) (by decide) (by simp [Value.category]) (c_text_out b22 zu ?_)
      refine mOk.astoreN5 dX8_same_18 (by decide) rfl ?_
      refine mOk.aloadN4 dX8_same_20 ?_
      refine mOk.ifnull_n (tgt := 37) dX8_same_22 (by decide) ?_
      refine mOk.iconst (x := -1) dX8_same_37 (by decide) ?_
      refine mOk.iret dX8_same_38 rfl hQ
    · refine mOk.aload0n dX8_same_10 rfl ?_
      refine mOk.getR dX8_same_11 fl_X8_29 (by first | assumption | rfl) (by first | assumption | rfl) ?_
      refine mOk.iload2n dX8_same_14 rfl ?_
      refine mOk.callV1 (M' := mX0_text) dX8_same_15 ml_X8_131 ke_X0_text (by first | assumption | rfl) (by decide) (by decide) (by simp [Value.category]) (c_text_in b22 hu' ?_)
      refine mOk.astore5 dX8_same_18 (by decide) rfl ?_
      refine mOk.aloadN4 dX8_same_20 ?_
      refine mOk.ifnull_n (tgt := 37) dX8_same_22 (by decide) ?_
      refine mOk.iconst (x := -1) dX8_same_37 (by decide) ?_
      refine mOk.iret dX8_same_38 rfl hQ
  · refine mOk.aload0n dX8_same_0 rfl ?_
    refine mOk.getR dX8_same_1 fl_X8_29 (by first | assumption | rfl) (by first | assumption | rfl) ?_
    refine mOk.iload1n dX8_same_4 rfl ?_
    refine mOk.callV1 (M' := mX0_text) dX8_same_5 ml_X8_131 ke_X0_text (by first | assumption | rfl) (by decide) (by decide) (by simp [Value.category]) (c_text_in b22 ht' ?_)
    refine mOk.astore4 dX8_same_8 (by decide) rfl ?_
    rcases ixc u (show 4 < 100000 by omega) with zu | ⟨u, hu', rfl⟩
    · refine mOk.aload0n dX8_same_10 rfl ?_
      refine mOk.getR dX8_same_11 fl_X8_29 (by first | assumption | rfl) (by first | assumption | rfl) ?_
      refine mOk.iload2n dX8_same_14 rfl ?_
      refine mOk.callV1 (M' := mX0_text) dX8_same_15 ml_X8_131 ke_X0_text (by first | assumption | rfl) (by decide) (by decide) (by simp [Value.category]) (c_text_out b22 zu ?_)
      refine mOk.astoreN5 dX8_same_18 (by decide) rfl ?_
      refine mOk.aload4 dX8_same_20 ?_
      refine mOk.ifnull_r dX8_same_22 ?_
      refine mOk.aloadN5 dX8_same_25 ?_
      refine mOk.ifnull_n (tgt := 37) dX8_same_27 (by decide) ?_
      refine mOk.iconst (x := -1) dX8_same_37 (by decide) ?_
      refine mOk.iret dX8_same_38 rfl hQ
    · have hr : r < 0 ∨ nI 6 ≤ r := by
        rcases ht with (z | z) | (z | z) | z
        · exact absurd z (nI_neg' (by omega))
        · have := (nI_le' (by omega) (by omega)).mp z
          omega
        · exact absurd z (nI_neg' (by omega))
        · have := (nI_le' (by omega) (by omega)).mp z
          omega
        · exact z
      refine mOk.aload0n dX8_same_10 rfl ?_
      refine mOk.getR dX8_same_11 fl_X8_29 (by first | assumption | rfl) (by first | assumption | rfl) ?_
      refine mOk.iload2n dX8_same_14 rfl ?_
      refine mOk.callV1 (M' := mX0_text) dX8_same_15 ml_X8_131 ke_X0_text (by first | assumption | rfl) (by decide) (by decide) (by simp [Value.category]) (c_text_in b22 hu' ?_)
      refine mOk.astore5 dX8_same_18 (by decide) rfl ?_
      refine mOk.aload4 dX8_same_20 ?_
      refine mOk.ifnull_r dX8_same_22 ?_
      refine mOk.aload5 dX8_same_25 ?_
      refine mOk.ifnull_r dX8_same_27 ?_
      refine mOk.iload3n dX8_same_30 rfl ?_
      refine mOk.callS1 (M' := mX8_isRule) dX8_same_31 ml_X8_149 ke_X8_isRule rfl (by decide) (by decide) (by simp [Value.category]) (c_isRule_out hr ?_)
      refine mOk.ifne (tgt := 39) dX8_same_34 (by decide) (fun c34 => absurd (rfl) c34) (fun c34 => ?_)
      refine mOk.iconst (x := -1) dX8_same_37 (by decide) ?_
      refine mOk.iret dX8_same_38 rfl hQ
theorem C_same_in {t u r : Nat} (h : InvC sw I bs T tx pp hs im) (hs' : SOk bs T tx pp hs im) (ht : t < 4) (hu : u < 4) (hr : r < 6)
    (hQ : ∀ I', InvC sw I' bs T tx pp hs im → Fr I I' → Q (some (.int (if ruleF T r (tx t) = ruleF T r (tx u) then 1 else 0))) (hS sw I' J)) : mCl mX8_same 5 0 0 [.ref 0, .int (nI t), .int (nI u), .int (nI r)] (hS sw I J) Q := by
  obtain ⟨h1, h2, ⟨T', h3⟩, h4, h5, h6, ⟨c1, c2, c3, ⟨w4, h7⟩, ⟨w5, h8⟩⟩⟩ := id h
  have hT := hs'.2.1
  have hx := hs'.2.2.1 t ht
  have hp := pcs_le4 hT hx.1
  have hx2 := hs'.2.2.1 u hu
  have hp2 := pcs_le4 hT hx2.1
  refine mCl.of (by decide) rfl (Nat.le_of_ble_eq_true rfl) ?_
  show mOk _ _ _ _ _ [some (.ref 0), some (.int (nI t)), some (.int (nI u)), some (.int (nI r)), none, none] _ _ _ _ _
  refine mOk.aload0n dX8_same_0 rfl ?_
  refine mOk.getR dX8_same_1 fl_X8_29 (by first | assumption | rfl) (by first | assumption | rfl) ?_
  refine mOk.iload1n dX8_same_4 rfl ?_
  refine mOk.callV1 (M' := mX0_text) dX8_same_5 ml_X8_131 ke_X0_text (by first | assumption | rfl) (by decide) (by decide) (by simp [Value.category]) (c_text_in b22 ht ?_)
  refine mOk.astore4 dX8_same_8 (by decide) rfl ?_
  refine mOk.aload0n dX8_same_10 rfl ?_
  refine mOk.getR dX8_same_11 fl_X8_29 (by first | assumption | rfl) (by first | assumption | rfl) ?_
  refine mOk.iload2n dX8_same_14 rfl ?_
  refine mOk.callV1 (M' := mX0_text) dX8_same_15 ml_X8_131 ke_X0_text (by first | assumption | rfl) (by decide) (by decide) (by simp [Value.category]) (c_text_in b22 hu ?_)
  refine mOk.astore5 dX8_same_18 (by decide) rfl ?_
  refine mOk.aload4 dX8_same_20 ?_
  refine mOk.ifnull_r dX8_same_22 ?_
  refine mOk.aload5 dX8_same_25 ?_
  refine mOk.ifnull_r dX8_same_27 ?_
  refine mOk.iload3n dX8_same_30 rfl ?_
  refine mOk.callS1 (M' := mX8_isRule) dX8_same_31 ml_X8_149 ke_X8_isRule rfl (by decide) (by decide) (by simp [Value.category]) (c_isRule_in hr ?_)
  refine mOk.ifne (tgt := 39) dX8_same_34 (by decide) (fun c34 => ?_) (fun c34 => absurd c34 ((by decide)))
  refine mOk.aload0n dX8_same_39 rfl ?_
  refine mOk.getR dX8_same_40 fl_X8_50 (by first | assumption | rfl) (by first | assumption | rfl) ?_
  refine mOk.iload3n dX8_same_43 rfl ?_
  refine mOk.aload0n dX8_same_44 rfl ?_
  refine mOk.getR dX8_same_45 fl_X8_19 (by first | assumption | rfl) (by first | assumption | rfl) ?_
  refine mOk.aload4 dX8_same_48 ?_
  refine mOk.aload0n dX8_same_50 rfl ?_
  refine mOk.getR dX8_same_51 fl_X8_70 (by first | assumption | rfl) (by first | assumption | rfl) ?_
  refine mOk.callV4 (M' := mX6_make) dX8_same_54 ml_X8_152 ke_X6_make (by first | assumption | rfl) (by decide) (by decide) (by simp [Value.category]) (c_make hT h2 (h4.2.1 t ht) hx.1 h7 (hdjS (by decide)) (by simp; omega) (by simp; omega) (by omega) hr ?_)
  intro I1 hm1 ho1
  refine mOk.aload0n dX8_same_57 rfl ?_
  refine mOk.getR dX8_same_58 fl_X8_50 (by first | assumption | rfl) (by first | assumption | rfl) ?_
  refine mOk.iload3n dX8_same_61 rfl ?_
  refine mOk.aload0n dX8_same_62 rfl ?_
  refine mOk.getR dX8_same_63 fl_X8_19 (by first | assumption | rfl) (by first | assumption | rfl) ?_
  refine mOk.aload5 dX8_same_66 ?_
  refine mOk.aload0n dX8_same_68 rfl ?_
  refine mOk.getR dX8_same_69 fl_X8_73 (by first | assumption | rfl) (by first | assumption | rfl) ?_
  refine mOk.callV4 (M' := mX6_make) dX8_same_72 ml_X8_152 ke_X6_make (by first | assumption | rfl) (by decide) (by decide) (by simp [Value.category]) (c_make hT (h2.ag (ho1.ag (by decide))) ((h4.2.1 u hu).off ho1 (by simp; omega) (by simp; omega)) hx2.1 (h8.off ho1 (by decide) (by decide)) (hdjS (by decide)) (by simp; omega) (by simp; omega) (by omega) hr ?_)
  intro I2 hm2 ho2
  have hm1' := hm1.off ho2 (by decide) (by decide)
  have g2 : InvC sw I2 bs T tx pp hs im := h.scr (S := [93, 94, 95, 96]) ((ho1.up (by decide)).tr (ho2.up (by decide))) (by decide) ⟨c1.imp (fun _ z => (z.off ho1 (by decide) (by decide)).off ho2 (by decide) (by decide)), c2.imp (fun _ z => (z.off ho1 (by decide) (by decide)).off ho2 (by decide) (by decide)), c3.imp (fun _ z => (z.off ho1 (by decide) (by decide)).off ho2 (by decide) (by decide)), ⟨_, hm1'⟩, ⟨_, hm2⟩⟩
  refine mOk.aload0n dX8_same_75 rfl ?_
  refine mOk.getR dX8_same_76 fl_X8_70 (by first | assumption | rfl) (by first | assumption | rfl) ?_
  refine mOk.aload0n dX8_same_79 rfl ?_
  refine mOk.getR dX8_same_80 fl_X8_73 (by first | assumption | rfl) (by first | assumption | rfl) ?_
  refine mOk.callV1 (M' := mX5_isLike) dX8_same_83 ml_X8_179 ke_X5_isLike (by first | assumption | rfl) (by decide) (by decide) (by simp [Value.category]) (c_isLike hm1' hm2 ?_)
  have hq := hQ I2 g2 ((ho1.fr (by decide)).tr (ho2.fr (by decide)))
  by_cases z : ruleF T r (tx t) = ruleF T r (tx u)
  · rw [if_pos z] at hq ⊢
    refine mOk.ifeq (tgt := 93) dX8_same_86 (by decide) (fun c86 => absurd c86 ((by decide))) (fun c86 => ?_)
    refine mOk.iconst (x := 1) dX8_same_89 (by decide) ?_
    refine mOk.goto (tgt := 94) dX8_same_90 (by decide) ?_
    refine mOk.iret dX8_same_94 rfl hq
  · rw [if_neg z] at hq ⊢
    refine mOk.ifeq (tgt := 93) dX8_same_86 (by decide) (fun c86 => ?_) (fun c86 => absurd (rfl) c86)
    refine mOk.iconst (x := 0) dX8_same_93 (by decide) ?_
    refine mOk.iret dX8_same_94 rfl hq
theorem C_seam_out {t u r w : Int32} (ht : (t < 0 ∨ nI 4 ≤ t) ∨ (u < 0 ∨ nI 4 ≤ u) ∨ (r < 0 ∨ nI 6 ≤ r) ∨ (w < 0 ∨ nI 3 ≤ w)) (hQ : Q (some (.int (-1))) (hS sw I J)) : mCl mX8_seam 6 0 0 [.ref 0, .int t, .int u, .int r, .int w] (hS sw I J) Q := by
  refine mCl.of (by decide) rfl (Nat.le_of_ble_eq_true rfl) ?_
  show mOk _ _ _ _ _ [some (.ref 0), some (.int t), some (.int u), some (.int r), some (.int w), none, none, none, none] _ _ _ _ _
  rcases ixc t (show 4 < 100000 by omega) with zt | ⟨t, ht', rfl⟩
  · refine mOk.aload0n dX8_seam_0 rfl ?_
    refine mOk.getR dX8_seam_1 fl_X8_29 (by first | assumption | rfl) (by first | assumption | rfl) ?_
    refine mOk.iload1n dX8_seam_4 rfl ?_
    refine mOk.callV1 (M' := mX0_text) dX8_seam_5 ml_X8_131 ke_X0_text (by first | assumption | rfl) (by decide) (by decide) (by simp [Value.category]) (c_text_out b22 zt ?_)
    refine mOk.astoreN5 dX8_seam_8 (by decide) rfl ?_
    rcases ixc u (show 4 < 100000 by omega) with zu | ⟨u, hu', rfl⟩
    · refine mOk.aload0n dX8_seam_10 rfl ?_
      refine mOk.getR dX8_seam_11 fl_X8_29 (by first | assumption | rfl) (by first | assumption | rfl) ?_
      refine mOk.iload2n dX8_seam_14 rfl ?_
      refine mOk.callV1 (M' := mX0_text) dX8_seam_15 ml_X8_131 ke_X0_text (by first | assumption | rfl) (by decide) (by decide) (by simp [Value.category]) (c_text_out b22 zu ?_)
      refine mOk.astoreN6 dX8_seam_18 (by decide) rfl ?_
      refine mOk.aloadN5 dX8_seam_20 ?_
      refine mOk.ifnull_n (tgt := 48) dX8_seam_22 (by decide) ?_
      refine mOk.iconst (x := -1) dX8_seam_48 (by decide) ?_
      refine mOk.iret dX8_seam_49 rfl hQ
    · refine mOk.aload0n dX8_seam_10 rfl ?_
      refine mOk.getR dX8_seam_11 fl_X8_29 (by first | assumption | rfl) (by first | assumption | rfl) ?_
      refine mOk.iload2n dX8_seam_14 rfl ?_
      refine mOk.callV1 (M' := mX0_text) dX8_seam_15 ml_X8_131 ke_X0_text (by first | assumption | rfl) (by decide) (by decide) (by simp [Value.category]) (c_text_in b22 hu' ?_)
      refine mOk.astore6 dX8_seam_18 (by decide) rfl ?_
      refine mOk.aloadN5 dX8_seam_20 ?_
      refine mOk.ifnull_n (tgt := 48) dX8_seam_22 (by decide) ?_
      refine mOk.iconst (x := -1) dX8_seam_48 (by decide) ?_
      refine mOk.iret dX8_seam_49 rfl hQ
  · refine mOk.aload0n dX8_seam_0 rfl ?_
    refine mOk.getR dX8_seam_1 fl_X8_29 (by first | assumption | rfl) (by first | assumption | rfl) ?_
    refine mOk.iload1n dX8_seam_4 rfl ?_
    refine mOk.callV1 (M' := mX0_text) dX8_seam_5 ml_X8_131 ke_X0_text (by first | assumption | rfl) (by decide) (by decide) (by simp [Value.category]) (c_text_in b22 ht' ?_)
    refine mOk.astore5 dX8_seam_8 (by decide) rfl ?_
    rcases ixc u (show 4 < 100000 by omega) with zu | ⟨u, hu', rfl⟩
    · refine mOk.aload0n dX8_seam_10 rfl ?_
      refine mOk.getR dX8_seam_11 fl_X8_29 (by first | assumption | rfl) (by first | assumption | rfl) ?_
      refine mOk.iload2n dX8_seam_14 rfl ?_
      refine mOk.callV1 (M' := mX0_text) dX8_seam_15 ml_X8_131 ke_X0_text (by first | assumption | rfl) (by decide) (by decide) (by simp [Value.category]) (c_text_out b22 zu ?_)
      refine mOk.astoreN6 dX8_seam_18 (by decide) rfl ?_
      refine mOk.aload5 dX8_seam_20 ?_
      refine mOk.ifnull_r dX8_seam_22 ?_
      refine mOk.aloadN6 dX8_seam_25 ?_
      refine mOk.ifnull_n (tgt := 48) dX8_seam_27 (by decide) ?_
      refine mOk.iconst (x := -1) dX8_seam_48 (by decide) ?_
      refine mOk.iret dX8_seam_49 rfl hQ
    · have hrw : (r < 0 ∨ nI 6 ≤ r) ∨ (w < 0 ∨ nI 3 ≤ w) := by
        rcases ht with (z | z) | (z | z) | z
        · exact absurd z (nI_neg' (by omega))
        · have := (nI_le' (by omega) (by omega)).mp z
          omega
        · exact absurd z (nI_neg' (by omega))
        · have := (nI_le' (by omega) (by omega)).mp z
          omega
        · exact z
      refine mOk.aload0n dX8_seam_10 rfl ?_
      refine mOk.getR dX8_seam_11 fl_X8_29 (by first | assumption | rfl) (by first | assumption | rfl) ?_
      refine mOk.iload2n dX8_seam_14 rfl ?_
      refine mOk.callV1 (M' := mX0_text) dX8_seam_15 ml_X8_131 ke_X0_text (by first | assumption | rfl) (by decide) (by decide) (by simp [Value.category]) (c_text_in b22 hu' ?_)
      rcases ixc r (show 6 < 100000 by omega) with zr | ⟨r, hr', rfl⟩
      · refine mOk.astore6 dX8_seam_18 (by decide) rfl ?_
        refine mOk.aload5 dX8_seam_20 ?_
        refine mOk.ifnull_r dX8_seam_22 ?_
        refine mOk.aload6 dX8_seam_25 ?_
        refine mOk.ifnull_r dX8_seam_27 ?_
        refine mOk.iload3n dX8_seam_30 rfl ?_
        refine mOk.callS1 (M' := mX8_isRule) dX8_seam_31 ml_X8_149 ke_X8_isRule rfl (by decide) (by decide) (by simp [Value.category]) (c_isRule_out zr ?_)
        refine mOk.ifeq (tgt := 48) dX8_seam_34 (by decide) (fun c34 => ?_) (fun c34 => absurd (rfl) c34)
        refine mOk.iconst (x := -1) dX8_seam_48 (by decide) ?_
        refine mOk.iret dX8_seam_49 rfl hQ
      · have hw : w < 0 ∨ nI 3 ≤ w := by
          rcases hrw with (z | z) | z
          · exact absurd z (nI_neg' (by omega))
          · have := (nI_le' (by omega) (by omega)).mp z
            omega
          · exact z
        refine mOk.astore6 dX8_seam_18 (by decide) rfl ?_
        refine mOk.aload5 dX8_seam_20 ?_
        refine mOk.ifnull_r dX8_seam_22 ?_
        refine mOk.aload6 dX8_seam_25 ?_
        refine mOk.ifnull_r dX8_seam_27 ?_
        refine mOk.iload3n dX8_seam_30 rfl ?_
        refine mOk.callS1 (M' := mX8_isRule) dX8_seam_31 ml_X8_149 ke_X8_isRule rfl (by decide) (by decide) (by simp [Value.category]) (c_isRule_in hr' ?_)
        refine mOk.ifeq (tgt := 48) dX8_seam_34 (by decide) (fun c34 => absurd c34 ((by decide))) (fun c34 => ?_)
        by_cases z : w < 0
        · refine mOk.iload4 dX8_seam_37 ?_
          refine mOk.iflt (tgt := 48) dX8_seam_39 (by decide) (fun c39 => ?_) (fun c39 => absurd (z) c39)
          refine mOk.iconst (x := -1) dX8_seam_48 (by decide) ?_
          refine mOk.iret dX8_seam_49 rfl hQ
        · refine mOk.iload4 dX8_seam_37 ?_
          refine mOk.iflt (tgt := 48) dX8_seam_39 (by decide) (fun c39 => absurd c39 (z)) (fun c39 => ?_)
          refine mOk.iload4 dX8_seam_42 ?_
          refine mOk.iconst (x := nI 2) dX8_seam_44 (by decide) ?_
          refine mOk.icle (tgt := 50) dX8_seam_45 (by decide) (fun c45 => absurd c45 (i32_gt (by omega) (hw.resolve_left z))) (fun c45 => ?_)
          refine mOk.iconst (x := -1) dX8_seam_48 (by decide) ?_
          refine mOk.iret dX8_seam_49 rfl hQ
theorem C_seam_in {t u r w : Nat} (h : InvC sw I bs T tx pp hs im) (hs' : SOk bs T tx pp hs im) (ht : t < 4) (hu : u < 4) (hr : r < 6) (hw : w < 3)
    (hQ : ∀ I', InvC sw I' bs T tx pp hs im → Fr I I' → Q (some (.int (nI (smW T r (tx t) (tx u) w)))) (hS sw I' J)) : mCl mX8_seam 6 0 0 [.ref 0, .int (nI t), .int (nI u), .int (nI r), .int (nI w)] (hS sw I J) Q := by
  obtain ⟨h1, h2, ⟨T', h3⟩, h4, h5, h6, ⟨⟨w1, h9⟩, c2, ⟨w3, h10⟩, ⟨w4, h7⟩, ⟨w5, h8⟩⟩⟩ := id h
  have hT := hs'.2.1
  have hx := hs'.2.2.1 t ht
  have hp := pcs_le4 hT hx.1
  have hx2 := hs'.2.2.1 u hu
  have hp2 := pcs_le4 hT hx2.1
  have hok : okL T (tx t ++ tx u) := fun c hc => (List.mem_append.mp hc).elim (hx.1 c) (hx2.1 c)
  have hpa := pcs_app T (tx t) (tx u)
  refine mCl.of (by decide) rfl (Nat.le_of_ble_eq_true rfl) ?_
  show mOk _ _ _ _ _ [some (.ref 0), some (.int (nI t)), some (.int (nI u)), some (.int (nI r)), some (.int (nI w)), none, none, none, none] _ _ _ _ _
  refine mOk.aload0n dX8_seam_0 rfl ?_
  refine mOk.getR dX8_seam_1 fl_X8_29 (by first | assumption | rfl) (by first | assumption | rfl) ?_
  refine mOk.iload1n dX8_seam_4 rfl ?_
  refine mOk.callV1 (M' := mX0_text) dX8_seam_5 ml_X8_131 ke_X0_text (by first | assumption | rfl) (by decide) (by decide) (by simp [Value.category]) (c_text_in b22 ht ?_)
  refine mOk.astore5 dX8_seam_8 (by decide) rfl ?_
  refine mOk.aload0n dX8_seam_10 rfl ?_
  refine mOk.getR dX8_seam_11 fl_X8_29 (by first | assumption | rfl) (by first | assumption | rfl) ?_
  refine mOk.iload2n dX8_seam_14 rfl ?_
  refine mOk.callV1 (M' := mX0_text) dX8_seam_15 ml_X8_131 ke_X0_text (by first | assumption | rfl) (by decide) (by decide) (by simp [Value.category]) (c_text_in b22 hu ?_)
  refine mOk.astore6 dX8_seam_18 (by decide) rfl ?_
  refine mOk.aload5 dX8_seam_20 ?_
  refine mOk.ifnull_r dX8_seam_22 ?_
  refine mOk.aload6 dX8_seam_25 ?_
  refine mOk.ifnull_r dX8_seam_27 ?_
  refine mOk.iload3n dX8_seam_30 rfl ?_
  refine mOk.callS1 (M' := mX8_isRule) dX8_seam_31 ml_X8_149 ke_X8_isRule rfl (by decide) (by decide) (by simp [Value.category]) (c_isRule_in hr ?_)
  refine mOk.ifeq (tgt := 48) dX8_seam_34 (by decide) (fun c34 => absurd c34 ((by decide))) (fun c34 => ?_)
  refine mOk.iload4 dX8_seam_37 ?_
  refine mOk.iflt (tgt := 48) dX8_seam_39 (by decide) (fun c39 => absurd c39 (nI_neg' (by omega))) (fun c39 => ?_)
  refine mOk.iload4 dX8_seam_42 ?_
  refine mOk.iconst (x := nI 2) dX8_seam_44 (by decide) ?_
  refine mOk.icle (tgt := 50) dX8_seam_45 (by decide) (fun c45 => ?_) (fun c45 => absurd ((nI_le' (by omega) (by omega)).mpr (by omega)) c45)
  refine mOk.aload0n dX8_seam_50 rfl ?_
  refine mOk.getR dX8_seam_51 fl_X8_50 (by first | assumption | rfl) (by first | assumption | rfl) ?_
  refine mOk.iload3n dX8_seam_54 rfl ?_
  refine mOk.aload0n dX8_seam_55 rfl ?_
  refine mOk.getR dX8_seam_56 fl_X8_19 (by first | assumption | rfl) (by first | assumption | rfl) ?_
  refine mOk.aload5 dX8_seam_59 ?_
  refine mOk.aload0n dX8_seam_61 rfl ?_
  refine mOk.getR dX8_seam_62 fl_X8_70 (by first | assumption | rfl) (by first | assumption | rfl) ?_
  refine mOk.callV4 (M' := mX6_make) dX8_seam_65 ml_X8_152 ke_X6_make (by first | assumption | rfl) (by decide) (by decide) (by simp [Value.category]) (c_make hT h2 (h4.2.1 t ht) hx.1 h7 (hdjS (by decide)) (by simp; omega) (by simp; omega) (by omega) hr ?_)
  intro I1 hm1 ho1
  refine mOk.aload0n dX8_seam_68 rfl ?_
  refine mOk.getR dX8_seam_69 fl_X8_50 (by first | assumption | rfl) (by first | assumption | rfl) ?_
  refine mOk.iload3n dX8_seam_72 rfl ?_
  refine mOk.aload0n dX8_seam_73 rfl ?_
  refine mOk.getR dX8_seam_74 fl_X8_19 (by first | assumption | rfl) (by first | assumption | rfl) ?_
  refine mOk.aload6 dX8_seam_77 ?_
  refine mOk.aload0n dX8_seam_79 rfl ?_
  refine mOk.getR dX8_seam_80 fl_X8_73 (by first | assumption | rfl) (by first | assumption | rfl) ?_
  refine mOk.callV4 (M' := mX6_make) dX8_seam_83 ml_X8_152 ke_X6_make (by first | assumption | rfl) (by decide) (by decide) (by simp [Value.category]) (c_make hT (h2.ag (ho1.ag (by decide))) ((h4.2.1 u hu).off ho1 (by simp; omega) (by simp; omega)) hx2.1 (h8.off ho1 (by decide) (by decide)) (hdjS (by decide)) (by simp; omega) (by simp; omega) (by omega) hr ?_)
  intro I2 hm2 ho2
  have ho12 : Off [93, 94, 95, 96] I I2 := (ho1.up (by decide)).tr (ho2.up (by decide))
  have hm1' := hm1.off ho2 (by decide) (by decide)
  refine mOk.aload0n dX8_seam_86 rfl ?_
  refine mOk.getR dX8_seam_87 fl_X8_50 (by first | assumption | rfl) (by first | assumption | rfl) ?_
  refine mOk.iload3n dX8_seam_90 rfl ?_
  refine mOk.aload0n dX8_seam_91 rfl ?_
  refine mOk.getR dX8_seam_92 fl_X8_19 (by first | assumption | rfl) (by first | assumption | rfl) ?_
  refine mOk.aload5 dX8_seam_95 ?_
  refine mOk.aload6 dX8_seam_97 ?_
  refine mOk.aload0n dX8_seam_99 rfl ?_
  refine mOk.getR dX8_seam_100 fl_X8_66 (by first | assumption | rfl) (by first | assumption | rfl) ?_
  refine mOk.callV5 (M' := mX6_makeOfBoth) dX8_seam_103 ml_X8_183 ke_X6_makeOfBoth (by first | assumption | rfl) (by decide) (by decide) (by simp [Value.category]) (c_makeBoth (zs := []) hT (h2.ag (ho12.ag (by decide))) ⟨_, h9.off ho12 (by decide) (by decide)⟩ ((h4.2.1 t ht).off ho12 (by simp; omega) (by simp; omega)) ((h4.2.1 u hu).off ho12 (by simp; omega) (by simp; omega)) hok (h10.off ho12 (by decide) (by decide)) (hdjS (by decide)) (by simp; omega) (by simp; omega) (by simp; omega) (by simp; omega) (by decide) (by decide) (by omega) (by omega) hr ?_)
  intro I3 hm3 hb3 ho3
  have hm1'' := hm1'.off ho3 (by decide) (by decide)
  have hm2'' := hm2.off ho3 (by decide) (by decide)
  have hl3 := hm3.2.1
  have g3 : InvC sw I3 bs T tx pp hs im := h.scr (S := [91, 92, 85, 86, 93, 94, 95, 96]) ((ho12.up (by decide)).tr (ho3.up (by decide))) (by decide) ⟨hb3, c2.imp (fun _ z => (z.off ho12 (by decide) (by decide)).off ho3 (by decide) (by decide)), ⟨_, hm3⟩, ⟨_, hm1''⟩, ⟨_, hm2''⟩⟩
  have hq := hQ I3 g3 ((ho12.fr (by decide)).tr (ho3.fr (by decide)))
  have hle := (cpl_le (ruleF T r (tx t ++ tx u)) (ruleF T r (tx t))).1
  have hle2 := (cpl_le (ruleF T r (tx t ++ tx u)).reverse (ruleF T r (tx u)).reverse).1
  rw [List.length_reverse] at hle2
  have eA : cpl (ruleF T r (tx t ++ tx u)) (ruleF T r (tx t)) = smA T r (tx t) (tx u) := rfl
  have eB : min (cpl (ruleF T r (tx t ++ tx u)).reverse (ruleF T r (tx u)).reverse) ((ruleF T r (tx t ++ tx u)).length - smA T r (tx t) (tx u)) = smB T r (tx t) (tx u) := rfl
  refine mOk.aload0n dX8_seam_106 rfl ?_
  refine mOk.getR dX8_seam_107 fl_X8_66 (by first | assumption | rfl) (by first | assumption | rfl) ?_
  refine mOk.aload0n dX8_seam_110 rfl ?_
  refine mOk.getR dX8_seam_111 fl_X8_70 (by first | assumption | rfl) (by first | assumption | rfl) ?_
  refine mOk.callV1 (M' := mX5_alikeAhead) dX8_seam_114 ml_X8_187 ke_X5_alikeAhead (by first | assumption | rfl) (by decide) (by decide) (by simp [Value.category]) (c_ahead hm3 hm1'' ?_)
  refine mOk.istore7 dX8_seam_117 (by decide) rfl ?_
  refine mOk.aload0n dX8_seam_119 rfl ?_
  refine mOk.getR dX8_seam_120 fl_X8_66 (by first | assumption | rfl) (by first | assumption | rfl) ?_
  refine mOk.aload0n dX8_seam_123 rfl ?_
  refine mOk.getR dX8_seam_124 fl_X8_73 (by first | assumption | rfl) (by first | assumption | rfl) ?_
  refine mOk.callV1 (M' := mX5_alikeBehind) dX8_seam_127 ml_X8_190 ke_X5_alikeBehind (by first | assumption | rfl) (by decide) (by decide) (by simp [Value.category]) (c_behind hm3 hm2'' ?_)
  refine mOk.aload0n dX8_seam_130 rfl ?_
  refine mOk.getR dX8_seam_131 fl_X8_66 (by first | assumption | rfl) (by first | assumption | rfl) ?_
  refine mOk.callV0 (M' := mX5_length) dX8_seam_134 ml_X8_84 ke_X5_length (by first | assumption | rfl) (by decide) (by decide) (by simp [Value.category]) (c_length hm3 ?_)
  refine mOk.iload7 dX8_seam_137 ?_
  refine mOk.isub dX8_seam_139 ?_
  refine mOk.top (pk_sub hle) ?_
  refine mOk.mmin dX8_seam_140 ml_X8_193 (by decide) (by decide) (by simp [Value.category]) ?_
  refine mOk.top (min_nI (by omega) (by omega)) ?_
  rw [eA, eB]
  have hle3 : smB T r (tx t) (tx u) ≤ (ruleF T r (tx t ++ tx u)).length - smA T r (tx t) (tx u) := Nat.min_le_right _ _
  rw [eA] at hle
  rcases (show w = 0 ∨ w = 1 ∨ w = 2 by omega) with rfl | rfl | rfl
  · refine mOk.istore8 dX8_seam_143 (by decide) rfl ?_
    refine mOk.iload4 dX8_seam_145 ?_
    refine mOk.ifne (tgt := 153) dX8_seam_147 (by decide) (fun c147 => absurd (rfl) c147) (fun c147 => ?_)
    refine mOk.iload7 dX8_seam_150 ?_
    refine mOk.iret dX8_seam_152 rfl hq
  · refine mOk.istore8 dX8_seam_143 (by decide) rfl ?_
    refine mOk.iload4 dX8_seam_145 ?_
    refine mOk.ifne (tgt := 153) dX8_seam_147 (by decide) (fun c147 => ?_) (fun c147 => absurd c147 ((by decide)))
    refine mOk.iload4 dX8_seam_153 ?_
    refine mOk.iconst (x := nI 1) dX8_seam_155 (by decide) ?_
    refine mOk.icne (tgt := 164) dX8_seam_156 (by decide) (fun c156 => absurd (rfl) c156) (fun c156 => ?_)
    refine mOk.iload8 dX8_seam_159 ?_
    refine mOk.goto (tgt := 177) dX8_seam_161 (by decide) ?_
    refine mOk.iret dX8_seam_177 rfl hq
  · refine mOk.istore8 dX8_seam_143 (by decide) rfl ?_
    refine mOk.iload4 dX8_seam_145 ?_
    refine mOk.ifne (tgt := 153) dX8_seam_147 (by decide) (fun c147 => ?_) (fun c147 => absurd c147 ((by decide)))
    refine mOk.iload4 dX8_seam_153 ?_
    refine mOk.iconst (x := nI 1) dX8_seam_155 (by decide) ?_
    refine mOk.icne (tgt := 164) dX8_seam_156 (by decide) (fun c156 => ?_) (fun c156 => absurd c156 ((by decide)))
    refine mOk.aload0n dX8_seam_164 rfl ?_
    refine mOk.getR dX8_seam_165 fl_X8_66 (by first | assumption | rfl) (by first | assumption | rfl) ?_
    refine mOk.callV0 (M' := mX5_length) dX8_seam_168 ml_X8_84 ke_X5_length (by first | assumption | rfl) (by decide) (by decide) (by simp [Value.category]) (c_length hm3 ?_)
    refine mOk.iload7 dX8_seam_171 ?_
    refine mOk.isub dX8_seam_173 ?_
    refine mOk.top (pk_sub hle) ?_
    refine mOk.iload8 dX8_seam_174 ?_
    refine mOk.isub dX8_seam_176 ?_
    refine mOk.top (pk_sub hle3) ?_
    refine mOk.iret dX8_seam_177 rfl hq
theorem C_keep_out {i : Int32} (hi : i < 0 ∨ nI 2 ≤ i) (hQ : Q (some (.int (-1))) (hS sw I J)) : mCl mX8_keep 6 0 0 [.ref 0, .int i] (hS sw I J) Q := by
  refine mCl.of (by decide) rfl (Nat.le_of_ble_eq_true rfl) ?_
  show mOk _ _ _ _ _ [some (.ref 0), some (.int i)] _ _ _ _ _
  refine mOk.aload0n dX8_keep_0 rfl ?_
  refine mOk.getR dX8_keep_1 fl_X8_36 (by first | assumption | rfl) (by first | assumption | rfl) ?_
  refine mOk.iload1n dX8_keep_4 rfl ?_
  refine mOk.aload0n dX8_keep_5 rfl ?_
  refine mOk.getR dX8_keep_6 fl_X8_29 (by first | assumption | rfl) (by first | assumption | rfl) ?_
  refine mOk.callV2 (M' := mX3_take) dX8_keep_9 ml_X8_211 ke_X3_take (by first | assumption | rfl) (by decide) (by decide) (by simp [Value.category]) (c_take_out hi ?_)
  refine mOk.ifeq (tgt := 25) dX8_keep_12 (by decide) (fun c12 => ?_) (fun c12 => absurd (rfl) c12)
  refine mOk.iconst (x := -1) dX8_keep_25 (by decide) ?_
  refine mOk.iret dX8_keep_26 rfl hQ
theorem C_keep_in {i : Nat} (h : InvC sw I bs T tx pp hs im) (hi : i < 2) (hQ : ∀ I', InvC sw I' bs T tx pp hs (va_up im i (some (tx, pp))) → Fr I I' → Q (some (.int (nI (tot tx 4)))) (hS sw I' J)) : mCl mX8_keep 6 0 0 [.ref 0, .int (nI i)] (hS sw I J) Q := by
  obtain ⟨h1, h2, ⟨T', h3⟩, h4, h5, h6, h7⟩ := id h
  have hb : ∃ ty pq, Bd I (37 + 12 * i) ty pq := by
    have := h5 i hi
    unfold Im1 at this
    cases hz : im i with
    | none =>
      rw [hz] at this
      exact this.2
    | some b =>
      rw [hz] at this
      exact ⟨_, _, this.2⟩
  obtain ⟨ty, pq, hb⟩ := hb
  have hin : ∀ a ∈ 36 :: bS (37 + 12 * i), a = 36 ∨ (39 + 12 * i ≤ a ∧ a ≤ 48 + 12 * i) := fun a ha => by
    simp [bS] at ha
    omega
  refine mCl.of (by decide) rfl (Nat.le_of_ble_eq_true rfl) ?_
  show mOk _ _ _ _ _ [some (.ref 0), some (.int (nI i))] _ _ _ _ _
  refine mOk.aload0n dX8_keep_0 rfl ?_
  refine mOk.getR dX8_keep_1 fl_X8_36 (by first | assumption | rfl) (by first | assumption | rfl) ?_
  refine mOk.iload1n dX8_keep_4 rfl ?_
  refine mOk.aload0n dX8_keep_5 rfl ?_
  refine mOk.getR dX8_keep_6 fl_X8_29 (by first | assumption | rfl) (by first | assumption | rfl) ?_
  refine mOk.callV2 (M' := mX3_take) dX8_keep_9 ml_X8_211 ke_X3_take (by first | assumption | rfl) (by decide) (by decide) (by simp [Value.category]) (c_take_in hi h4 hb ?_)
  intro I1 hb1 hk1 hk2 ho1
  have g : ∀ lo hi, hi < 36 ∨ 60 < lo → AG lo hi I I1 := fun lo hi hh => ho1.ag (fun a ha => by have := hin a ha; omega)
  have h4' := h4.ag (g 24 33 (by omega)) (by omega) (by omega)
  refine mOk.ifeq (tgt := 25) dX8_keep_12 (by decide) (fun c12 => absurd c12 ((by decide))) (fun c12 => ?_)
  refine mOk.aload0n dX8_keep_15 rfl ?_
  refine mOk.getR dX8_keep_16 fl_X8_29 (by first | assumption | rfl) (by first | assumption | rfl) ?_
  refine mOk.callV0 (M' := mX0_total) dX8_keep_19 ml_X8_215 ke_X0_total (by first | assumption | rfl) (by decide) (by decide) (by simp [Value.category]) (c_total h4' ?_)
  refine mOk.goto (tgt := 26) dX8_keep_22 (by decide) ?_
  refine mOk.iret dX8_keep_26 rfl ?_
  refine hQ I1 ⟨h1.ag (g _ _ (by omega)), h2.ag (g _ _ (by omega)), ⟨T', h3.ag (g _ _ (by omega))⟩, h4', fun j hj => ?_, h6.ag (g _ _ (by omega)), h7.ag (g _ _ (by omega))⟩ (ho1.fr (fun a ha => by have := hin a ha; omega))
  by_cases e : j = i
  · subst e
    rw [va_up_s]
    exact ⟨hk1, hb1⟩
  · rw [va_up_n e]
    have gj : AG (37 + 12 * j) (48 + 12 * j) I I1 := ho1.ag (fun a ha => by have := hin a ha; omega)
    have := h5 j hj
    unfold Im1 at this ⊢
    cases hz : im j with
    | none =>
      rw [hz] at this
      obtain ⟨z1, ty, pq, z2⟩ := this
      exact ⟨by rw [hk2 j e]; exact z1, ty, pq, z2.ag gj (by omega) (by omega)⟩
    | some b =>
      rw [hz] at this
      exact ⟨by rw [hk2 j e]; exact this.1, this.2.ag gj (by omega) (by omega)⟩
theorem C_back_out {i : Int32} (hi : i < 0 ∨ nI 2 ≤ i) (hQ : Q (some (.int (-1))) (hS sw I J)) : mCl mX8_back 5 0 0 [.ref 0, .int i] (hS sw I J) Q := by
  refine mCl.of (by decide) rfl (Nat.le_of_ble_eq_true rfl) ?_
  show mOk _ _ _ _ _ [some (.ref 0), some (.int i), none] _ _ _ _ _
  refine mOk.aload0n dX8_back_0 rfl ?_
  refine mOk.getR dX8_back_1 fl_X8_36 (by first | assumption | rfl) (by first | assumption | rfl) ?_
  refine mOk.iload1n dX8_back_4 rfl ?_
  refine mOk.callV1 (M' := mX3_image) dX8_back_5 ml_X8_218 ke_X3_image (by first | assumption | rfl) (by decide) (by decide) (by simp [Value.category]) (c_image_out hi ?_)
  refine mOk.astoreN2n dX8_back_8 rfl (by decide) rfl ?_
  refine mOk.aloadN2n dX8_back_9 rfl ?_
  refine mOk.ifnonnull_n dX8_back_10 ?_
  refine mOk.iconst (x := -1) dX8_back_13 (by decide) ?_
  refine mOk.iret dX8_back_14 rfl hQ
theorem C_back_none {i : Nat} (h : InvC sw I bs T tx pp hs im) (hi : i < 2) (hz : im i = none) (hQ : Q (some (.int (-2))) (hS sw I J)) : mCl mX8_back 5 0 0 [.ref 0, .int (nI i)] (hS sw I J) Q := by
  have h5 := h.2.2.2.2.1 i hi
  rw [hz] at h5
  refine mCl.of (by decide) rfl (Nat.le_of_ble_eq_true rfl) ?_
  show mOk _ _ _ _ _ [some (.ref 0), some (.int (nI i)), none] _ _ _ _ _
  refine mOk.aload0n dX8_back_0 rfl ?_
  refine mOk.getR dX8_back_1 fl_X8_36 (by first | assumption | rfl) (by first | assumption | rfl) ?_
  refine mOk.iload1n dX8_back_4 rfl ?_
  refine mOk.callV1 (M' := mX3_image) dX8_back_5 ml_X8_218 ke_X3_image (by first | assumption | rfl) (by decide) (by decide) (by simp [Value.category]) (c_image_in hi ?_)
  refine mOk.astore2n dX8_back_8 rfl (by decide) rfl ?_
  refine mOk.aload2n dX8_back_9 rfl ?_
  refine mOk.ifnonnull_r (tgt := 15) dX8_back_10 (by decide) ?_
  refine mOk.aload0n dX8_back_15 rfl ?_
  refine mOk.getR dX8_back_16 fl_X8_36 (by first | assumption | rfl) (by first | assumption | rfl) ?_
  refine mOk.iload1n dX8_back_19 rfl ?_
  refine mOk.callV1 (M' := mX3_isKept) dX8_back_20 ml_X8_222 ke_X3_isKept (by first | assumption | rfl) (by decide) (by decide) (by simp [Value.category]) (c_isKept (b := false) hi h5.1 ?_)
  refine mOk.ifne (tgt := 29) dX8_back_23 (by decide) (fun c23 => absurd (rfl) c23) (fun c23 => ?_)
  refine mOk.bipush (x := -2) dX8_back_26 (by decide) ?_
  refine mOk.iret dX8_back_28 rfl hQ
theorem C_back_in {i : Nat} {b : (Nat → List Int32) × List Nat} (h : InvC sw I bs T tx pp hs im) (hi : i < 2) (hz : im i = some b) (hQ : ∀ I', InvC sw I' bs T b.1 b.2 [] im → Fr I I' → Q (some (.int (nI (tot b.1 4)))) (hS sw I' J)) : mCl mX8_back 5 0 0 [.ref 0, .int (nI i)] (hS sw I J) Q := by
  obtain ⟨h1, h2, ⟨T', h3⟩, h4, h5, h6, h7⟩ := id h
  have h5' := h5 i hi
  rw [hz] at h5'
  refine mCl.of (by decide) rfl (Nat.le_of_ble_eq_true rfl) ?_
  show mOk _ _ _ _ _ [some (.ref 0), some (.int (nI i)), none] _ _ _ _ _
  refine mOk.aload0n dX8_back_0 rfl ?_
  refine mOk.getR dX8_back_1 fl_X8_36 (by first | assumption | rfl) (by first | assumption | rfl) ?_
  refine mOk.iload1n dX8_back_4 rfl ?_
  refine mOk.callV1 (M' := mX3_image) dX8_back_5 ml_X8_218 ke_X3_image (by first | assumption | rfl) (by decide) (by decide) (by simp [Value.category]) (c_image_in hi ?_)
  refine mOk.astore2n dX8_back_8 rfl (by decide) rfl ?_
  refine mOk.aload2n dX8_back_9 rfl ?_
  refine mOk.ifnonnull_r (tgt := 15) dX8_back_10 (by decide) ?_
  refine mOk.aload0n dX8_back_15 rfl ?_
  refine mOk.getR dX8_back_16 fl_X8_36 (by first | assumption | rfl) (by first | assumption | rfl) ?_
  refine mOk.iload1n dX8_back_19 rfl ?_
  refine mOk.callV1 (M' := mX3_isKept) dX8_back_20 ml_X8_222 ke_X3_isKept (by first | assumption | rfl) (by decide) (by decide) (by simp [Value.category]) (c_isKept (b := true) hi h5'.1 ?_)
  refine mOk.ifne (tgt := 29) dX8_back_23 (by decide) (fun c23 => ?_) (fun c23 => absurd c23 ((by decide)))
  refine mOk.aload0n dX8_back_29 rfl ?_
  refine mOk.getR dX8_back_30 fl_X8_29 (by first | assumption | rfl) (by first | assumption | rfl) ?_
  refine mOk.aload2n dX8_back_33 rfl ?_
  refine mOk.callV1 (M' := mX0_become) dX8_back_34 ml_X8_225 ke_X0_become (by first | assumption | rfl) (by decide) (by decide) (by simp [Value.category]) (c_bbecome h4 h5'.2 (by omega) ?_)
  intro I1 hb1 ho1
  refine mOk.aload0n dX8_back_37 rfl ?_
  refine mOk.getR dX8_back_38 fl_X8_43 (by first | assumption | rfl) (by first | assumption | rfl) ?_
  refine mOk.callV0 (M' := mX2_forget) dX8_back_41 ml_X8_99 ke_X2_forget (by first | assumption | rfl) (by decide) (by decide) (by simp [Value.category]) (c_forget (h6.ag (ho1.ag (by decide))) ?_)
  intro I2 hH2 ho2
  have hb2 := hb1.off ho2 (by decide)
  refine mOk.aload0n dX8_back_44 rfl ?_
  refine mOk.getR dX8_back_45 fl_X8_29 (by first | assumption | rfl) (by first | assumption | rfl) ?_
  refine mOk.callV0 (M' := mX0_total) dX8_back_48 ml_X8_215 ke_X0_total (by first | assumption | rfl) (by decide) (by decide) (by simp [Value.category]) (c_total hb2 ?_)
  refine mOk.iret dX8_back_51 rfl ?_
  exact hQ I2 ⟨(h1.ag (ho1.ag (by decide))).ag (ho2.ag (by decide)), (h2.ag (ho1.ag (by decide))).ag (ho2.ag (by decide)), ⟨T', (h3.ag (ho1.ag (by decide))).ag (ho2.ag (by decide))⟩, hb2, (h5.ag (ho1.ag (by decide))).ag (ho2.ag (by decide)), hH2, (h7.ag (ho1.ag (by decide))).ag (ho2.ag (by decide))⟩ ((ho1.fr (by decide)).tr (ho2.fr (by decide)))
theorem C_count_out {w : Int32} (hw : w < 0 ∨ nI 8 ≤ w) (hQ : Q (some (.int (-1))) (hS sw I J)) : mCl mX8_count 4 0 0 [.ref 0, .int w] (hS sw I J) Q := by
  refine mCl.of (by decide) rfl (Nat.le_of_ble_eq_true rfl) ?_
  show mOk _ _ _ _ _ [some (.ref 0), some (.int w)] _ _ _ _ _
  refine mOk.iload1n dX8_count_0 rfl ?_
  refine mOk.tableOut (tgt := 121) dX8_count_1 (i32_out (n := 7) (by omega) hw) (by decide) ?_
  refine mOk.iconst (x := -1) dX8_count_121 (by decide) ?_
  refine mOk.iret dX8_count_122 rfl hQ
def cnt8 (bs : List Nat) (T : List CR) (pp : List Nat) (hs : List (Nat × List Int32)) (w : Nat) : Nat := match w with
  | 0 => T.length
  | 1 => cntM T
  | 2 => cntK T 1
  | 3 => cntK T 2
  | 4 => cntK T 3
  | 5 => pp.length
  | 6 => hs.length
  | _ => bs.length
theorem C_count_in {w : Nat} (h : InvC sw I bs T tx pp hs im) (hw : w < 8) (hQ : Q (some (.int (nI (cnt8 bs T pp hs w)))) (hS sw I J)) : mCl mX8_count 4 0 0 [.ref 0, .int (nI w)] (hS sw I J) Q := by
  obtain ⟨h1, h2, ⟨T', h3⟩, h4, h5, h6, h7⟩ := id h
  obtain ⟨k0, -⟩ := cdK (cA_r sw)
  refine mCl.of (by decide) rfl (Nat.le_of_ble_eq_true rfl) ?_
  show mOk _ _ _ _ _ [some (.ref 0), some (.int (nI w))] _ _ _ _ _
  rcases (show w = 0 ∨ w = 1 ∨ w = 2 ∨ w = 3 ∨ w = 4 ∨ w = 5 ∨ w = 6 ∨ w = 7 by omega) with rfl | rfl | rfl | rfl | rfl | rfl | rfl | rfl
  · refine mOk.iload1n dX8_count_0 rfl ?_
    refine mOk.tableIn (off := 47) (tgt := 48) dX8_count_1 (by decide) (by decide) (by decide) (by decide) ?_
    refine mOk.aload0n dX8_count_48 rfl ?_
    refine mOk.getR dX8_count_49 fl_X8_19 (by first | assumption | rfl) (by first | assumption | rfl) ?_
    refine mOk.callV0 (M' := mX1_size) dX8_count_52 ml_X8_102 ke_X1_size (by first | assumption | rfl) (by decide) (by decide) (by simp [Value.category]) (c_size h2 ?_)
    refine mOk.iret dX8_count_55 rfl hQ
  · refine mOk.iload1n dX8_count_0 rfl ?_
    refine mOk.tableIn (off := 55) (tgt := 56) dX8_count_1 (by decide) (by decide) (by decide) (by decide) ?_
    refine mOk.aload0n dX8_count_56 rfl ?_
    refine mOk.getR dX8_count_57 fl_X8_19 (by first | assumption | rfl) (by first | assumption | rfl) ?_
    refine mOk.callV0 (M' := mX1_countMarks) dX8_count_60 ml_X8_228 ke_X1_countMarks (by first | assumption | rfl) (by decide) (by decide) (by simp [Value.category]) (c_countMarks h2 ?_)
    refine mOk.iret dX8_count_63 rfl hQ
  · refine mOk.iload1n dX8_count_0 rfl ?_
    refine mOk.tableIn (off := 63) (tgt := 64) dX8_count_1 (by decide) (by decide) (by decide) (by decide) ?_
    refine mOk.aload0n dX8_count_64 rfl ?_
    refine mOk.getR dX8_count_65 fl_X8_19 (by first | assumption | rfl) (by first | assumption | rfl) ?_
    refine mOk.iconst (x := 1) dX8_count_68 (by decide) ?_
    refine mOk.callV1 (M' := mX1_countKind) dX8_count_69 ml_X8_231 ke_X1_countKind (by first | assumption | rfl) (by decide) (by decide) (by simp [Value.category]) (c_countKind h2 ?_)
    refine mOk.iret dX8_count_72 rfl hQ
  · refine mOk.iload1n dX8_count_0 rfl ?_
    refine mOk.tableIn (off := 72) (tgt := 73) dX8_count_1 (by decide) (by decide) (by decide) (by decide) ?_
    refine mOk.aload0n dX8_count_73 rfl ?_
    refine mOk.getR dX8_count_74 fl_X8_19 (by first | assumption | rfl) (by first | assumption | rfl) ?_
    refine mOk.iconst (x := 2) dX8_count_77 (by decide) ?_
    refine mOk.callV1 (M' := mX1_countKind) dX8_count_78 ml_X8_231 ke_X1_countKind (by first | assumption | rfl) (by decide) (by decide) (by simp [Value.category]) (c_countKind h2 ?_)
    refine mOk.iret dX8_count_81 rfl hQ
  · refine mOk.iload1n dX8_count_0 rfl ?_
    refine mOk.tableIn (off := 81) (tgt := 82) dX8_count_1 (by decide) (by decide) (by decide) (by decide) ?_
    refine mOk.aload0n dX8_count_82 rfl ?_
    refine mOk.getR dX8_count_83 fl_X8_19 (by first | assumption | rfl) (by first | assumption | rfl) ?_
    refine mOk.iconst (x := 3) dX8_count_86 (by decide) ?_
    refine mOk.callV1 (M' := mX1_countKind) dX8_count_87 ml_X8_231 ke_X1_countKind (by first | assumption | rfl) (by decide) (by decide) (by simp [Value.category]) (c_countKind h2 ?_)
    refine mOk.iret dX8_count_90 rfl hQ
  · refine mOk.iload1n dX8_count_0 rfl ?_
    refine mOk.tableIn (off := 90) (tgt := 91) dX8_count_1 (by decide) (by decide) (by decide) (by decide) ?_
    refine mOk.aload0n dX8_count_91 rfl ?_
    refine mOk.getR dX8_count_92 fl_X8_29 (by first | assumption | rfl) (by first | assumption | rfl) ?_
    refine mOk.callV0 (M' := mX0_pipe) dX8_count_95 ml_X8_204 ke_X0_pipe (by first | assumption | rfl) (by decide) (by decide) (by simp [Value.category]) (c_pipe b22 ?_)
    refine mOk.callV0 (M' := mX5_length) dX8_count_98 ml_X8_84 ke_X5_length (by first | assumption | rfl) (by decide) (by decide) (by simp [Value.category]) (c_length h4.2.2 ?_)
    rw [List.length_map]
    refine mOk.iret dX8_count_101 rfl hQ
  · refine mOk.iload1n dX8_count_0 rfl ?_
    refine mOk.tableIn (off := 101) (tgt := 102) dX8_count_1 (by decide) (by decide) (by decide) (by decide) ?_
    refine mOk.aload0n dX8_count_102 rfl ?_
    refine mOk.getR dX8_count_103 fl_X8_43 (by first | assumption | rfl) (by first | assumption | rfl) ?_
    refine mOk.callV0 (M' := mX2_known) dX8_count_106 ml_X8_165 ke_X2_known (by first | assumption | rfl) (by decide) (by decide) (by simp [Value.category]) (c_known h6 ?_)
    refine mOk.iret dX8_count_109 rfl hQ
  · refine mOk.iload1n dX8_count_0 rfl ?_
    refine mOk.tableIn (off := 109) (tgt := 110) dX8_count_1 (by decide) (by decide) (by decide) (by decide) ?_
    refine mOk.aload0n dX8_count_110 rfl ?_
    refine mOk.getR dX8_count_111 fl_X8_12 (by first | assumption | rfl) (by first | assumption | rfl) ?_
    refine mOk.callV0 (M' := mX4_typed) dX8_count_114 ml_X8_76 ke_X4_typed (by first | assumption | rfl) (by decide) (by decide) (by simp [Value.category]) (c_typed ?_)
    refine mOk.callV0 (M' := mX5_length) dX8_count_117 ml_X8_84 ke_X5_length (by first | assumption | rfl) (by decide) (by decide) (by simp [Value.category]) (c_blen h1 ?_)
    refine mOk.iret dX8_count_120 rfl hQ
end ORDER3
