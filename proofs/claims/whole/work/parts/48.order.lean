/-! ===== MarkOrder: tables and texts ===== -/
section ORDER
variable {sw : Bool} {I : Nat → Nat → Int32} {J : Nat → Nat → Int64} {Q : Option Value → mi_H → Prop} {bs : List Nat} {T : List CR} {tx : Nat → List Int32} {pp : List Nat} {hs : List (Nat × List Int32)} {im : ImT}
theorem C_type_out {c : Int32} (hc : c < 0 ∨ nI 256 ≤ c) (hQ : Q (some (.int (-1))) (hS sw I J)) : mCl mX8_type 1 0 0 [.ref 0, .int c] (hS sw I J) Q := by
  refine mCl.of (by decide) rfl (Nat.le_of_ble_eq_true rfl) ?_
  show mOk _ _ _ _ _ [some (.ref 0), some (.int c), none] _ _ _ _ _
  by_cases z : c < 0
  · refine mOk.iload1n dX8_type_0 rfl ?_
    refine mOk.iflt (tgt := 11) dX8_type_1 (by decide) (fun c1 => ?_) (fun c1 => absurd (z) c1)
    refine mOk.iconst (x := -1) dX8_type_11 (by decide) ?_
    refine mOk.iret dX8_type_12 rfl hQ
  · refine mOk.iload1n dX8_type_0 rfl ?_
    refine mOk.iflt (tgt := 11) dX8_type_1 (by decide) (fun c1 => absurd c1 (z)) (fun c1 => ?_)
    refine mOk.iload1n dX8_type_4 rfl ?_
    refine mOk.sipush (x := nI 255) dX8_type_5 (by decide) ?_
    refine mOk.icle (tgt := 13) dX8_type_8 (by decide) (fun c8 => absurd c8 (i32_gt (by omega) (hc.resolve_left z))) (fun c8 => ?_)
    refine mOk.iconst (x := -1) dX8_type_11 (by decide) ?_
    refine mOk.iret dX8_type_12 rfl hQ
theorem C_type_full {k : Nat} (hk : k < 256) (h : Ty I bs) (hl : bs.length = 150) (hQ : Q (some (.int (-3))) (hS sw I J)) : mCl mX8_type 1 0 0 [.ref 0, .int (nI k)] (hS sw I J) Q := by
  refine mCl.of (by decide) rfl (Nat.le_of_ble_eq_true rfl) ?_
  show mOk _ _ _ _ _ [some (.ref 0), some (.int (nI k)), none] _ _ _ _ _
  refine mOk.iload1n dX8_type_0 rfl ?_
  refine mOk.iflt (tgt := 11) dX8_type_1 (by decide) (fun c1 => absurd c1 (nI_neg' (by omega))) (fun c1 => ?_)
  refine mOk.iload1n dX8_type_4 rfl ?_
  refine mOk.sipush (x := nI 255) dX8_type_5 (by decide) ?_
  refine mOk.icle (tgt := 13) dX8_type_8 (by decide) (fun c8 => ?_) (fun c8 => absurd ((nI_le' (by omega) (by omega)).mpr (by omega)) c8)
  refine mOk.aload0n dX8_type_13 rfl ?_
  refine mOk.getR dX8_type_14 fl_X8_12 (by first | assumption | rfl) (by first | assumption | rfl) ?_
  refine mOk.callV0 (M' := mX4_typed) dX8_type_17 ml_X8_76 ke_X4_typed (by first | assumption | rfl) (by decide) (by decide) (by simp [Value.category]) (c_typed ?_)
  refine mOk.astore2n dX8_type_20 rfl (by decide) rfl ?_
  refine mOk.aload2n dX8_type_21 rfl ?_
  refine mOk.iload1n dX8_type_22 rfl ?_
  refine mOk.callV1 (M' := mX5_push) dX8_type_23 ml_X8_80 ke_X5_push (by first | assumption | rfl) (by decide) (by decide) (by simp [Value.category]) (c_push_full h.1 (by rw [List.length_map]; exact hl) ?_)
  refine mOk.ifeq (tgt := 36) dX8_type_26 (by decide) (fun c26 => ?_) (fun c26 => absurd (rfl) c26)
  refine mOk.bipush (x := -3) dX8_type_36 (by decide) ?_
  refine mOk.iret dX8_type_38 rfl hQ
theorem C_type_in {k : Nat} (hk : k < 256) (h : InvC sw I bs T tx pp hs im) (hl : bs.length < 150) (hQ : ∀ I', InvC sw I' (bs ++ [k]) T tx pp hs im → Fr I I' → Q (some (.int (nI (bs.length + 1)))) (hS sw I' J)) : mCl mX8_type 1 0 0 [.ref 0, .int (nI k)] (hS sw I J) Q := by
  obtain ⟨h1, h2, ⟨T', h3⟩, h4, h5, h6, h7⟩ := h
  refine mCl.of (by decide) rfl (Nat.le_of_ble_eq_true rfl) ?_
  show mOk _ _ _ _ _ [some (.ref 0), some (.int (nI k)), none] _ _ _ _ _
  refine mOk.iload1n dX8_type_0 rfl ?_
  refine mOk.iflt (tgt := 11) dX8_type_1 (by decide) (fun c1 => absurd c1 (nI_neg' (by omega))) (fun c1 => ?_)
  refine mOk.iload1n dX8_type_4 rfl ?_
  refine mOk.sipush (x := nI 255) dX8_type_5 (by decide) ?_
  refine mOk.icle (tgt := 13) dX8_type_8 (by decide) (fun c8 => ?_) (fun c8 => absurd ((nI_le' (by omega) (by omega)).mpr (by omega)) c8)
  refine mOk.aload0n dX8_type_13 rfl ?_
  refine mOk.getR dX8_type_14 fl_X8_12 (by first | assumption | rfl) (by first | assumption | rfl) ?_
  refine mOk.callV0 (M' := mX4_typed) dX8_type_17 ml_X8_76 ke_X4_typed (by first | assumption | rfl) (by decide) (by decide) (by simp [Value.category]) (c_typed ?_)
  refine mOk.astore2n dX8_type_20 rfl (by decide) rfl ?_
  refine mOk.aload2n dX8_type_21 rfl ?_
  refine mOk.iload1n dX8_type_22 rfl ?_
  refine mOk.callV1 (M' := mX5_push) dX8_type_23 ml_X8_80 ke_X5_push (by first | assumption | rfl) (by decide) (by decide) (by simp [Value.category]) (c_push h1.1 (by rw [List.length_map]; exact hl) ?_)
  intro I1 ht ho
  have e : bs.map nI ++ [nI k] = (bs ++ [k]).map nI := by simp
  rw [e] at ht
  refine mOk.ifeq (tgt := 36) dX8_type_26 (by decide) (fun c26 => absurd c26 ((by decide))) (fun c26 => ?_)
  refine mOk.aload2n dX8_type_29 rfl ?_
  refine mOk.callV0 (M' := mX5_length) dX8_type_30 ml_X8_84 ke_X5_length (by first | assumption | rfl) (by decide) (by decide) (by simp [Value.category]) (c_length ht ?_)
  refine mOk.goto (tgt := 38) dX8_type_33 (by decide) ?_
  refine mOk.iret dX8_type_38 rfl ?_
  rw [List.length_map, List.length_append]
  refine hQ I1 ⟨⟨ht, fun b hb => ?_⟩, h2.ag (ho.ag (by decide)), ⟨T', h3.ag (ho.ag (by decide))⟩, h4.ag (lo := 24) (hi := 33) (ho.ag (by decide)) (by omega) (by omega), h5.ag (ho.ag (by decide)), h6.ag (ho.ag (by decide)), h7.ag (ho.ag (by decide))⟩ (ho.fr (by decide))
  rw [List.mem_append, List.mem_singleton] at hb
  rcases hb with hb | rfl
  · exact h1.2 b hb
  · exact hk
theorem C_clear (h : InvC sw I bs T tx pp hs im) (hQ : ∀ I', InvC sw I' [] T tx pp hs im → Fr I I' → Q (some (.int (nI bs.length))) (hS sw I' J)) : mCl mX8_clear 1 0 0 [.ref 0] (hS sw I J) Q := by
  obtain ⟨h1, h2, ⟨T', h3⟩, h4, h5, h6, h7⟩ := h
  refine mCl.of (by decide) rfl (Nat.le_of_ble_eq_true rfl) ?_
  show mOk _ _ _ _ _ [some (.ref 0), none, none] _ _ _ _ _
  refine mOk.aload0n dX8_clear_0 rfl ?_
  refine mOk.getR dX8_clear_1 fl_X8_12 (by first | assumption | rfl) (by first | assumption | rfl) ?_
  refine mOk.callV0 (M' := mX4_typed) dX8_clear_4 ml_X8_76 ke_X4_typed (by first | assumption | rfl) (by decide) (by decide) (by simp [Value.category]) (c_typed ?_)
  refine mOk.astore1n dX8_clear_7 rfl (by decide) rfl ?_
  refine mOk.aload1n dX8_clear_8 rfl ?_
  refine mOk.callV0 (M' := mX5_length) dX8_clear_9 ml_X8_84 ke_X5_length (by first | assumption | rfl) (by decide) (by decide) (by simp [Value.category]) (c_blen h1 ?_)
  refine mOk.istore2n dX8_clear_12 rfl (by decide) rfl ?_
  refine mOk.aload1n dX8_clear_13 rfl ?_
  refine mOk.callV0 (M' := mX5_empty) dX8_clear_14 ml_X8_88 ke_X5_empty (by first | assumption | rfl) (by decide) (by decide) (by simp [Value.category]) (c_rempty h1.1 ?_)
  intro I1 ht ho
  refine mOk.iload2n dX8_clear_17 rfl ?_
  refine mOk.iret dX8_clear_18 rfl ?_
  exact hQ I1 ⟨⟨ht, fun b hb => by simp at hb⟩, h2.ag (ho.ag (by decide)), ⟨T', h3.ag (ho.ag (by decide))⟩, h4.ag (lo := 24) (hi := 33) (ho.ag (by decide)) (by omega) (by omega), h5.ag (ho.ag (by decide)), h6.ag (ho.ag (by decide)), h7.ag (ho.ag (by decide))⟩ (ho.fr (by decide))
theorem cA_nn (sw : Bool) : cA (!!sw) = cA sw := by rw [Bool.not_not]
theorem PQ_swap (sw : Bool) : (mi_wR (mi_wR (hS sw I J) 0 1 (cA !sw)) 0 2 (cA sw)) = hS (!sw) I J := by
  show (KK, _, I, J) = (KK, PQ (!sw), I, J)
  congr 2
  funext a i
  by_cases ha : a = 0
  · subst ha
    by_cases hi : i = 2
    · subst hi
      simp [mi_wR, va_up, PQ]
    · by_cases hi1 : i = 1
      · subst hi1
        simp [mi_wR, va_up, PQ]
      · simp [mi_wR, va_up, hi, hi1]
        unfold PQ
        split <;> simp_all
  · simp [mi_wR, va_up, ha]
    unfold PQ
    split <;> simp_all
theorem C_tables (h : InvC sw I bs T tx pp hs im)
    (hQ1 : ∀ T', pall bs 25 [] 0 = .inr T' → ∀ I', InvC (!sw) I' [] T' (fun _ => []) [] [] (fun _ => none) → TOk T' → Fr I I' → Q (some (.int (nI T'.length))) (hS (!sw) I' J))
    (hQ0 : ∀ f, pall bs 25 [] 0 = .inl f → f ≤ bs.length → ∀ I', InvC sw I' bs T tx pp hs im → Fr I I' → Q (some (.int (Int32.ofInt (-10) - nI f))) (hS sw I' J)) : mCl mX8_tables 7 0 0 [.ref 0] (hS sw I J) Q := by
  obtain ⟨h1, h2, ⟨T0, h3⟩, h4, h5, h6, h7⟩ := h
  obtain ⟨k0, -⟩ := cdK (cA_r sw)
  obtain ⟨k1, -⟩ := cdK (cA_r !sw)
  have hdj : ∀ a ∈ cS (cA sw), a ∉ (1 :: cS (cA !sw)) := by cases sw <;> decide
  have hr1 : ∀ a ∈ (1 :: cS (cA !sw)), a = 1 ∨ (4 ≤ a ∧ a ≤ 21) := fun a ha => by
    rcases List.mem_cons.mp ha with z | z
    · exact Or.inl z
    · exact Or.inr (cS_r z)
  refine mCl.of (by decide) rfl (Nat.le_of_ble_eq_true rfl) ?_
  show mOk _ _ _ _ _ [some (.ref 0), none, none] _ _ _ _ _
  refine mOk.aload0n dX8_tables_0 rfl ?_
  refine mOk.getR dX8_tables_1 fl_X8_12 (by first | assumption | rfl) (by first | assumption | rfl) ?_
  refine mOk.aload0n dX8_tables_4 rfl ?_
  refine mOk.getR dX8_tables_5 fl_X8_23 (by first | assumption | rfl) (by first | assumption | rfl) ?_
  refine mOk.callV1 (M' := mX4_readInto) dX8_tables_8 ml_X8_91 ke_X4_readInto (by first | assumption | rfl) (by decide) (by decide) (by simp [Value.category]) (c_readInto h3 h1 (fun T1 hp I1 hc1 hT1 ht1 ho1 => ?_) (fun f hf I1 T1 hc1 ht1 ho1 hfb => ?_))
  · have g : ∀ lo hi, 21 < lo → AG lo hi I I1 := fun lo hi hh => ho1.ag (fun a ha => by have := hr1 a ha; omega)
    refine mOk.istore1n dX8_tables_11 rfl (by decide) rfl ?_
    refine mOk.iload1n dX8_tables_12 rfl ?_
    refine mOk.iconst (x := -1) dX8_tables_13 (by decide) ?_
    refine mOk.iceq (tgt := 22) dX8_tables_14 (by decide) (fun c14 => ?_) (fun c14 => absurd (rfl) c14)
    refine mOk.aload0n dX8_tables_22 rfl ?_
    refine mOk.getR dX8_tables_23 fl_X8_19 (by first | assumption | rfl) (by first | assumption | rfl) ?_
    refine mOk.astore2n dX8_tables_26 rfl (by decide) rfl ?_
    refine mOk.aload0n dX8_tables_27 rfl ?_
    refine mOk.aload0n dX8_tables_28 rfl ?_
    refine mOk.getR dX8_tables_29 fl_X8_23 (by first | assumption | rfl) (by first | assumption | rfl) ?_
    refine mOk.putR dX8_tables_32 fl_X8_19 (by intro z; cases z) (by first | assumption | rfl) ?_
    refine mOk.aload0n dX8_tables_35 rfl ?_
    refine mOk.aload2n dX8_tables_36 rfl ?_
    refine mOk.putR dX8_tables_37 fl_X8_23 (by intro z; cases z) (by first | assumption | rfl) ?_
    have eS : mi_wR (mi_wR (KK, PQ sw, I1, J) 0 1 (cA !sw)) 0 2 (cA sw) = hS (!sw) I1 J := PQ_swap sw
    rw [eS]
    refine mOk.aload0n dX8_tables_40 rfl ?_
    refine mOk.getR dX8_tables_41 fl_X8_12 (by first | assumption | rfl) (by first | assumption | rfl) ?_
    refine mOk.callV0 (M' := mX4_typed) dX8_tables_44 ml_X8_76 ke_X4_typed (by first | assumption | rfl) (by decide) (by decide) (by simp [Value.category]) (c_typed ?_)
    refine mOk.callV0 (M' := mX5_empty) dX8_tables_47 ml_X8_88 ke_X5_empty (by first | assumption | rfl) (by decide) (by decide) (by simp [Value.category]) (c_rempty ht1.1 ?_)
    intro I2 ht2 ho2
    have hB2 := (h4.ag (g 24 33 (by omega)) (by omega) (by omega)).ag (lo := 24) (hi := 33) (ho2.ag (by decide)) (by omega) (by omega)
    refine mOk.aload0n dX8_tables_50 rfl ?_
    refine mOk.getR dX8_tables_51 fl_X8_29 (by first | assumption | rfl) (by first | assumption | rfl) ?_
    refine mOk.callV0 (M' := mX0_empty) dX8_tables_54 ml_X8_95 ke_X0_empty (by first | assumption | rfl) (by decide) (by decide) (by simp [Value.category]) (c_bempty hB2 ?_)
    intro I3 hB3 ho3
    refine mOk.aload0n dX8_tables_57 rfl ?_
    refine mOk.getR dX8_tables_58 fl_X8_36 (by first | assumption | rfl) (by first | assumption | rfl) ?_
    refine mOk.callV0 (M' := mX3_drop) dX8_tables_61 ml_X8_96 ke_X3_drop (by first | assumption | rfl) (by decide) (by decide) (by simp [Value.category]) (c_drop ?_)
    intro I4 h40 h41 ho4
    have hH4 := (((h6.ag (g 61 83 (by omega))).ag (ho2.ag (by decide))).ag (ho3.ag (by decide))).ag (ho4.ag (by decide))
    refine mOk.aload0n dX8_tables_64 rfl ?_
    refine mOk.getR dX8_tables_65 fl_X8_43 (by first | assumption | rfl) (by first | assumption | rfl) ?_
    refine mOk.callV0 (M' := mX2_forget) dX8_tables_68 ml_X8_99 ke_X2_forget (by first | assumption | rfl) (by decide) (by decide) (by simp [Value.category]) (c_forget hH4 ?_)
    intro I5 hH5 ho5
    have hC5 := (((hc1.ag (ho2.ag (by decide))).ag (ho3.ag (by decide))).ag (ho4.ag (by decide))).ag (ho5.ag (by decide))
    refine mOk.aload0n dX8_tables_71 rfl ?_
    refine mOk.getR dX8_tables_72 fl_X8_19 (by first | assumption | rfl) (by first | assumption | rfl) ?_
    refine mOk.callV0 (M' := mX1_size) dX8_tables_75 ml_X8_102 ke_X1_size (by first | assumption | rfl) (by decide) (by decide) (by simp [Value.category]) (c_size hC5 ?_)
    refine mOk.iret dX8_tables_78 rfl ?_
    refine hQ1 T1 hp I5 ⟨⟨((ht2.off ho3 (by decide) (by decide)).off ho4 (by decide) (by decide)).off ho5 (by decide) (by decide), fun b hb => by simp at hb⟩, hC5, ⟨T, ?_⟩, ((hB3.off ho4 (by decide)).off ho5 (by decide)), ?_, hH5, ?_⟩ hT1 ?_
    · rw [cA_nn]
      exact ((((h2.off ho1 hdj).ag (ho2.ag (by decide))).ag (ho3.ag (by decide))).ag (ho4.ag (by decide))).ag (ho5.ag (by decide))
    · intro i hi
      have hk5 : I5 36 i = 0 := by
        rw [ho5 36 (by decide)]
        rcases (show i = 0 ∨ i = 1 by omega) with rfl | rfl
        · exact h40
        · exact h41
      have hb : ∀ ty pq, Bd I (37 + 12 * i) ty pq → Bd I5 (37 + 12 * i) ty pq := fun ty pq z => by
        have z1 := z.ag (g 37 60 (by omega)) (by omega) (by omega)
        have z2 := z1.ag (lo := 37) (hi := 60) (ho2.ag (by decide)) (by omega) (by omega)
        have z3 := z2.ag (lo := 37) (hi := 60) (ho3.ag (by decide)) (by omega) (by omega)
        have z4 := z3.ag (lo := 37) (hi := 60) (ho4.ag (by decide)) (by omega) (by omega)
        exact z4.ag (lo := 37) (hi := 60) (ho5.ag (by decide)) (by omega) (by omega)
      have := h5 i hi
      unfold Im1 at this
      cases hz : im i with
      | none =>
        rw [hz] at this
        obtain ⟨-, ty, pq, z⟩ := this
        exact ⟨hk5, ty, pq, hb _ _ z⟩
      | some b =>
        rw [hz] at this
        exact ⟨hk5, _, _, hb _ _ this.2⟩
    · exact ((((h7.ag (g _ _ (by omega))).ag (ho2.ag (by decide))).ag (ho3.ag (by decide))).ag (ho4.ag (by decide))).ag (ho5.ag (by decide))
    · exact (((((ho1.fr (fun a ha => by have := hr1 a ha; omega)).tr (ho2.fr (by decide))).tr (ho3.fr (by decide))).tr (ho4.fr (by decide))).tr (ho5.fr (by decide)))
  · have g : ∀ lo hi, 21 < lo → AG lo hi I I1 := fun lo hi hh => ho1.ag (fun a ha => by have := hr1 a ha; omega)
    have hl := h1.len
    refine mOk.istore1n dX8_tables_11 rfl (by decide) rfl ?_
    refine mOk.iload1n dX8_tables_12 rfl ?_
    refine mOk.iconst (x := -1) dX8_tables_13 (by decide) ?_
    refine mOk.iceq (tgt := 22) dX8_tables_14 (by decide) (fun c14 => absurd c14 (fun z => nI_neg' (show f < 100000 by omega) (by rw [z]; decide))) (fun c14 => ?_)
    refine mOk.bipush (x := -10) dX8_tables_17 (by decide) ?_
    refine mOk.iload1n dX8_tables_19 rfl ?_
    refine mOk.isub dX8_tables_20 ?_
    refine mOk.iret dX8_tables_21 rfl ?_
    refine hQ0 f hf hfb I1 ⟨ht1, h2.off ho1 hdj, ⟨T1, hc1⟩, h4.ag (g 24 33 (by omega)) (by omega) (by omega), h5.ag (g _ _ (by omega)), h6.ag (g _ _ (by omega)), h7.ag (g _ _ (by omega))⟩ (ho1.fr (fun a ha => by have := hr1 a ha; omega))
theorem C_code_out {c w : Int32} (h : Cd I (cA sw) T) (hc : c < 0 ∨ nI T.length ≤ c) (hQ : Q (some (.int (-1))) (hS sw I J)) : mCl mX8_code 2 0 0 [.ref 0, .int c, .int w] (hS sw I J) Q := by
  obtain ⟨k0, -⟩ := cdK (cA_r sw)
  refine mCl.of (by decide) rfl (Nat.le_of_ble_eq_true rfl) ?_
  show mOk _ _ _ _ _ [some (.ref 0), some (.int c), some (.int w)] _ _ _ _ _
  refine mOk.aload0n dX8_code_0 rfl ?_
  refine mOk.getR dX8_code_1 fl_X8_19 (by first | assumption | rfl) (by first | assumption | rfl) ?_
  refine mOk.iload1n dX8_code_4 rfl ?_
  refine mOk.callV1 (M' := mX1_holds) dX8_code_5 ml_X8_105 ke_X1_holds (by first | assumption | rfl) (by decide) (by decide) (by simp [Value.category]) (c_holds_out h hc ?_)
  refine mOk.ifne (tgt := 13) dX8_code_8 (by decide) (fun c8 => absurd (rfl) c8) (fun c8 => ?_)
  refine mOk.iconst (x := -1) dX8_code_11 (by decide) ?_
  refine mOk.iret dX8_code_12 rfl hQ
theorem C_code_wout {j : Nat} {w : Int32} (h : Cd I (cA sw) T) (hj : j < T.length) (hw : w < 0 ∨ nI 9 ≤ w) (hQ : Q (some (.int (-1))) (hS sw I J)) : mCl mX8_code 2 0 0 [.ref 0, .int (nI j), .int w] (hS sw I J) Q := by
  obtain ⟨k0, -⟩ := cdK (cA_r sw)
  refine mCl.of (by decide) rfl (Nat.le_of_ble_eq_true rfl) ?_
  show mOk _ _ _ _ _ [some (.ref 0), some (.int (nI j)), some (.int w)] _ _ _ _ _
  refine mOk.aload0n dX8_code_0 rfl ?_
  refine mOk.getR dX8_code_1 fl_X8_19 (by first | assumption | rfl) (by first | assumption | rfl) ?_
  refine mOk.iload1n dX8_code_4 rfl ?_
  refine mOk.callV1 (M' := mX1_holds) dX8_code_5 ml_X8_105 ke_X1_holds (by first | assumption | rfl) (by decide) (by decide) (by simp [Value.category]) (c_holds_in h hj ?_)
  refine mOk.ifne (tgt := 13) dX8_code_8 (by decide) (fun c8 => ?_) (fun c8 => absurd c8 ((by decide)))
  refine mOk.iload2n dX8_code_13 rfl ?_
  refine mOk.tableOut (tgt := 121) dX8_code_14 (i32_out (n := 8) (by omega) hw) (by decide) ?_
  refine mOk.iconst (x := -1) dX8_code_121 (by decide) ?_
  refine mOk.iret dX8_code_122 rfl hQ
/-- what code answers of a code c -/
def codA (T : List CR) (c : Int32) (w : Nat) : Int32 := match w with
  | 0 => tC T c
  | 1 => tK T c
  | 2 => tF T c
  | 3 => tS T c
  | 4 => nI (tP T c).length
  | w + 5 => (tP T c).getD w (-9)
theorem C_code_in {j w : Nat} (h : Cd I (cA sw) T) (hj : j < T.length) (hw : w < 9) (hQ : Q (some (.int (codA T (nI j) w))) (hS sw I J)) : mCl mX8_code 2 0 0 [.ref 0, .int (nI j), .int (nI w)] (hS sw I J) Q := by
  obtain ⟨k0, -⟩ := cdK (cA_r sw)
  refine mCl.of (by decide) rfl (Nat.le_of_ble_eq_true rfl) ?_
  show mOk _ _ _ _ _ [some (.ref 0), some (.int (nI j)), some (.int (nI w))] _ _ _ _ _
  refine mOk.aload0n dX8_code_0 rfl ?_
  refine mOk.getR dX8_code_1 fl_X8_19 (by first | assumption | rfl) (by first | assumption | rfl) ?_
  refine mOk.iload1n dX8_code_4 rfl ?_
  refine mOk.callV1 (M' := mX1_holds) dX8_code_5 ml_X8_105 ke_X1_holds (by first | assumption | rfl) (by decide) (by decide) (by simp [Value.category]) (c_holds_in h hj ?_)
  refine mOk.ifne (tgt := 13) dX8_code_8 (by decide) (fun c8 => ?_) (fun c8 => absurd c8 ((by decide)))
  rcases (show w = 0 ∨ w = 1 ∨ w = 2 ∨ w = 3 ∨ w = 4 ∨ w = 5 ∨ w = 6 ∨ w = 7 ∨ w = 8 by omega) with rfl | rfl | rfl | rfl | rfl | rfl | rfl | rfl | rfl
  · refine mOk.iload2n dX8_code_13 rfl ?_
    refine mOk.tableIn (off := 50) (tgt := 64) dX8_code_14 (by decide) (by decide) (by decide) (by decide) ?_
    refine mOk.aload0n dX8_code_64 rfl ?_
    refine mOk.getR dX8_code_65 fl_X8_19 (by first | assumption | rfl) (by first | assumption | rfl) ?_
    refine mOk.iload1n dX8_code_68 rfl ?_
    refine mOk.callV1 (M' := mX1_classOf) dX8_code_69 ml_X8_108 ke_X1_classOf (by first | assumption | rfl) (by decide) (by decide) (by simp [Value.category]) (c_classOf h ?_)
    refine mOk.iret dX8_code_72 rfl hQ
  · refine mOk.iload2n dX8_code_13 rfl ?_
    refine mOk.tableIn (off := 59) (tgt := 73) dX8_code_14 (by decide) (by decide) (by decide) (by decide) ?_
    refine mOk.aload0n dX8_code_73 rfl ?_
    refine mOk.getR dX8_code_74 fl_X8_19 (by first | assumption | rfl) (by first | assumption | rfl) ?_
    refine mOk.iload1n dX8_code_77 rfl ?_
    refine mOk.callV1 (M' := mX1_kindOf) dX8_code_78 ml_X8_112 ke_X1_kindOf (by first | assumption | rfl) (by decide) (by decide) (by simp [Value.category]) (c_kindOf h ?_)
    refine mOk.iret dX8_code_81 rfl hQ
  · refine mOk.iload2n dX8_code_13 rfl ?_
    refine mOk.tableIn (off := 68) (tgt := 82) dX8_code_14 (by decide) (by decide) (by decide) (by decide) ?_
    refine mOk.aload0n dX8_code_82 rfl ?_
    refine mOk.getR dX8_code_83 fl_X8_19 (by first | assumption | rfl) (by first | assumption | rfl) ?_
    refine mOk.iload1n dX8_code_86 rfl ?_
    refine mOk.callV1 (M' := mX1_firstOf) dX8_code_87 ml_X8_115 ke_X1_firstOf (by first | assumption | rfl) (by decide) (by decide) (by simp [Value.category]) (c_firstOf h ?_)
    refine mOk.iret dX8_code_90 rfl hQ
  · refine mOk.iload2n dX8_code_13 rfl ?_
    refine mOk.tableIn (off := 77) (tgt := 91) dX8_code_14 (by decide) (by decide) (by decide) (by decide) ?_
    refine mOk.aload0n dX8_code_91 rfl ?_
    refine mOk.getR dX8_code_92 fl_X8_19 (by first | assumption | rfl) (by first | assumption | rfl) ?_
    refine mOk.iload1n dX8_code_95 rfl ?_
    refine mOk.callV1 (M' := mX1_secondOf) dX8_code_96 ml_X8_118 ke_X1_secondOf (by first | assumption | rfl) (by decide) (by decide) (by simp [Value.category]) (c_secondOf h ?_)
    refine mOk.iret dX8_code_99 rfl hQ
  · refine mOk.iload2n dX8_code_13 rfl ?_
    refine mOk.tableIn (off := 86) (tgt := 100) dX8_code_14 (by decide) (by decide) (by decide) (by decide) ?_
    refine mOk.aload0n dX8_code_100 rfl ?_
    refine mOk.getR dX8_code_101 fl_X8_19 (by first | assumption | rfl) (by first | assumption | rfl) ?_
    refine mOk.iload1n dX8_code_104 rfl ?_
    refine mOk.callV1 (M' := mX1_pieceCount) dX8_code_105 ml_X8_121 ke_X1_pieceCount (by first | assumption | rfl) (by decide) (by decide) (by simp [Value.category]) (c_pieceCount h ?_)
    refine mOk.iret dX8_code_108 rfl hQ
  · refine mOk.iload2n dX8_code_13 rfl ?_
    refine mOk.tableIn (off := 95) (tgt := 109) dX8_code_14 (by decide) (by decide) (by decide) (by decide) ?_
    refine mOk.aload0n dX8_code_109 rfl ?_
    refine mOk.getR dX8_code_110 fl_X8_19 (by first | assumption | rfl) (by first | assumption | rfl) ?_
    refine mOk.iload1n dX8_code_113 rfl ?_
    refine mOk.iload2n dX8_code_114 rfl ?_
    refine mOk.iconst (x := nI 5) dX8_code_115 (by decide) ?_
    refine mOk.isub dX8_code_116 ?_
    refine mOk.top (pk_sub (by omega)) ?_
    refine mOk.callV2 (M' := mX1_piece) dX8_code_117 ml_X8_124 ke_X1_piece (by first | assumption | rfl) (by decide) (by decide) (by simp [Value.category]) (c_piece h (by omega) ?_)
    refine mOk.iret dX8_code_120 rfl hQ
  · refine mOk.iload2n dX8_code_13 rfl ?_
    refine mOk.tableIn (off := 95) (tgt := 109) dX8_code_14 (by decide) (by decide) (by decide) (by decide) ?_
    refine mOk.aload0n dX8_code_109 rfl ?_
    refine mOk.getR dX8_code_110 fl_X8_19 (by first | assumption | rfl) (by first | assumption | rfl) ?_
    refine mOk.iload1n dX8_code_113 rfl ?_
    refine mOk.iload2n dX8_code_114 rfl ?_
    refine mOk.iconst (x := nI 5) dX8_code_115 (by decide) ?_
    refine mOk.isub dX8_code_116 ?_
    refine mOk.top (pk_sub (by omega)) ?_
    refine mOk.callV2 (M' := mX1_piece) dX8_code_117 ml_X8_124 ke_X1_piece (by first | assumption | rfl) (by decide) (by decide) (by simp [Value.category]) (c_piece h (by omega) ?_)
    refine mOk.iret dX8_code_120 rfl hQ
  · refine mOk.iload2n dX8_code_13 rfl ?_
    refine mOk.tableIn (off := 95) (tgt := 109) dX8_code_14 (by decide) (by decide) (by decide) (by decide) ?_
    refine mOk.aload0n dX8_code_109 rfl ?_
    refine mOk.getR dX8_code_110 fl_X8_19 (by first | assumption | rfl) (by first | assumption | rfl) ?_
    refine mOk.iload1n dX8_code_113 rfl ?_
    refine mOk.iload2n dX8_code_114 rfl ?_
    refine mOk.iconst (x := nI 5) dX8_code_115 (by decide) ?_
    refine mOk.isub dX8_code_116 ?_
    refine mOk.top (pk_sub (by omega)) ?_
    refine mOk.callV2 (M' := mX1_piece) dX8_code_117 ml_X8_124 ke_X1_piece (by first | assumption | rfl) (by decide) (by decide) (by simp [Value.category]) (c_piece h (by omega) ?_)
    refine mOk.iret dX8_code_120 rfl hQ
  · refine mOk.iload2n dX8_code_13 rfl ?_
    refine mOk.tableIn (off := 95) (tgt := 109) dX8_code_14 (by decide) (by decide) (by decide) (by decide) ?_
    refine mOk.aload0n dX8_code_109 rfl ?_
    refine mOk.getR dX8_code_110 fl_X8_19 (by first | assumption | rfl) (by first | assumption | rfl) ?_
    refine mOk.iload1n dX8_code_113 rfl ?_
    refine mOk.iload2n dX8_code_114 rfl ?_
    refine mOk.iconst (x := nI 5) dX8_code_115 (by decide) ?_
    refine mOk.isub dX8_code_116 ?_
    refine mOk.top (pk_sub (by omega)) ?_
    refine mOk.callV2 (M' := mX1_piece) dX8_code_117 ml_X8_124 ke_X1_piece (by first | assumption | rfl) (by decide) (by decide) (by simp [Value.category]) (c_piece h (by omega) ?_)
    refine mOk.iret dX8_code_120 rfl hQ
theorem C_pair_out {a b : Int32} (h : Cd I (cA sw) T) (hc : (a < 0 ∨ nI T.length ≤ a) ∨ (b < 0 ∨ nI T.length ≤ b)) (hQ : Q (some (.int (-1))) (hS sw I J)) : mCl mX8_pair 3 0 0 [.ref 0, .int a, .int b] (hS sw I J) Q := by
  obtain ⟨k0, -⟩ := cdK (cA_r sw)
  have hl := h.2.1
  refine mCl.of (by decide) rfl (Nat.le_of_ble_eq_true rfl) ?_
  show mOk _ _ _ _ _ [some (.ref 0), some (.int a), some (.int b)] _ _ _ _ _
  rcases ixc a (show T.length < 100000 by omega) with z | ⟨j, hj, rfl⟩
  · refine mOk.aload0n dX8_pair_0 rfl ?_
    refine mOk.getR dX8_pair_1 fl_X8_19 (by first | assumption | rfl) (by first | assumption | rfl) ?_
    refine mOk.iload1n dX8_pair_4 rfl ?_
    refine mOk.callV1 (M' := mX1_holds) dX8_pair_5 ml_X8_105 ke_X1_holds (by first | assumption | rfl) (by decide) (by decide) (by simp [Value.category]) (c_holds_out h z ?_)
    refine mOk.ifeq (tgt := 22) dX8_pair_8 (by decide) (fun c8 => ?_) (fun c8 => absurd (rfl) c8)
    refine mOk.iconst (x := -1) dX8_pair_22 (by decide) ?_
    refine mOk.iret dX8_pair_23 rfl hQ
  · have hb : b < 0 ∨ nI T.length ≤ b := by
      rcases hc with (z | z) | z
      · exact absurd z (nI_neg' (by omega))
      · have := (nI_le' (by omega) (by omega)).mp z
        omega
      · exact z
    refine mOk.aload0n dX8_pair_0 rfl ?_
    refine mOk.getR dX8_pair_1 fl_X8_19 (by first | assumption | rfl) (by first | assumption | rfl) ?_
    refine mOk.iload1n dX8_pair_4 rfl ?_
    refine mOk.callV1 (M' := mX1_holds) dX8_pair_5 ml_X8_105 ke_X1_holds (by first | assumption | rfl) (by decide) (by decide) (by simp [Value.category]) (c_holds_in h hj ?_)
    refine mOk.ifeq (tgt := 22) dX8_pair_8 (by decide) (fun c8 => absurd c8 ((by decide))) (fun c8 => ?_)
    refine mOk.aload0n dX8_pair_11 rfl ?_
    refine mOk.getR dX8_pair_12 fl_X8_19 (by first | assumption | rfl) (by first | assumption | rfl) ?_
    refine mOk.iload2n dX8_pair_15 rfl ?_
    refine mOk.callV1 (M' := mX1_holds) dX8_pair_16 ml_X8_105 ke_X1_holds (by first | assumption | rfl) (by decide) (by decide) (by simp [Value.category]) (c_holds_out h hb ?_)
    refine mOk.ifne (tgt := 24) dX8_pair_19 (by decide) (fun c19 => absurd (rfl) c19) (fun c19 => ?_)
    refine mOk.iconst (x := -1) dX8_pair_22 (by decide) ?_
    refine mOk.iret dX8_pair_23 rfl hQ
theorem C_pair_in {a b : Nat} (h : Cd I (cA sw) T) (ha : a < T.length) (hb : b < T.length) (hQ : Q (some (.int (pairC T (nI a) (nI b)))) (hS sw I J)) : mCl mX8_pair 3 0 0 [.ref 0, .int (nI a), .int (nI b)] (hS sw I J) Q := by
  obtain ⟨k0, -⟩ := cdK (cA_r sw)
  refine mCl.of (by decide) rfl (Nat.le_of_ble_eq_true rfl) ?_
  show mOk _ _ _ _ _ [some (.ref 0), some (.int (nI a)), some (.int (nI b))] _ _ _ _ _
  refine mOk.aload0n dX8_pair_0 rfl ?_
  refine mOk.getR dX8_pair_1 fl_X8_19 (by first | assumption | rfl) (by first | assumption | rfl) ?_
  refine mOk.iload1n dX8_pair_4 rfl ?_
  refine mOk.callV1 (M' := mX1_holds) dX8_pair_5 ml_X8_105 ke_X1_holds (by first | assumption | rfl) (by decide) (by decide) (by simp [Value.category]) (c_holds_in h ha ?_)
  refine mOk.ifeq (tgt := 22) dX8_pair_8 (by decide) (fun c8 => absurd c8 ((by decide))) (fun c8 => ?_)
  refine mOk.aload0n dX8_pair_11 rfl ?_
  refine mOk.getR dX8_pair_12 fl_X8_19 (by first | assumption | rfl) (by first | assumption | rfl) ?_
  refine mOk.iload2n dX8_pair_15 rfl ?_
  refine mOk.callV1 (M' := mX1_holds) dX8_pair_16 ml_X8_105 ke_X1_holds (by first | assumption | rfl) (by decide) (by decide) (by simp [Value.category]) (c_holds_in h hb ?_)
  refine mOk.ifne (tgt := 24) dX8_pair_19 (by decide) (fun c19 => ?_) (fun c19 => absurd c19 ((by decide)))
  refine mOk.aload0n dX8_pair_24 rfl ?_
  refine mOk.getR dX8_pair_25 fl_X8_19 (by first | assumption | rfl) (by first | assumption | rfl) ?_
  refine mOk.iload1n dX8_pair_28 rfl ?_
  refine mOk.iload2n dX8_pair_29 rfl ?_
  refine mOk.callV2 (M' := mX1_pairOf) dX8_pair_30 ml_X8_128 ke_X1_pairOf (by first | assumption | rfl) (by decide) (by decide) (by simp [Value.category]) (c_pairOf h ?_)
  refine mOk.iret dX8_pair_33 rfl hQ
theorem b22 : (22 : Nat) = 22 ∨ (22 : Nat) = 37 ∨ (22 : Nat) = 49 := Or.inl rfl
theorem C_puts_tout {t c : Int32} (ht : t < 0 ∨ nI 4 ≤ t) (hQ : Q (some (.int (-1))) (hS sw I J)) : mCl mX8_puts 5 0 0 [.ref 0, .int t, .int c] (hS sw I J) Q := by
  refine mCl.of (by decide) rfl (Nat.le_of_ble_eq_true rfl) ?_
  show mOk _ _ _ _ _ [some (.ref 0), some (.int t), some (.int c), none] _ _ _ _ _
  refine mOk.aload0n dX8_puts_0 rfl ?_
  refine mOk.getR dX8_puts_1 fl_X8_29 (by first | assumption | rfl) (by first | assumption | rfl) ?_
  refine mOk.iload1n dX8_puts_4 rfl ?_
  refine mOk.callV1 (M' := mX0_text) dX8_puts_5 ml_X8_131 ke_X0_text (by first | assumption | rfl) (by decide) (by decide) (by simp [Value.category]) (c_text_out b22 ht ?_)
  refine mOk.astoreN3n dX8_puts_8 rfl (by decide) rfl ?_
  refine mOk.aloadN3n dX8_puts_9 rfl ?_
  refine mOk.ifnull_n (tgt := 24) dX8_puts_10 (by decide) ?_
  refine mOk.iconst (x := -1) dX8_puts_24 (by decide) ?_
  refine mOk.iret dX8_puts_25 rfl hQ
theorem C_puts_cout {t : Nat} {c : Int32} (h : Cd I (cA sw) T) (ht : t < 4) (hc : c < 0 ∨ nI T.length ≤ c) (hQ : Q (some (.int (-1))) (hS sw I J)) : mCl mX8_puts 5 0 0 [.ref 0, .int (nI t), .int c] (hS sw I J) Q := by
  obtain ⟨k0, -⟩ := cdK (cA_r sw)
  refine mCl.of (by decide) rfl (Nat.le_of_ble_eq_true rfl) ?_
  show mOk _ _ _ _ _ [some (.ref 0), some (.int (nI t)), some (.int c), none] _ _ _ _ _
  refine mOk.aload0n dX8_puts_0 rfl ?_
  refine mOk.getR dX8_puts_1 fl_X8_29 (by first | assumption | rfl) (by first | assumption | rfl) ?_
  refine mOk.iload1n dX8_puts_4 rfl ?_
  refine mOk.callV1 (M' := mX0_text) dX8_puts_5 ml_X8_131 ke_X0_text (by first | assumption | rfl) (by decide) (by decide) (by simp [Value.category]) (c_text_in b22 ht ?_)
  refine mOk.astore3n dX8_puts_8 rfl (by decide) rfl ?_
  refine mOk.aload3n dX8_puts_9 rfl ?_
  refine mOk.ifnull_r dX8_puts_10 ?_
  refine mOk.aload0n dX8_puts_13 rfl ?_
  refine mOk.getR dX8_puts_14 fl_X8_19 (by first | assumption | rfl) (by first | assumption | rfl) ?_
  refine mOk.iload2n dX8_puts_17 rfl ?_
  refine mOk.callV1 (M' := mX1_holds) dX8_puts_18 ml_X8_105 ke_X1_holds (by first | assumption | rfl) (by decide) (by decide) (by simp [Value.category]) (c_holds_out h hc ?_)
  refine mOk.ifne (tgt := 26) dX8_puts_21 (by decide) (fun c21 => absurd (rfl) c21) (fun c21 => ?_)
  refine mOk.iconst (x := -1) dX8_puts_24 (by decide) ?_
  refine mOk.iret dX8_puts_25 rfl hQ
theorem C_puts_full {t j : Nat} (h : InvC sw I bs T tx pp hs im) (ht : t < 4) (hj : j < T.length) (hf : (tx t).length = 16) (hQ : Q (some (.int (-3))) (hS sw I J)) : mCl mX8_puts 5 0 0 [.ref 0, .int (nI t), .int (nI j)] (hS sw I J) Q := by
  obtain ⟨h1, h2, ⟨T', h3⟩, h4, h5, h6, h7⟩ := h
  obtain ⟨k0, -⟩ := cdK (cA_r sw)
  have kt := (bdT b22 ht sw).2
  refine mCl.of (by decide) rfl (Nat.le_of_ble_eq_true rfl) ?_
  show mOk _ _ _ _ _ [some (.ref 0), some (.int (nI t)), some (.int (nI j)), none] _ _ _ _ _
  refine mOk.aload0n dX8_puts_0 rfl ?_
  refine mOk.getR dX8_puts_1 fl_X8_29 (by first | assumption | rfl) (by first | assumption | rfl) ?_
  refine mOk.iload1n dX8_puts_4 rfl ?_
  refine mOk.callV1 (M' := mX0_text) dX8_puts_5 ml_X8_131 ke_X0_text (by first | assumption | rfl) (by decide) (by decide) (by simp [Value.category]) (c_text_in b22 ht ?_)
  refine mOk.astore3n dX8_puts_8 rfl (by decide) rfl ?_
  refine mOk.aload3n dX8_puts_9 rfl ?_
  refine mOk.ifnull_r dX8_puts_10 ?_
  refine mOk.aload0n dX8_puts_13 rfl ?_
  refine mOk.getR dX8_puts_14 fl_X8_19 (by first | assumption | rfl) (by first | assumption | rfl) ?_
  refine mOk.iload2n dX8_puts_17 rfl ?_
  refine mOk.callV1 (M' := mX1_holds) dX8_puts_18 ml_X8_105 ke_X1_holds (by first | assumption | rfl) (by decide) (by decide) (by simp [Value.category]) (c_holds_in h2 hj ?_)
  refine mOk.ifne (tgt := 26) dX8_puts_21 (by decide) (fun c21 => ?_) (fun c21 => absurd c21 ((by decide)))
  refine mOk.aload3n dX8_puts_26 rfl ?_
  refine mOk.callV0 (M' := mX5_length) dX8_puts_27 ml_X8_84 ke_X5_length (by first | assumption | rfl) (by decide) (by decide) (by simp [Value.category]) (c_length (h4.2.1 t ht) ?_)
  refine mOk.bipush (x := nI 16) dX8_puts_30 (by decide) ?_
  refine mOk.iclt (tgt := 38) dX8_puts_32 (by decide) (fun c32 => absurd c32 (mt (nI_lt' (by omega) (by omega)).mp (by omega))) (fun c32 => ?_)
  refine mOk.bipush (x := -3) dX8_puts_35 (by decide) ?_
  refine mOk.iret dX8_puts_37 rfl hQ
theorem hS10_t {t : Nat} (ht : t < 4) : 22 + 4 + 2 * t ∉ hS10 ∧ 22 + 5 + 2 * t ∉ hS10 := ⟨fun z => by have := hS10_r z; omega, fun z => by have := hS10_r z; omega⟩
theorem C_puts_in {t j : Nat} (h : InvC sw I bs T tx pp hs im) (ht : t < 4) (hj : j < T.length) (hf : (tx t).length < 16) (hQ : ∀ I', InvC sw I' bs T (va_up tx t (tx t ++ [nI j])) pp (((t, tx t) :: hs).take 10) im → Fr I I' → Q (some (.int (nI ((tx t).length + 1)))) (hS sw I' J)) : mCl mX8_puts 5 0 0 [.ref 0, .int (nI t), .int (nI j)] (hS sw I J) Q := by
  obtain ⟨h1, h2, ⟨T', h3⟩, h4, h5, h6, h7⟩ := id h
  obtain ⟨k0, -⟩ := cdK (cA_r sw)
  have kt := (bdT b22 ht sw).2
  refine mCl.of (by decide) rfl (Nat.le_of_ble_eq_true rfl) ?_
  show mOk _ _ _ _ _ [some (.ref 0), some (.int (nI t)), some (.int (nI j)), none] _ _ _ _ _
  refine mOk.aload0n dX8_puts_0 rfl ?_
  refine mOk.getR dX8_puts_1 fl_X8_29 (by first | assumption | rfl) (by first | assumption | rfl) ?_
  refine mOk.iload1n dX8_puts_4 rfl ?_
  refine mOk.callV1 (M' := mX0_text) dX8_puts_5 ml_X8_131 ke_X0_text (by first | assumption | rfl) (by decide) (by decide) (by simp [Value.category]) (c_text_in b22 ht ?_)
  refine mOk.astore3n dX8_puts_8 rfl (by decide) rfl ?_
  refine mOk.aload3n dX8_puts_9 rfl ?_
  refine mOk.ifnull_r dX8_puts_10 ?_
  refine mOk.aload0n dX8_puts_13 rfl ?_
  refine mOk.getR dX8_puts_14 fl_X8_19 (by first | assumption | rfl) (by first | assumption | rfl) ?_
  refine mOk.iload2n dX8_puts_17 rfl ?_
  refine mOk.callV1 (M' := mX1_holds) dX8_puts_18 ml_X8_105 ke_X1_holds (by first | assumption | rfl) (by decide) (by decide) (by simp [Value.category]) (c_holds_in h2 hj ?_)
  refine mOk.ifne (tgt := 26) dX8_puts_21 (by decide) (fun c21 => ?_) (fun c21 => absurd c21 ((by decide)))
  refine mOk.aload3n dX8_puts_26 rfl ?_
  refine mOk.callV0 (M' := mX5_length) dX8_puts_27 ml_X8_84 ke_X5_length (by first | assumption | rfl) (by decide) (by decide) (by simp [Value.category]) (c_length (h4.2.1 t ht) ?_)
  refine mOk.bipush (x := nI 16) dX8_puts_30 (by decide) ?_
  refine mOk.iclt (tgt := 38) dX8_puts_32 (by decide) (fun c32 => ?_) (fun c32 => absurd ((nI_lt' (by omega) (by omega)).mpr (by omega)) c32)
  refine mOk.aload0n dX8_puts_38 rfl ?_
  refine mOk.getR dX8_puts_39 fl_X8_43 (by first | assumption | rfl) (by first | assumption | rfl) ?_
  refine mOk.iload1n dX8_puts_42 rfl ?_
  refine mOk.aload3n dX8_puts_43 rfl ?_
  refine mOk.callV2 (M' := mX2_remember) dX8_puts_44 ml_X8_135 ke_X2_remember (by first | assumption | rfl) (by decide) (by decide) (by simp [Value.category]) (c_remember h6 (h4.2.1 t ht) (hS10_t ht).1 (hS10_t ht).2 ?_)
  intro I1 hH1 ho1
  have g1 := h.hst hH1 ho1
  refine mOk.aload3n dX8_puts_47 rfl ?_
  refine mOk.iload2n dX8_puts_48 rfl ?_
  refine mOk.callV1 (M' := mX5_push) dX8_puts_49 ml_X8_80 ke_X5_push (by first | assumption | rfl) (by decide) (by decide) (by simp [Value.category]) (c_push (g1.2.2.2.1.2.1 t ht) (by omega) ?_)
  intro I2 ht2 ho2
  refine mOk.pop dX8_puts_52 rfl ?_
  refine mOk.aload3n dX8_puts_53 rfl ?_
  refine mOk.callV0 (M' := mX5_length) dX8_puts_54 ml_X8_84 ke_X5_length (by first | assumption | rfl) (by decide) (by decide) (by simp [Value.category]) (c_length ht2 ?_)
  refine mOk.iret dX8_puts_57 rfl ?_
  rw [List.length_append]
  exact hQ I2 (g1.txt ht2 ho2 ht) ((ho1.fr (by decide)).tr (ho2.fr (fun a ha => by simp at ha; omega)))
theorem C_cuts_out {t : Int32} (ht : t < 0 ∨ nI 4 ≤ t) (hQ : Q (some (.int (-1))) (hS sw I J)) : mCl mX8_cuts 5 0 0 [.ref 0, .int t] (hS sw I J) Q := by
  refine mCl.of (by decide) rfl (Nat.le_of_ble_eq_true rfl) ?_
  show mOk _ _ _ _ _ [some (.ref 0), some (.int t), none, none, none] _ _ _ _ _
  refine mOk.aload0n dX8_cuts_0 rfl ?_
  refine mOk.getR dX8_cuts_1 fl_X8_29 (by first | assumption | rfl) (by first | assumption | rfl) ?_
  refine mOk.iload1n dX8_cuts_4 rfl ?_
  refine mOk.callV1 (M' := mX0_text) dX8_cuts_5 ml_X8_131 ke_X0_text (by first | assumption | rfl) (by decide) (by decide) (by simp [Value.category]) (c_text_out b22 ht ?_)
  refine mOk.astoreN2n dX8_cuts_8 rfl (by decide) rfl ?_
  refine mOk.aloadN2n dX8_cuts_9 rfl ?_
  refine mOk.ifnonnull_n dX8_cuts_10 ?_
  refine mOk.iconst (x := -1) dX8_cuts_13 (by decide) ?_
  refine mOk.iret dX8_cuts_14 rfl hQ
theorem C_cuts_empty {t : Nat} (h : InvC sw I bs T tx pp hs im) (ht : t < 4) (hf : (tx t).length = 0) (hQ : Q (some (.int (-2))) (hS sw I J)) : mCl mX8_cuts 5 0 0 [.ref 0, .int (nI t)] (hS sw I J) Q := by
  obtain ⟨h1, h2, ⟨T', h3⟩, h4, h5, h6, h7⟩ := h
  have kt := (bdT b22 ht sw).2
  refine mCl.of (by decide) rfl (Nat.le_of_ble_eq_true rfl) ?_
  show mOk _ _ _ _ _ [some (.ref 0), some (.int (nI t)), none, none, none] _ _ _ _ _
  refine mOk.aload0n dX8_cuts_0 rfl ?_
  refine mOk.getR dX8_cuts_1 fl_X8_29 (by first | assumption | rfl) (by first | assumption | rfl) ?_
  refine mOk.iload1n dX8_cuts_4 rfl ?_
  refine mOk.callV1 (M' := mX0_text) dX8_cuts_5 ml_X8_131 ke_X0_text (by first | assumption | rfl) (by decide) (by decide) (by simp [Value.category]) (c_text_in b22 ht ?_)
  refine mOk.astore2n dX8_cuts_8 rfl (by decide) rfl ?_
  refine mOk.aload2n dX8_cuts_9 rfl ?_
  refine mOk.ifnonnull_r (tgt := 15) dX8_cuts_10 (by decide) ?_
  refine mOk.aload2n dX8_cuts_15 rfl ?_
  refine mOk.callV0 (M' := mX5_length) dX8_cuts_16 ml_X8_84 ke_X5_length (by first | assumption | rfl) (by decide) (by decide) (by simp [Value.category]) (c_length (h4.2.1 t ht) ?_)
  refine mOk.istore3n dX8_cuts_19 rfl (by decide) rfl ?_
  refine mOk.iload3n dX8_cuts_20 rfl ?_
  refine mOk.ifne (tgt := 27) dX8_cuts_21 (by decide) (fun c21 => absurd ((by rw [hf]; rfl)) c21) (fun c21 => ?_)
  refine mOk.bipush (x := -2) dX8_cuts_24 (by decide) ?_
  refine mOk.iret dX8_cuts_26 rfl hQ
theorem C_cuts_in {t : Nat} (h : InvC sw I bs T tx pp hs im) (ht : t < 4) (hf : 0 < (tx t).length) (hQ : ∀ I', InvC sw I' bs T (va_up tx t ((tx t).take ((tx t).length - 1))) pp (((t, tx t) :: hs).take 10) im → Fr I I' → Q (some (.int ((tx t).getD ((tx t).length - 1) (-9)))) (hS sw I' J)) : mCl mX8_cuts 5 0 0 [.ref 0, .int (nI t)] (hS sw I J) Q := by
  obtain ⟨h1, h2, ⟨T', h3⟩, h4, h5, h6, h7⟩ := id h
  have kt := (bdT b22 ht sw).2
  have hl := (h4.2.1 t ht).2.1
  refine mCl.of (by decide) rfl (Nat.le_of_ble_eq_true rfl) ?_
  show mOk _ _ _ _ _ [some (.ref 0), some (.int (nI t)), none, none, none] _ _ _ _ _
  refine mOk.aload0n dX8_cuts_0 rfl ?_
  refine mOk.getR dX8_cuts_1 fl_X8_29 (by first | assumption | rfl) (by first | assumption | rfl) ?_
  refine mOk.iload1n dX8_cuts_4 rfl ?_
  refine mOk.callV1 (M' := mX0_text) dX8_cuts_5 ml_X8_131 ke_X0_text (by first | assumption | rfl) (by decide) (by decide) (by simp [Value.category]) (c_text_in b22 ht ?_)
  refine mOk.astore2n dX8_cuts_8 rfl (by decide) rfl ?_
  refine mOk.aload2n dX8_cuts_9 rfl ?_
  refine mOk.ifnonnull_r (tgt := 15) dX8_cuts_10 (by decide) ?_
  refine mOk.aload2n dX8_cuts_15 rfl ?_
  refine mOk.callV0 (M' := mX5_length) dX8_cuts_16 ml_X8_84 ke_X5_length (by first | assumption | rfl) (by decide) (by decide) (by simp [Value.category]) (c_length (h4.2.1 t ht) ?_)
  refine mOk.istore3n dX8_cuts_19 rfl (by decide) rfl ?_
  refine mOk.iload3n dX8_cuts_20 rfl ?_
  refine mOk.ifne (tgt := 27) dX8_cuts_21 (by decide) (fun c21 => ?_) (fun c21 => absurd c21 (fun z => by have := (nI_eq' (b := 0) (by omega) (by omega)).mp z; omega))
  refine mOk.aload0n dX8_cuts_27 rfl ?_
  refine mOk.getR dX8_cuts_28 fl_X8_43 (by first | assumption | rfl) (by first | assumption | rfl) ?_
  refine mOk.iload1n dX8_cuts_31 rfl ?_
  refine mOk.aload2n dX8_cuts_32 rfl ?_
  refine mOk.callV2 (M' := mX2_remember) dX8_cuts_33 ml_X8_135 ke_X2_remember (by first | assumption | rfl) (by decide) (by decide) (by simp [Value.category]) (c_remember h6 (h4.2.1 t ht) (hS10_t ht).1 (hS10_t ht).2 ?_)
  intro I1 hH1 ho1
  have g1 := h.hst hH1 ho1
  refine mOk.aload2n dX8_cuts_36 rfl ?_
  refine mOk.iload3n dX8_cuts_37 rfl ?_
  refine mOk.iconst (x := nI 1) dX8_cuts_38 (by decide) ?_
  refine mOk.isub dX8_cuts_39 ?_
  refine mOk.top (pk_sub (by omega)) ?_
  refine mOk.callV1 (M' := mX5_cell) dX8_cuts_40 ml_X8_139 ke_X5_cell (by first | assumption | rfl) (by decide) (by decide) (by simp [Value.category]) (c_cell_in (g1.2.2.2.1.2.1 t ht) (by omega) ?_)
  refine mOk.istore4 dX8_cuts_43 (by decide) rfl ?_
  refine mOk.aload2n dX8_cuts_45 rfl ?_
  refine mOk.iload3n dX8_cuts_46 rfl ?_
  refine mOk.iconst (x := nI 1) dX8_cuts_47 (by decide) ?_
  refine mOk.isub dX8_cuts_48 ?_
  refine mOk.top (pk_sub (by omega)) ?_
  refine mOk.callV1 (M' := mX5_shorten) dX8_cuts_49 ml_X8_142 ke_X5_shorten (by first | assumption | rfl) (by decide) (by decide) (by simp [Value.category]) (c_shorten (g1.2.2.2.1.2.1 t ht) (by omega) ?_)
  intro I2 ht2 ho2
  refine mOk.iload4 dX8_cuts_52 ?_
  refine mOk.iret dX8_cuts_54 rfl ?_
  exact hQ I2 (g1.txt ht2 ho2 ht) ((ho1.fr (by decide)).tr (ho2.fr (fun a ha => by simp at ha; omega)))
theorem C_appends_tout {t u : Int32} (ht : t < 0 ∨ nI 4 ≤ t) (hQ : Q (some (.int (-1))) (hS sw I J)) : mCl mX8_appends 5 0 0 [.ref 0, .int t, .int u] (hS sw I J) Q := by
  refine mCl.of (by decide) rfl (Nat.le_of_ble_eq_true rfl) ?_
  show mOk _ _ _ _ _ [some (.ref 0), some (.int t), some (.int u), none, none] _ _ _ _ _
  refine mOk.aload0n dX8_appends_0 rfl ?_
  refine mOk.getR dX8_appends_1 fl_X8_29 (by first | assumption | rfl) (by first | assumption | rfl) ?_
  refine mOk.iload1n dX8_appends_4 rfl ?_
  refine mOk.callV1 (M' := mX0_text) dX8_appends_5 ml_X8_131 ke_X0_text (by first | assumption | rfl) (by decide) (by decide) (by simp [Value.category]) (c_text_out b22 ht ?_)
  refine mOk.astoreN3n dX8_appends_8 rfl (by decide) rfl ?_
  rcases ixc u (show 4 < 100000 by omega) with z | ⟨v, hv, rfl⟩
  · refine mOk.aload0n dX8_appends_9 rfl ?_
    refine mOk.getR dX8_appends_10 fl_X8_29 (by first | assumption | rfl) (by first | assumption | rfl) ?_
    refine mOk.iload2n dX8_appends_13 rfl ?_
    refine mOk.callV1 (M' := mX0_text) dX8_appends_14 ml_X8_131 ke_X0_text (by first | assumption | rfl) (by decide) (by decide) (by simp [Value.category]) (c_text_out b22 z ?_)
    refine mOk.astoreN4 dX8_appends_17 (by decide) rfl ?_
    refine mOk.aloadN3n dX8_appends_19 rfl ?_
    refine mOk.ifnull_n (tgt := 28) dX8_appends_20 (by decide) ?_
    refine mOk.iconst (x := -1) dX8_appends_28 (by decide) ?_
    refine mOk.iret dX8_appends_29 rfl hQ
  · refine mOk.aload0n dX8_appends_9 rfl ?_
    refine mOk.getR dX8_appends_10 fl_X8_29 (by first | assumption | rfl) (by first | assumption | rfl) ?_
    refine mOk.iload2n dX8_appends_13 rfl ?_
    refine mOk.callV1 (M' := mX0_text) dX8_appends_14 ml_X8_131 ke_X0_text (by first | assumption | rfl) (by decide) (by decide) (by simp [Value.category]) (c_text_in b22 hv ?_)
    refine mOk.astore4 dX8_appends_17 (by decide) rfl ?_
    refine mOk.aloadN3n dX8_appends_19 rfl ?_
    refine mOk.ifnull_n (tgt := 28) dX8_appends_20 (by decide) ?_
    refine mOk.iconst (x := -1) dX8_appends_28 (by decide) ?_
    refine mOk.iret dX8_appends_29 rfl hQ
theorem C_appends_uout {t : Nat} {u : Int32} (ht : t < 4) (hu : u < 0 ∨ nI 4 ≤ u) (hQ : Q (some (.int (-1))) (hS sw I J)) : mCl mX8_appends 5 0 0 [.ref 0, .int (nI t), .int u] (hS sw I J) Q := by
  refine mCl.of (by decide) rfl (Nat.le_of_ble_eq_true rfl) ?_
  show mOk _ _ _ _ _ [some (.ref 0), some (.int (nI t)), some (.int u), none, none] _ _ _ _ _
  refine mOk.aload0n dX8_appends_0 rfl ?_
  refine mOk.getR dX8_appends_1 fl_X8_29 (by first | assumption | rfl) (by first | assumption | rfl) ?_
  refine mOk.iload1n dX8_appends_4 rfl ?_
  refine mOk.callV1 (M' := mX0_text) dX8_appends_5 ml_X8_131 ke_X0_text (by first | assumption | rfl) (by decide) (by decide) (by simp [Value.category]) (c_text_in b22 ht ?_)
  refine mOk.astore3n dX8_appends_8 rfl (by decide) rfl ?_
  refine mOk.aload0n dX8_appends_9 rfl ?_
  refine mOk.getR dX8_appends_10 fl_X8_29 (by first | assumption | rfl) (by first | assumption | rfl) ?_
  refine mOk.iload2n dX8_appends_13 rfl ?_
  refine mOk.callV1 (M' := mX0_text) dX8_appends_14 ml_X8_131 ke_X0_text (by first | assumption | rfl) (by decide) (by decide) (by simp [Value.category]) (c_text_out b22 hu ?_)
  refine mOk.astoreN4 dX8_appends_17 (by decide) rfl ?_
  refine mOk.aload3n dX8_appends_19 rfl ?_
  refine mOk.ifnull_r dX8_appends_20 ?_
  refine mOk.aloadN4 dX8_appends_23 ?_
  refine mOk.ifnonnull_n dX8_appends_25 ?_
  refine mOk.iconst (x := -1) dX8_appends_28 (by decide) ?_
  refine mOk.iret dX8_appends_29 rfl hQ
theorem C_appends_full {t u : Nat} (h : InvC sw I bs T tx pp hs im) (ht : t < 4) (hu : u < 4) (hf : 16 < (tx t).length + (tx u).length) (hQ : Q (some (.int (-3))) (hS sw I J)) : mCl mX8_appends 5 0 0 [.ref 0, .int (nI t), .int (nI u)] (hS sw I J) Q := by
  obtain ⟨h1, h2, ⟨T', h3⟩, h4, h5, h6, h7⟩ := h
  have kt := (bdT b22 ht sw).2
  have ku := (bdT b22 hu sw).2
  have lt := (h4.2.1 t ht).2.1
  have lu := (h4.2.1 u hu).2.1
  refine mCl.of (by decide) rfl (Nat.le_of_ble_eq_true rfl) ?_
  show mOk _ _ _ _ _ [some (.ref 0), some (.int (nI t)), some (.int (nI u)), none, none] _ _ _ _ _
  refine mOk.aload0n dX8_appends_0 rfl ?_
  refine mOk.getR dX8_appends_1 fl_X8_29 (by first | assumption | rfl) (by first | assumption | rfl) ?_
  refine mOk.iload1n dX8_appends_4 rfl ?_
  refine mOk.callV1 (M' := mX0_text) dX8_appends_5 ml_X8_131 ke_X0_text (by first | assumption | rfl) (by decide) (by decide) (by simp [Value.category]) (c_text_in b22 ht ?_)
  refine mOk.astore3n dX8_appends_8 rfl (by decide) rfl ?_
  refine mOk.aload0n dX8_appends_9 rfl ?_
  refine mOk.getR dX8_appends_10 fl_X8_29 (by first | assumption | rfl) (by first | assumption | rfl) ?_
  refine mOk.iload2n dX8_appends_13 rfl ?_
  refine mOk.callV1 (M' := mX0_text) dX8_appends_14 ml_X8_131 ke_X0_text (by first | assumption | rfl) (by decide) (by decide) (by simp [Value.category]) (c_text_in b22 hu ?_)
  refine mOk.astore4 dX8_appends_17 (by decide) rfl ?_
  refine mOk.aload3n dX8_appends_19 rfl ?_
  refine mOk.ifnull_r dX8_appends_20 ?_
  refine mOk.aload4 dX8_appends_23 ?_
  refine mOk.ifnonnull_r (tgt := 30) dX8_appends_25 (by decide) ?_
  refine mOk.aload3n dX8_appends_30 rfl ?_
  refine mOk.callV0 (M' := mX5_length) dX8_appends_31 ml_X8_84 ke_X5_length (by first | assumption | rfl) (by decide) (by decide) (by simp [Value.category]) (c_length (h4.2.1 t ht) ?_)
  refine mOk.aload4 dX8_appends_34 ?_
  refine mOk.callV0 (M' := mX5_length) dX8_appends_36 ml_X8_84 ke_X5_length (by first | assumption | rfl) (by decide) (by decide) (by simp [Value.category]) (c_length (h4.2.1 u hu) ?_)
  refine mOk.iadd dX8_appends_39 ?_
  refine mOk.top (nI_add _ _) ?_
  refine mOk.bipush (x := nI 16) dX8_appends_40 (by decide) ?_
  refine mOk.icle (tgt := 48) dX8_appends_42 (by decide) (fun c42 => absurd c42 (mt (nI_le' (by omega) (by omega)).mp (by omega))) (fun c42 => ?_)
  refine mOk.bipush (x := -3) dX8_appends_45 (by decide) ?_
  refine mOk.iret dX8_appends_47 rfl hQ
theorem C_appends_in {t u : Nat} (h : InvC sw I bs T tx pp hs im) (ht : t < 4) (hu : u < 4) (hf : (tx t).length + (tx u).length ≤ 16) (hQ : ∀ I', InvC sw I' bs T (va_up tx t (tx t ++ tx u)) pp (((t, tx t) :: hs).take 10) im → Fr I I' → Q (some (.int (nI ((tx t).length + (tx u).length)))) (hS sw I' J)) : mCl mX8_appends 5 0 0 [.ref 0, .int (nI t), .int (nI u)] (hS sw I J) Q := by
  obtain ⟨h1, h2, ⟨T', h3⟩, h4, h5, h6, h7⟩ := id h
  have kt := (bdT b22 ht sw).2
  have ku := (bdT b22 hu sw).2
  refine mCl.of (by decide) rfl (Nat.le_of_ble_eq_true rfl) ?_
  show mOk _ _ _ _ _ [some (.ref 0), some (.int (nI t)), some (.int (nI u)), none, none] _ _ _ _ _
  refine mOk.aload0n dX8_appends_0 rfl ?_
  refine mOk.getR dX8_appends_1 fl_X8_29 (by first | assumption | rfl) (by first | assumption | rfl) ?_
  refine mOk.iload1n dX8_appends_4 rfl ?_
  refine mOk.callV1 (M' := mX0_text) dX8_appends_5 ml_X8_131 ke_X0_text (by first | assumption | rfl) (by decide) (by decide) (by simp [Value.category]) (c_text_in b22 ht ?_)
  refine mOk.astore3n dX8_appends_8 rfl (by decide) rfl ?_
  refine mOk.aload0n dX8_appends_9 rfl ?_
  refine mOk.getR dX8_appends_10 fl_X8_29 (by first | assumption | rfl) (by first | assumption | rfl) ?_
  refine mOk.iload2n dX8_appends_13 rfl ?_
  refine mOk.callV1 (M' := mX0_text) dX8_appends_14 ml_X8_131 ke_X0_text (by first | assumption | rfl) (by decide) (by decide) (by simp [Value.category]) (c_text_in b22 hu ?_)
  refine mOk.astore4 dX8_appends_17 (by decide) rfl ?_
  refine mOk.aload3n dX8_appends_19 rfl ?_
  refine mOk.ifnull_r dX8_appends_20 ?_
  refine mOk.aload4 dX8_appends_23 ?_
  refine mOk.ifnonnull_r (tgt := 30) dX8_appends_25 (by decide) ?_
  refine mOk.aload3n dX8_appends_30 rfl ?_
  refine mOk.callV0 (M' := mX5_length) dX8_appends_31 ml_X8_84 ke_X5_length (by first | assumption | rfl) (by decide) (by decide) (by simp [Value.category]) (c_length (h4.2.1 t ht) ?_)
  refine mOk.aload4 dX8_appends_34 ?_
  refine mOk.callV0 (M' := mX5_length) dX8_appends_36 ml_X8_84 ke_X5_length (by first | assumption | rfl) (by decide) (by decide) (by simp [Value.category]) (c_length (h4.2.1 u hu) ?_)
  refine mOk.iadd dX8_appends_39 ?_
  refine mOk.top (nI_add _ _) ?_
  refine mOk.bipush (x := nI 16) dX8_appends_40 (by decide) ?_
  refine mOk.icle (tgt := 48) dX8_appends_42 (by decide) (fun c42 => ?_) (fun c42 => absurd ((nI_le' (by omega) (by omega)).mpr (by omega)) c42)
  refine mOk.aload0n dX8_appends_48 rfl ?_
  refine mOk.getR dX8_appends_49 fl_X8_43 (by first | assumption | rfl) (by first | assumption | rfl) ?_
  refine mOk.iload1n dX8_appends_52 rfl ?_
  refine mOk.aload3n dX8_appends_53 rfl ?_
  refine mOk.callV2 (M' := mX2_remember) dX8_appends_54 ml_X8_135 ke_X2_remember (by first | assumption | rfl) (by decide) (by decide) (by simp [Value.category]) (c_remember h6 (h4.2.1 t ht) (hS10_t ht).1 (hS10_t ht).2 ?_)
  intro I1 hH1 ho1
  have g1 := h.hst hH1 ho1
  have fin : ∀ I', Rw I' (22 + 4 + 2 * t) (22 + 5 + 2 * t) 16 (tx t ++ tx u) → Off [22 + 4 + 2 * t, 22 + 5 + 2 * t] I1 I' → mOk mX8_appends 5 0 0 63 [some (.ref 0), some (.int (nI t)), some (.int (nI u)), some (.ref (22 + 4 + 2 * t)), some (.ref (22 + 4 + 2 * u))] [] (hS sw I' J) 0 0 Q := by
    intro I2 ht2 ho2
    refine mOk.aload3n dX8_appends_63 rfl ?_
    refine mOk.callV0 (M' := mX5_length) dX8_appends_64 ml_X8_84 ke_X5_length (by first | assumption | rfl) (by decide) (by decide) (by simp [Value.category]) (c_length ht2 ?_)
    refine mOk.iret dX8_appends_67 rfl ?_
    rw [List.length_append]
    exact hQ I2 (g1.txt ht2 ho2 ht) ((ho1.fr (by decide)).tr (ho2.fr (fun a ha => by simp at ha; omega)))
  by_cases e : u = t
  · subst e
    refine mOk.aload3n dX8_appends_57 rfl ?_
    refine mOk.aload4 dX8_appends_58 ?_
    refine mOk.callV1 (M' := mX5_extend) dX8_appends_60 ml_X8_145 ke_X5_extend (by first | assumption | rfl) (by decide) (by decide) (by simp [Value.category]) (c_extend_same (g1.2.2.2.1.2.1 u ht) hf ?_)
    exact fin
  · refine mOk.aload3n dX8_appends_57 rfl ?_
    refine mOk.aload4 dX8_appends_58 ?_
    refine mOk.callV1 (M' := mX5_extend) dX8_appends_60 ml_X8_145 ke_X5_extend (by first | assumption | rfl) (by decide) (by decide) (by simp [Value.category]) (c_extend (g1.2.2.2.1.2.1 t ht) (g1.2.2.2.1.2.1 u hu) hf (by omega) (by omega) (by omega) (by omega) ?_)
    exact fin
theorem C_undo_none (h : InvC sw I bs T tx pp [] im) (hQ : Q (some (.int (-2))) (hS sw I J)) : mCl mX8_undo 5 0 0 [.ref 0] (hS sw I J) Q := by
  obtain ⟨h1, h2, ⟨T', h3⟩, h4, h5, h6, h7⟩ := id h
  refine mCl.of (by decide) rfl (Nat.le_of_ble_eq_true rfl) ?_
  show mOk _ _ _ _ _ [some (.ref 0), none] _ _ _ _ _
  refine mOk.aload0n dX8_undo_0 rfl ?_
  refine mOk.getR dX8_undo_1 fl_X8_29 (by first | assumption | rfl) (by first | assumption | rfl) ?_
  refine mOk.aload0n dX8_undo_4 rfl ?_
  refine mOk.getR dX8_undo_5 fl_X8_43 (by first | assumption | rfl) (by first | assumption | rfl) ?_
  refine mOk.callV0 (M' := mX2_latestText) dX8_undo_8 ml_X8_159 ke_X2_latestText (by first | assumption | rfl) (by decide) (by decide) (by simp [Value.category]) (c_latestText_none h6 ?_)
  refine mOk.callV1 (M' := mX0_text) dX8_undo_11 ml_X8_131 ke_X0_text (by first | assumption | rfl) (by decide) (by decide) (by simp [Value.category]) (c_text_out b22 (Or.inl (by decide)) ?_)
  refine mOk.astoreN1n dX8_undo_14 rfl (by decide) rfl ?_
  refine mOk.aloadN1n dX8_undo_15 rfl ?_
  refine mOk.ifnonnull_n dX8_undo_16 ?_
  refine mOk.bipush (x := -2) dX8_undo_19 (by decide) ?_
  refine mOk.iret dX8_undo_21 rfl hQ
theorem C_undo_in {q : Nat × List Int32} (h : InvC sw I bs T tx pp (q :: hs) im) (hq : q.1 < 4) (hQ : ∀ I', InvC sw I' bs T (va_up tx q.1 q.2) pp hs im → Fr I I' → Q (some (.int (nI hs.length))) (hS sw I' J)) : mCl mX8_undo 5 0 0 [.ref 0] (hS sw I J) Q := by
  obtain ⟨h1, h2, ⟨T', h3⟩, h4, h5, h6, h7⟩ := id h
  have kt := (bdT b22 hq sw).2
  refine mCl.of (by decide) rfl (Nat.le_of_ble_eq_true rfl) ?_
  show mOk _ _ _ _ _ [some (.ref 0), none] _ _ _ _ _
  refine mOk.aload0n dX8_undo_0 rfl ?_
  refine mOk.getR dX8_undo_1 fl_X8_29 (by first | assumption | rfl) (by first | assumption | rfl) ?_
  refine mOk.aload0n dX8_undo_4 rfl ?_
  refine mOk.getR dX8_undo_5 fl_X8_43 (by first | assumption | rfl) (by first | assumption | rfl) ?_
  refine mOk.callV0 (M' := mX2_latestText) dX8_undo_8 ml_X8_159 ke_X2_latestText (by first | assumption | rfl) (by decide) (by decide) (by simp [Value.category]) (c_latestText h6 ?_)
  refine mOk.callV1 (M' := mX0_text) dX8_undo_11 ml_X8_131 ke_X0_text (by first | assumption | rfl) (by decide) (by decide) (by simp [Value.category]) (c_text_in b22 hq ?_)
  refine mOk.astore1n dX8_undo_14 rfl (by decide) rfl ?_
  refine mOk.aload1n dX8_undo_15 rfl ?_
  refine mOk.ifnonnull_r (tgt := 22) dX8_undo_16 (by decide) ?_
  refine mOk.aload0n dX8_undo_22 rfl ?_
  refine mOk.getR dX8_undo_23 fl_X8_43 (by first | assumption | rfl) (by first | assumption | rfl) ?_
  refine mOk.aload1n dX8_undo_26 rfl ?_
  refine mOk.callV1 (M' := mX2_giveBack) dX8_undo_27 ml_X8_162 ke_X2_giveBack (by first | assumption | rfl) (by decide) (by decide) (by simp [Value.category]) (c_giveBack h6 (h4.2.1 q.1 hq) (hS10_t hq).1 (hS10_t hq).2 ?_)
  intro I1 hH1 ht1 ho1
  have g : ∀ lo hi, hi < 26 ∨ 83 < lo ∨ (33 < lo ∧ hi < 61) → AG lo hi I I1 := fun lo hi hh => ho1.ag (fun a ha => by
    rcases List.mem_cons.mp ha with z | z
    · omega
    · rcases List.mem_cons.mp z with z | z
      · omega
      · have := hS10_r z
        omega)
  refine mOk.aload0n dX8_undo_30 rfl ?_
  refine mOk.getR dX8_undo_31 fl_X8_43 (by first | assumption | rfl) (by first | assumption | rfl) ?_
  refine mOk.callV0 (M' := mX2_known) dX8_undo_34 ml_X8_165 ke_X2_known (by first | assumption | rfl) (by decide) (by decide) (by simp [Value.category]) (c_known hH1 ?_)
  refine mOk.iret dX8_undo_37 rfl ?_
  refine hQ I1 ⟨h1.ag (g _ _ (by omega)), h2.ag (g _ _ (by omega)), ⟨T', h3.ag (g _ _ (by omega))⟩, ⟨b22, fun i hi => ?_, h4.2.2.ag (g 24 25 (by omega)) (by omega) (by omega)⟩, h5.ag (g _ _ (by omega)), hH1, h7.ag (g _ _ (by omega))⟩ (ho1.fr (fun a ha => by
    rcases List.mem_cons.mp ha with z | z
    · omega
    · rcases List.mem_cons.mp z with z | z
      · omega
      · have := hS10_r z
        omega))
  by_cases e : i = q.1
  · subst e
    rw [va_up_s]
    exact ht1
  · rw [va_up_n e]
    have hn : ∀ x, x = 22 + 4 + 2 * i ∨ x = 22 + 5 + 2 * i → x ∉ (22 + 4 + 2 * q.1) :: (22 + 5 + 2 * q.1) :: hS10 := fun x hx ha => by
      rcases List.mem_cons.mp ha with z | z
      · omega
      · rcases List.mem_cons.mp z with z | z
        · omega
        · have := hS10_r z
          omega
    exact (h4.2.1 i hi).off ho1 (hn _ (Or.inl rfl)) (hn _ (Or.inr rfl))
theorem c_isRule_in {r : Nat} (hr : r < 6) (hQ : Q (some (.int 1)) (hS sw I J)) : mCl mX8_isRule 0 0 0 [.int (nI r)] (hS sw I J) Q := by
  refine mCl.of (by decide) rfl (Nat.le_of_ble_eq_true rfl) ?_
  show mOk _ _ _ _ _ [some (.int (nI r))] _ _ _ _ _
  refine mOk.iload0n dX8_isRule_0 rfl ?_
  refine mOk.iflt (tgt := 13) dX8_isRule_1 (by decide) (fun c1 => absurd c1 (nI_neg' (by omega))) (fun c1 => ?_)
  refine mOk.iload0n dX8_isRule_4 rfl ?_
  refine mOk.iconst (x := nI 5) dX8_isRule_5 (by decide) ?_
  refine mOk.icgt (tgt := 13) dX8_isRule_6 (by decide) (fun c6 => absurd c6 (mt (nI_lt' (by omega) (by omega)).mp (by omega))) (fun c6 => ?_)
  refine mOk.iconst (x := 1) dX8_isRule_9 (by decide) ?_
  refine mOk.goto (tgt := 14) dX8_isRule_10 (by decide) ?_
  refine mOk.zret dX8_isRule_14 rfl (by decide) hQ
theorem c_isRule_out {r : Int32} (hr : r < 0 ∨ nI 6 ≤ r) (hQ : Q (some (.int 0)) (hS sw I J)) : mCl mX8_isRule 0 0 0 [.int r] (hS sw I J) Q := by
  refine mCl.of (by decide) rfl (Nat.le_of_ble_eq_true rfl) ?_
  show mOk _ _ _ _ _ [some (.int r)] _ _ _ _ _
  by_cases z : r < 0
  · refine mOk.iload0n dX8_isRule_0 rfl ?_
    refine mOk.iflt (tgt := 13) dX8_isRule_1 (by decide) (fun c1 => ?_) (fun c1 => absurd (z) c1)
    refine mOk.iconst (x := 0) dX8_isRule_13 (by decide) ?_
    refine mOk.zret dX8_isRule_14 rfl (by decide) hQ
  · refine mOk.iload0n dX8_isRule_0 rfl ?_
    refine mOk.iflt (tgt := 13) dX8_isRule_1 (by decide) (fun c1 => absurd c1 (z)) (fun c1 => ?_)
    refine mOk.iload0n dX8_isRule_4 rfl ?_
    refine mOk.iconst (x := nI 5) dX8_isRule_5 (by decide) ?_
    refine mOk.icgt (tgt := 13) dX8_isRule_6 (by decide) (fun c6 => ?_) (fun c6 => absurd (i32_ltg (by omega) (hr.resolve_left z)) c6)
    refine mOk.iconst (x := 0) dX8_isRule_13 (by decide) ?_
    refine mOk.zret dX8_isRule_14 rfl (by decide) hQ
theorem c_look {r ra cap : Nat} {xs : List Int32} (hx : Rw I r ra cap xs) {i : Int32} (hQ : Q (some (.int (lk xs i))) (hS sw I J)) : mCl mX8_look 2 0 0 [.ref r, .int i] (hS sw I J) Q := by
  obtain ⟨r0, -⟩ := id hx.1
  have hl := hx.2.1
  have hcap := hx.1.2.2.2.1
  refine mCl.of (by decide) rfl (Nat.le_of_ble_eq_true rfl) ?_
  show mOk _ _ _ _ _ [some (.ref r), some (.int i)] _ _ _ _ _
  by_cases e : i = -1
  · subst e
    rw [lk_m1] at hQ
    refine mOk.iload1n dX8_look_0 rfl ?_
    refine mOk.iconst (x := -1) dX8_look_1 (by decide) ?_
    refine mOk.icne (tgt := 10) dX8_look_2 (by decide) (fun c2 => absurd (rfl) c2) (fun c2 => ?_)
    refine mOk.aload0n dX8_look_5 rfl ?_
    refine mOk.callV0 (M' := mX5_length) dX8_look_6 ml_X8_84 ke_X5_length (by first | assumption | rfl) (by decide) (by decide) (by simp [Value.category]) (c_length hx ?_)
    refine mOk.iret dX8_look_9 rfl hQ
  · refine mOk.iload1n dX8_look_0 rfl ?_
    refine mOk.iconst (x := -1) dX8_look_1 (by decide) ?_
    refine mOk.icne (tgt := 10) dX8_look_2 (by decide) (fun c2 => ?_) (fun c2 => absurd c2 (e))
    rcases ixc i (show xs.length < 100000 by omega) with z | ⟨j, hj, rfl⟩
    · rw [lk_out e z] at hQ
      refine mOk.aload0n dX8_look_10 rfl ?_
      refine mOk.iload1n dX8_look_11 rfl ?_
      refine mOk.callV1 (M' := mX5_has) dX8_look_12 ml_X8_234 ke_X5_has (by first | assumption | rfl) (by decide) (by decide) (by simp [Value.category]) (c_has_out hx z ?_)
      refine mOk.ifeq (tgt := 26) dX8_look_15 (by decide) (fun c15 => ?_) (fun c15 => absurd (rfl) c15)
      refine mOk.iconst (x := -1) dX8_look_26 (by decide) ?_
      refine mOk.iret dX8_look_27 rfl hQ
    · rw [lk_in (by omega) hj] at hQ
      refine mOk.aload0n dX8_look_10 rfl ?_
      refine mOk.iload1n dX8_look_11 rfl ?_
      refine mOk.callV1 (M' := mX5_has) dX8_look_12 ml_X8_234 ke_X5_has (by first | assumption | rfl) (by decide) (by decide) (by simp [Value.category]) (c_has_in hx hj ?_)
      refine mOk.ifeq (tgt := 26) dX8_look_15 (by decide) (fun c15 => absurd c15 ((by decide))) (fun c15 => ?_)
      refine mOk.aload0n dX8_look_18 rfl ?_
      refine mOk.iload1n dX8_look_19 rfl ?_
      refine mOk.callV1 (M' := mX5_cell) dX8_look_20 ml_X8_139 ke_X5_cell (by first | assumption | rfl) (by decide) (by decide) (by simp [Value.category]) (c_cell_in hx hj ?_)
      refine mOk.goto (tgt := 27) dX8_look_23 (by decide) ?_
      refine mOk.iret dX8_look_27 rfl hQ
theorem C_at_out {t i : Int32} (ht : t < 0 ∨ nI 4 ≤ t) (hQ : Q (some (.int (-1))) (hS sw I J)) : mCl mX8_at 3 0 0 [.ref 0, .int t, .int i] (hS sw I J) Q := by
  refine mCl.of (by decide) rfl (Nat.le_of_ble_eq_true rfl) ?_
  show mOk _ _ _ _ _ [some (.ref 0), some (.int t), some (.int i), none] _ _ _ _ _
  refine mOk.aload0n dX8_at_0 rfl ?_
  refine mOk.getR dX8_at_1 fl_X8_29 (by first | assumption | rfl) (by first | assumption | rfl) ?_
  refine mOk.iload1n dX8_at_4 rfl ?_
  refine mOk.callV1 (M' := mX0_text) dX8_at_5 ml_X8_131 ke_X0_text (by first | assumption | rfl) (by decide) (by decide) (by simp [Value.category]) (c_text_out b22 ht ?_)
  refine mOk.astoreN3n dX8_at_8 rfl (by decide) rfl ?_
  refine mOk.aloadN3n dX8_at_9 rfl ?_
  refine mOk.ifnonnull_n dX8_at_10 ?_
  refine mOk.iconst (x := -1) dX8_at_13 (by decide) ?_
  refine mOk.goto (tgt := 22) dX8_at_14 (by decide) ?_
  refine mOk.iret dX8_at_22 rfl hQ
theorem C_at_in {t : Nat} {i : Int32} (h : InvC sw I bs T tx pp hs im) (ht : t < 4) (hQ : Q (some (.int (lk (tx t) i))) (hS sw I J)) : mCl mX8_at 3 0 0 [.ref 0, .int (nI t), .int i] (hS sw I J) Q := by
  refine mCl.of (by decide) rfl (Nat.le_of_ble_eq_true rfl) ?_
  show mOk _ _ _ _ _ [some (.ref 0), some (.int (nI t)), some (.int i), none] _ _ _ _ _
  refine mOk.aload0n dX8_at_0 rfl ?_
  refine mOk.getR dX8_at_1 fl_X8_29 (by first | assumption | rfl) (by first | assumption | rfl) ?_
  refine mOk.iload1n dX8_at_4 rfl ?_
  refine mOk.callV1 (M' := mX0_text) dX8_at_5 ml_X8_131 ke_X0_text (by first | assumption | rfl) (by decide) (by decide) (by simp [Value.category]) (c_text_in b22 ht ?_)
  refine mOk.astore3n dX8_at_8 rfl (by decide) rfl ?_
  refine mOk.aload3n dX8_at_9 rfl ?_
  refine mOk.ifnonnull_r (tgt := 17) dX8_at_10 (by decide) ?_
  refine mOk.aload3n dX8_at_17 rfl ?_
  refine mOk.iload2n dX8_at_18 rfl ?_
  refine mOk.callS2 (M' := mX8_look) dX8_at_19 ml_X8_168 ke_X8_look rfl (by decide) (by decide) (by simp [Value.category]) (c_look (h.2.2.2.1.2.1 t ht) ?_)
  refine mOk.iret dX8_at_22 rfl hQ
end ORDER
