/-! ===== Reader: a code, all codes ===== -/
theorem lkup_out {v : Nat} (hv : v < 100000) (h : v ≠ 99 ∧ v ≠ 112 ∧ v ≠ 115 ∧ v ≠ 120) : Op.lookupswitch.offset [(99, 43), (112, 51), (115, 86), (120, 76)] 95 (nI v).toInt = 95 := by
  rw [show (nI v).toInt = (v : Int) from nI_toInt (by omega)]
  have e1 : ¬ ((99 : Int) = (v : Int)) := by omega
  have e2 : ¬ ((112 : Int) = (v : Int)) := by omega
  have e3 : ¬ ((115 : Int) = (v : Int)) := by omega
  have e4 : ¬ ((120 : Int) = (v : Int)) := by omega
  simp [Op.lookupswitch.offset, e1, e2, e3, e4]
theorem tkK4 (bs : List Nat) (p : Nat) : tkK bs p ≤ 4 := by unfold tkK; split <;> (try omega) <;> split <;> (try omega) <;> split <;> (try omega) <;> split <;> omega
section READER3
variable {sw : Bool} {I : Nat → Nat → Int32} {J : Nat → Nat → Int64} {Q : Option Value → mi_H → Prop} {bs : List Nat} {pl sx tk va kd cl fi se : Int32} {cb : Nat} {T : List CR}
theorem c_readCode {p : Nat} (hb : p < bs.length) (hTO : TOk T) (hc : Cd I cb T) (h : Tk I bs p kd cl fi se) (hT : Ty I bs)
    (hQ1 : ∀ q e, phd bs T p = .inr (q, e) → tkK bs (skp bs e) = 3 → ∀ I', Tk I' bs (skp bs e) q.1 q.2.1 q.2.2.1 q.2.2.2 → Ty I' bs → Off [1] I I' → Q (some (.int 1)) (hS sw I' J))
    (hQ0 : ∀ f, pcd bs T p = .inl f → ∀ I' k c a b, Tk I' bs f k c a b → Ty I' bs → Off [1] I I' → Q (some (.int 0)) (hS sw I' J)) : mCl mX4_readCode 5 0 0 [.ref 1, .ref cb] (hS sw I J) Q := by
  obtain ⟨k0, -⟩ := cdK hc.1
  have hl := hc.2.1
  obtain ⟨hp, va, hF, hva⟩ := id h
  have hk4 := tkK4 bs p
  have bad0 : phd bs T p = .inl p → Q (some (.int 0)) (hS sw I J) := fun z => hQ0 p (by unfold pcd; rw [z]) I _ _ _ _ h hT Off.rf
  have bad : ∀ s, phd bs T p = .inl s → ∀ I' k c f g, Tk I' bs s k c f g → Ty I' bs → Off [1] I I' → mOk mX4_readCode 5 0 0 118 [some (.ref 1), some (.ref cb), some (.int 0)] [] (hS sw I' J) 0 0 Q := by
    intro s hs I' k c f g hk hT' ho
    refine mOk.iload2n dX4_readCode_118 rfl ?_
    refine mOk.ifne (tgt := 124) dX4_readCode_119 (by decide) (fun c119 => absurd (rfl) c119) (fun c119 => ?_)
    refine mOk.iconst (x := 0) dX4_readCode_122 (by decide) ?_
    refine mOk.zret dX4_readCode_123 rfl (by decide) ?_
    exact hQ0 s (by unfold pcd; rw [hs]) I' k c f g hk hT' ho
  have good : ∀ q s, phd bs T p = .inr (q, tkE bs s) → ∀ I', Tk I' bs s q.1 q.2.1 q.2.2.1 q.2.2.2 → Ty I' bs → Off [1] I I' → mOk mX4_readCode 5 0 0 118 [some (.ref 1), some (.ref cb), some (.int 1)] [] (hS sw I' J) 0 0 Q := by
    intro q s hs I1 hk hT1 ho1
    obtain ⟨hps, v1, hF1, hv1⟩ := hk
    refine mOk.iload2n dX4_readCode_118 rfl ?_
    refine mOk.ifne (tgt := 124) dX4_readCode_119 (by decide) (fun c119 => ?_) (fun c119 => absurd c119 ((by decide)))
    refine mOk.aload0n dX4_readCode_124 rfl ?_
    refine mOk.callV0 (M' := mX4_step) dX4_readCode_125 ml_X4_29 ke_X4_step (by first | assumption | rfl) (by decide) (by decide) (by simp [Value.category]) (c_step (tkE_le hps) hF1 hT1 ?_)
    intro I2 hk2 hT2 ho2
    have hk42 := tkK4 bs (skp bs (tkE bs s))
    obtain ⟨hp2, v2, hF2, hv2⟩ := id hk2
    refine mOk.aload0n dX4_readCode_128 rfl ?_
    refine mOk.getIv dX4_readCode_129 fl_X4_32 (by first | assumption | rfl) hF2.tk ?_
    refine mOk.iconst (x := nI 3) dX4_readCode_132 (by decide) ?_
    refine mOk.icne (tgt := 140) dX4_readCode_133 (by decide) (fun c133 => ?_) (fun c133 => ?_)
    · refine mOk.iconst (x := 0) dX4_readCode_140 (by decide) ?_
      refine mOk.zret dX4_readCode_141 rfl (by decide) ?_
      exact hQ0 (skp bs (tkE bs s)) (by unfold pcd; rw [hs]; exact if_neg (fun z => c133 (by rw [z]))) I2 _ _ _ _ hk2 hT2 (ho1.tr ho2)
    · have e3 := (nI_eq' (by omega) (by omega)).mp c133
      refine mOk.iconst (x := 1) dX4_readCode_136 (by decide) ?_
      refine mOk.goto (tgt := 141) dX4_readCode_137 (by decide) ?_
      refine mOk.zret dX4_readCode_141 rfl (by decide) ?_
      exact hQ1 q (tkE bs s) hs e3 I2 hk2 hT2 (ho1.tr ho2)
  refine mCl.of (by decide) rfl (Nat.le_of_ble_eq_true rfl) ?_
  show mOk _ _ _ _ _ [some (.ref 1), some (.ref cb), none] _ _ _ _ _
  refine mOk.aload0n dX4_readCode_0 rfl ?_
  refine mOk.getIv dX4_readCode_1 fl_X4_32 (by first | assumption | rfl) hF.tk ?_
  refine mOk.iconst (x := nI 1) dX4_readCode_4 (by decide) ?_
  refine mOk.icne (tgt := 15) dX4_readCode_5 (by decide) (fun c5 => ?_) (fun c5 => ?_)
  · refine mOk.iconst (x := 0) dX4_readCode_15 (by decide) ?_
    refine mOk.zret dX4_readCode_16 rfl (by decide) ?_
    exact bad0 (by unfold phd; rw [if_neg (fun z => c5 (by rw [z.1]))])
  · have hk1 := (nI_eq' (by omega) (by omega)).mp c5
    have hv := hva (Or.inl hk1)
    subst hv
    have hlet : isL (bs.getD p 0) = true := by
      unfold tkK at hk1
      split at hk1
      · omega
      · split at hk1
        · next z => exact z
        · split at hk1 <;> (try omega) <;> split at hk1 <;> omega
    have hv256 : tkV bs p < 256 := by
      have := hT.lt hb
      unfold tkV
      rw [if_pos hlet]
      split <;> omega
    refine mOk.aload1n dX4_readCode_8 rfl ?_
    refine mOk.callV0 (M' := mX1_isFull) dX4_readCode_9 ml_X4_58 ke_X1_isFull (by first | assumption | rfl) (by decide) (by decide) (by simp [Value.category]) (c_isFull hc ?_)
    by_cases hfull : T.length < 24
    · rw [if_pos hfull]
      have hph : tkK bs p = 1 ∧ T.length < 24 := ⟨hk1, hfull⟩
      refine mOk.ifeq (tgt := 17) dX4_readCode_12 (by decide) (fun c12 => ?_) (fun c12 => absurd (rfl) c12)
      refine mOk.aload0n dX4_readCode_17 rfl ?_
      refine mOk.getIv dX4_readCode_18 fl_X4_62 (by first | assumption | rfl) hF.va ?_
      by_cases z1 : tkV bs p = 99
      · rw [z1]
        refine mOk.lookup (off := 43) (tgt := 64) dX4_readCode_21 (by decide) (by decide) (by decide) ?_
        refine mOk.aload0n dX4_readCode_64 rfl ?_
        refine mOk.callV0 (M' := mX4_readPlain) dX4_readCode_65 ml_X4_65 ke_X4_readPlain (by first | assumption | rfl) (by decide) (by decide) (by simp [Value.category]) (c_readPlain (tkE_le hp) hF hT (fun hy I1 hk1 hT1 ho1 => ?_) (fun hn I1 k c f g hk1 hT1 ho1 => ?_))
        · refine mOk.istore2n dX4_readCode_68 rfl (by decide) rfl ?_
          refine mOk.goto (tgt := 118) dX4_readCode_69 (by decide) ?_
          exact good (0, nI (tkV bs (skp bs (tkE bs p))), -9, -9) (skp bs (tkE bs p)) (by unfold phd; rw [if_pos hph, if_pos z1, if_pos hy]) I1 hk1 hT1 ho1
        · refine mOk.istore2n dX4_readCode_68 rfl (by decide) rfl ?_
          refine mOk.goto (tgt := 118) dX4_readCode_69 (by decide) ?_
          exact bad (skp bs (tkE bs p)) (by unfold phd; rw [if_pos hph, if_pos z1, if_neg hn]) I1 _ _ _ _ hk1 hT1 ho1
      · by_cases z2 : tkV bs p = 112
        · rw [z2]
          refine mOk.lookup (off := 51) (tgt := 72) dX4_readCode_21 (by decide) (by decide) (by decide) ?_
          refine mOk.aload1n dX4_readCode_72 rfl ?_
          refine mOk.callV0 (M' := mX1_hasRoomForPair) dX4_readCode_73 ml_X4_68 ke_X1_hasRoomForPair (by first | assumption | rfl) (by decide) (by decide) (by simp [Value.category]) (c_hasRoom hc ?_)
          by_cases z7 : (prs T).length < 7
          · rw [if_pos z7]
            refine mOk.ifeq (tgt := 92) dX4_readCode_76 (by decide) (fun c76 => absurd c76 ((by decide))) (fun c76 => ?_)
            refine mOk.aload0n dX4_readCode_79 rfl ?_
            refine mOk.aload1n dX4_readCode_80 rfl ?_
            refine mOk.iconst (x := 1) dX4_readCode_81 (by decide) ?_
            refine mOk.callV2 (M' := mX4_readTwo) dX4_readCode_82 ml_X4_71 ke_X4_readTwo (by first | assumption | rfl) (by decide) (by decide) (by simp [Value.category]) (c_readTwo (tkE_le hp) hTO hc hF hT (fun q s hq I1 hk1 hT1 ho1 => ?_) (fun s hs I1 k c f g hk1 hT1 ho1 => ?_))
            · refine mOk.ifeq (tgt := 92) dX4_readCode_85 (by decide) (fun c85 => absurd c85 ((by decide))) (fun c85 => ?_)
              refine mOk.iconst (x := 1) dX4_readCode_88 (by decide) ?_
              refine mOk.goto (tgt := 93) dX4_readCode_89 (by decide) ?_
              refine mOk.istore2n dX4_readCode_93 rfl (by decide) rfl ?_
              refine mOk.goto (tgt := 118) dX4_readCode_94 (by decide) ?_
              exact good q s (by unfold phd; rw [if_pos hph, if_neg z1, if_pos z2, if_pos z7]; exact hq) I1 hk1 hT1 ho1
            · refine mOk.ifeq (tgt := 92) dX4_readCode_85 (by decide) (fun c85 => ?_) (fun c85 => absurd (rfl) c85)
              refine mOk.iconst (x := 0) dX4_readCode_92 (by decide) ?_
              refine mOk.istore2n dX4_readCode_93 rfl (by decide) rfl ?_
              refine mOk.goto (tgt := 118) dX4_readCode_94 (by decide) ?_
              exact bad s (by unfold phd; rw [if_pos hph, if_neg z1, if_pos z2, if_pos z7]; exact hs) I1 _ _ _ _ hk1 hT1 ho1
          · rw [if_neg z7]
            refine mOk.ifeq (tgt := 92) dX4_readCode_76 (by decide) (fun c76 => ?_) (fun c76 => absurd (rfl) c76)
            refine mOk.iconst (x := 0) dX4_readCode_92 (by decide) ?_
            refine mOk.istore2n dX4_readCode_93 rfl (by decide) rfl ?_
            refine mOk.goto (tgt := 118) dX4_readCode_94 (by decide) ?_
            exact bad p (by unfold phd; rw [if_pos hph, if_neg z1, if_pos z2, if_neg z7]) I _ _ _ _ h hT Off.rf
        · by_cases z3 : tkV bs p = 115
          · rw [z3]
            refine mOk.lookup (off := 86) (tgt := 107) dX4_readCode_21 (by decide) (by decide) (by decide) ?_
            refine mOk.aload0n dX4_readCode_107 rfl ?_
            refine mOk.aload1n dX4_readCode_108 rfl ?_
            refine mOk.callV1 (M' := mX4_readSingle) dX4_readCode_109 ml_X4_75 ke_X4_readSingle (by first | assumption | rfl) (by decide) (by decide) (by simp [Value.category]) (c_readSingle (tkE_le hp) hc hF hT (fun hy I1 hk1 hT1 ho1 => ?_) (fun hn I1 k c f g hk1 hT1 ho1 => ?_))
            · refine mOk.istore2n dX4_readCode_112 rfl (by decide) rfl ?_
              refine mOk.goto (tgt := 118) dX4_readCode_113 (by decide) ?_
              exact good (3, tC T (nI (tkV bs (skp bs (tkE bs p)))), nI (tkV bs (skp bs (tkE bs p))), -9) (skp bs (tkE bs p)) (by unfold phd; rw [if_pos hph, if_neg z1, if_neg z2, if_pos z3, if_pos hy]) I1 hk1 hT1 ho1
            · refine mOk.istore2n dX4_readCode_112 rfl (by decide) rfl ?_
              refine mOk.goto (tgt := 118) dX4_readCode_113 (by decide) ?_
              exact bad (skp bs (tkE bs p)) (by unfold phd; rw [if_pos hph, if_neg z1, if_neg z2, if_pos z3, if_neg hn]) I1 _ _ _ _ hk1 hT1 ho1
          · by_cases z4 : tkV bs p = 120
            · rw [z4]
              refine mOk.lookup (off := 76) (tgt := 97) dX4_readCode_21 (by decide) (by decide) (by decide) ?_
              refine mOk.aload0n dX4_readCode_97 rfl ?_
              refine mOk.aload1n dX4_readCode_98 rfl ?_
              refine mOk.iconst (x := 2) dX4_readCode_99 (by decide) ?_
              refine mOk.callV2 (M' := mX4_readTwo) dX4_readCode_100 ml_X4_71 ke_X4_readTwo (by first | assumption | rfl) (by decide) (by decide) (by simp [Value.category]) (c_readTwo (tkE_le hp) hTO hc hF hT (fun q s hq I1 hk1 hT1 ho1 => ?_) (fun s hs I1 k c f g hk1 hT1 ho1 => ?_))
              · refine mOk.istore2n dX4_readCode_103 rfl (by decide) rfl ?_
                refine mOk.goto (tgt := 118) dX4_readCode_104 (by decide) ?_
                exact good q s (by unfold phd; rw [if_pos hph, if_neg z1, if_neg z2, if_neg z3, if_pos z4]; exact hq) I1 hk1 hT1 ho1
              · refine mOk.istore2n dX4_readCode_103 rfl (by decide) rfl ?_
                refine mOk.goto (tgt := 118) dX4_readCode_104 (by decide) ?_
                exact bad s (by unfold phd; rw [if_pos hph, if_neg z1, if_neg z2, if_neg z3, if_pos z4]; exact hs) I1 _ _ _ _ hk1 hT1 ho1
            · refine mOk.lookup (off := 95) (tgt := 116) dX4_readCode_21 (by decide) (lkup_out (by omega) ⟨z1, z2, z3, z4⟩) (by decide) ?_
              refine mOk.iconst (x := 0) dX4_readCode_116 (by decide) ?_
              refine mOk.istore2n dX4_readCode_117 rfl (by decide) rfl ?_
              exact bad p (by unfold phd; rw [if_pos hph, if_neg z1, if_neg z2, if_neg z3, if_neg z4]) I _ _ _ _ h hT Off.rf
    · rw [if_neg hfull]
      refine mOk.ifeq (tgt := 17) dX4_readCode_12 (by decide) (fun c12 => absurd c12 ((by decide))) (fun c12 => ?_)
      refine mOk.iconst (x := 0) dX4_readCode_15 (by decide) ?_
      refine mOk.zret dX4_readCode_16 rfl (by decide) ?_
      exact bad0 (by unfold phd; rw [if_neg (fun z => hfull z.2)])
theorem tkK0 {bs : List Nat} {p : Nat} : tkK bs p = 0 ↔ bs.length ≤ p := by
  unfold tkK
  constructor
  · intro h
    split at h
    · next z => exact z
    · exfalso
      split at h <;> (try omega) <;> split at h <;> (try omega) <;> split at h <;> omega
  · intro h
    rw [if_pos h]
theorem l_readInto {I0 : Nat → Nat → Int32} {T0 : List CR} (hQ1 : ∀ T, pall bs 25 T0 0 = .inr T → ∀ I', Cd I' cb T → TOk T → Ty I' bs → Off (1 :: cS cb) I0 I' → Q (some (.int (-1))) (hS sw I' J))
    (hQ0 : ∀ f, pall bs 25 T0 0 = .inl f → ∀ I' T, Cd I' cb T → Ty I' bs → Off (1 :: cS cb) I0 I' → f ≤ bs.length → Q (some (.int (nI f))) (hS sw I' J)) :
    ∀ (m j p : Nat) (T : List CR) (I : Nat → Nat → Int32) (pl0 sx0 tk0 va0 kd0 cl0 fi0 se0 : Int32), j + m = 25 → T.length = j → p ≤ bs.length → pall bs 25 T0 0 = pall bs m T p → TOk T → Cd I cb T → Fl I (nI p) sx0 tk0 va0 kd0 cl0 fi0 se0 → Ty I bs → Off (1 :: cS cb) I0 I → mOk mX4_readInto 6 0 0 11 [some (.ref 1), some (.ref cb), some (.int (nI j))] [] (hS sw I J) 0 0 Q := by
  intro m
  induction m with
  | zero =>
    intro j p T I pl0 sx0 tk0 va0 kd0 cl0 fi0 se0 hj hTj hp hpall hTO hc hF hT ho
    have := hTO.1
    omega
  | succ m ih =>
    intro j p T I pl0 sx0 tk0 va0 kd0 cl0 fi0 se0 hj hTj hp hpall hTO hc hF hT ho
    obtain ⟨k0, -⟩ := cdK hc.1
    have h1n : (1 : Nat) ∉ cS cb := by rcases hc.1 with rfl | rfl <;> decide
    have h2n : (2 : Nat) ∉ cS cb := by rcases hc.1 with rfl | rfl <;> decide
    have h3n : (3 : Nat) ∉ cS cb := by rcases hc.1 with rfl | rfl <;> decide
    refine mOk.iload2n dX4_readInto_11 rfl ?_
    refine mOk.bipush (x := nI 24) dX4_readInto_12 (by decide) ?_
    refine mOk.icgt (tgt := 69) dX4_readInto_14 (by decide) (fun c14 => absurd c14 (mt (nI_lt' (by omega) (by omega)).mp (by omega))) (fun c14 => ?_)
    refine mOk.aload0n dX4_readInto_17 rfl ?_
    refine mOk.callV0 (M' := mX4_step) dX4_readInto_18 ml_X4_29 ke_X4_step (by first | assumption | rfl) (by decide) (by decide) (by simp [Value.category]) (c_step hp hF hT ?_)
    intro I1 hk1 hT1 ho1
    obtain ⟨hp1, va1, hF1, hv1⟩ := id hk1
    have hk4 := tkK4 bs (skp bs p)
    have hc1 := hc.off ho1 (cS_1 hc.1)
    have up1 : ∀ {I I' : Nat → Nat → Int32}, Off [1] I I' → Off (1 :: cS cb) I I' := fun z => z.up (fun a ha => by simp at ha; simp [ha])
    have up2 : ∀ {I I' : Nat → Nat → Int32}, Off (cS cb) I I' → Off (1 :: cS cb) I I' := fun z => z.up (fun a ha => List.mem_cons_of_mem _ ha)
    by_cases z0 : bs.length ≤ skp bs p
    · refine mOk.aload0n dX4_readInto_21 rfl ?_
      refine mOk.getIv dX4_readInto_22 fl_X4_32 (by first | assumption | rfl) (hF1.tk.trans (congrArg nI (tkK0.mpr z0))) ?_
      refine mOk.ifne (tgt := 30) dX4_readInto_25 (by decide) (fun c25 => absurd (rfl) c25) (fun c25 => ?_)
      refine mOk.iconst (x := -1) dX4_readInto_28 (by decide) ?_
      refine mOk.iret dX4_readInto_29 rfl ?_
      exact hQ1 T (by rw [hpall, pall, if_pos z0]) I1 hc1 hTO hT1 (ho.tr (up1 ho1))
    · have hk0 : tkK bs (skp bs p) ≠ 0 := fun z => z0 (tkK0.mp z)
      refine mOk.aload0n dX4_readInto_21 rfl ?_
      refine mOk.getIv dX4_readInto_22 fl_X4_32 (by first | assumption | rfl) hF1.tk ?_
      refine mOk.ifne (tgt := 30) dX4_readInto_25 (by decide) (fun c25 => ?_) (fun c25 => absurd c25 (fun z => hk0 ((nI_eq' (by omega) (by omega)).mp z)))
      refine mOk.aload0n dX4_readInto_30 rfl ?_
      refine mOk.aload1n dX4_readInto_31 rfl ?_
      refine mOk.callV1 (M' := mX4_readCode) dX4_readInto_32 ml_X4_35 ke_X4_readCode (by first | assumption | rfl) (by decide) (by decide) (by simp [Value.category]) (c_readCode (by omega) hTO hc1 hk1 hT1 (fun q e hq hq3 I2 hk2 hT2 ho2 => ?_) (fun f hf I2 k c a b hk2 hT2 ho2 => ?_))
      · obtain ⟨hokR, hl24⟩ := phd_ok hTO hq
        have hpc : pcd bs T (skp bs p) = .inr (addQ T q, tkE bs (skp bs e)) := by unfold pcd; rw [hq]; exact if_pos hq3
        obtain ⟨hp2, va2, hF2, hv2⟩ := id hk2
        have hc2 := hc1.off ho2 (cS_1 hc.1)
        refine mOk.ifne (tgt := 43) dX4_readInto_35 (by decide) (fun c35 => ?_) (fun c35 => absurd c35 ((by decide)))
        refine mOk.aload1n dX4_readInto_43 rfl ?_
        refine mOk.aload0n dX4_readInto_44 rfl ?_
        refine mOk.getIv dX4_readInto_45 fl_X4_42 (by first | assumption | rfl) hF2.kd ?_
        refine mOk.aload0n dX4_readInto_48 rfl ?_
        refine mOk.getIv dX4_readInto_49 fl_X4_45 (by first | assumption | rfl) hF2.cl ?_
        refine mOk.aload0n dX4_readInto_52 rfl ?_
        refine mOk.getIv dX4_readInto_53 fl_X4_48 (by first | assumption | rfl) hF2.fi ?_
        refine mOk.aload0n dX4_readInto_56 rfl ?_
        refine mOk.getIv dX4_readInto_57 fl_X4_51 (by first | assumption | rfl) hF2.se ?_
        refine mOk.callV4 (M' := mX1_add) dX4_readInto_60 ml_X4_54 ke_X1_add (by first | assumption | rfl) (by decide) (by decide) (by simp [Value.category]) (c_add hc2 hl24 (okR_le4 hTO hl24 hokR) (fun z => okR_7 hokR z) ?_)
        intro I3 hc3 ho3
        refine mOk.iinc2 dX4_readInto_63 (mOk.inc1 rfl) (by decide) rfl ?_
        refine mOk.goto (tgt := 11) dX4_readInto_66 (by decide) ?_
        exact ih (j + 1) (tkE bs (skp bs e)) (T ++ [addQ T q]) I3 pl0 _ _ _ _ _ _ _ (by omega) (by simp; omega) (tkE_le hp2) (by rw [hpall, pall, if_neg z0, hpc]) (hTO.app hl24 hokR) hc3 (hF2.off ho3 h1n) (hT2.off ho3 h2n h3n) (ho.tr (((up1 ho1).tr (up1 ho2)).tr (up2 ho3)))
      · obtain ⟨hp2, va2, hF2, hv2⟩ := id hk2
        refine mOk.ifne (tgt := 43) dX4_readInto_35 (by decide) (fun c35 => absurd (rfl) c35) (fun c35 => ?_)
        refine mOk.aload0n dX4_readInto_38 rfl ?_
        refine mOk.getIv dX4_readInto_39 fl_X4_39 (by first | assumption | rfl) hF2.sx ?_
        refine mOk.iret dX4_readInto_42 rfl ?_
        exact hQ0 f (by rw [hpall, pall, if_neg z0, hf]) I2 T (hc1.off ho2 (cS_1 hc.1)) hT2 (ho.tr ((up1 ho1).tr (up1 ho2))) hp2
theorem Fl.ex (I : Nat → Nat → Int32) : Fl I (I 1 1) (I 1 2) (I 1 3) (I 1 4) (I 1 5) (I 1 6) (I 1 7) (I 1 8) := ⟨rfl, rfl, rfl, rfl, rfl, rfl, rfl, rfl⟩
theorem c_readInto (hc : Cd I cb T) (hT : Ty I bs)
    (hQ1 : ∀ T, pall bs 25 [] 0 = .inr T → ∀ I', Cd I' cb T → TOk T → Ty I' bs → Off (1 :: cS cb) I I' → Q (some (.int (-1))) (hS sw I' J))
    (hQ0 : ∀ f, pall bs 25 [] 0 = .inl f → ∀ I' T, Cd I' cb T → Ty I' bs → Off (1 :: cS cb) I I' → f ≤ bs.length → Q (some (.int (nI f))) (hS sw I' J)) : mCl mX4_readInto 6 0 0 [.ref 1, .ref cb] (hS sw I J) Q := by
  obtain ⟨k0, -⟩ := cdK hc.1
  have h1n : (1 : Nat) ∉ cS cb := by rcases hc.1 with rfl | rfl <;> decide
  have h2n : (2 : Nat) ∉ cS cb := by rcases hc.1 with rfl | rfl <;> decide
  have h3n : (3 : Nat) ∉ cS cb := by rcases hc.1 with rfl | rfl <;> decide
  refine mCl.of (by decide) rfl (Nat.le_of_ble_eq_true rfl) ?_
  show mOk _ _ _ _ _ [some (.ref 1), some (.ref cb), none] _ _ _ _ _
  refine mOk.aload1n dX4_readInto_0 rfl ?_
  refine mOk.callV0 (M' := mX1_empty) dX4_readInto_1 ml_X4_20 ke_X1_empty (by first | assumption | rfl) (by decide) (by decide) (by simp [Value.category]) (c_cempty hc ?_)
  intro I1 hc1 ho1
  refine mOk.aload0n dX4_readInto_4 rfl ?_
  refine mOk.iconst (x := nI 0) dX4_readInto_5 (by decide) ?_
  refine mOk.putIt dX4_readInto_6 fl_X4_25 (by first | assumption | rfl) ?_
  have o2 : Off [1] I1 (wI I1 1 1 (nI 0)) := Off.w (by simp)
  refine mOk.iconst (x := nI 0) dX4_readInto_9 (by decide) ?_
  refine mOk.istore2n dX4_readInto_10 rfl (by decide) rfl ?_
  refine l_readInto (bs := bs) (T0 := []) (I0 := I) hQ1 hQ0 25 0 0 [] _ 0 _ _ _ _ _ _ _ rfl rfl (Nat.zero_le _) rfl TOk.nil (hc1.off o2 (cS_1 hc.1)) (Fl.ex I1).w_pl ((hT.off ho1 h2n h3n).off o2 (by decide) (by decide)) ((ho1.up (fun a ha => List.mem_cons_of_mem _ ha)).tr (o2.up (fun a ha => by simp at ha; simp [ha])))
end READER3
