/-! ===== the reference: all tables; those that were ===== -/
theorem prs_cnt : ∀ (n : Nat) (T : List CR), T.length = n → (prs T).length = cntK T 1 := by
  intro n
  induction n with
  | zero =>
    intro T hn
    rw [List.length_eq_zero_iff.mp hn]
    rfl
  | succ n ih =>
    intro T hn
    rcases List.eq_nil_or_concat T with rfl | ⟨T', q, rfl⟩
    · simp at hn
    · rw [List.concat_eq_append] at hn ⊢
      rw [prs_app, List.length_append, ih T' (by simpa using hn)]
      unfold cntK
      rw [List.countP_append, List.countP_singleton]
      by_cases z : q.1 = 1 <;> simp [z]
theorem runL_1 {bs : List Nat} {p : Nat} (hp : p < bs.length) (h : isL (bs.getD p 0) = true) : runL bs p = runL bs (p + 1) + 1 := by
  have := lead_drop (f := isL) (bs := bs) (k := p) hp
  rw [if_pos h] at this
  exact this
theorem runL_0 {bs : List Nat} {p : Nat} : runL bs p = 0 ↔ (bs.length ≤ p ∨ ¬ isL (bs.getD p 0) = true) := by
  unfold runL
  rcases Nat.lt_or_ge p bs.length with z | z
  · have := lead_drop (f := isL) (bs := bs) (k := p) z
    by_cases w : isL (bs.getD p 0) = true
    · rw [if_pos w] at this
      rw [this]
      constructor
      · intro x; omega
      · rintro (x | x)
        · omega
        · exact absurd w x
    · rw [if_neg w] at this
      rw [this]
      exact ⟨fun _ => Or.inr w, fun _ => rfl⟩
  · rw [lead_end z]
    exact ⟨fun _ => Or.inl z, fun _ => rfl⟩
section MODEL5
variable {sw : Bool} {I : Nat → Nat → Int32} {J : Nat → Nat → Int64} {Q : Option Value → mi_H → Prop} {T : List CR} {bs : List Nat} {p : Nat}
/-- a letter that stands alone -/
theorem phd_alone (hp : p < bs.length) (hL : isL (bs.getD p 0) = true) (ha : runL bs (p + 1) = 0) : tkK bs p = 1 ∧ tkV bs p = bs.getD p 0 ∧ tkE bs p = p + 1 := by
  have h1 := runL_1 hp hL
  rw [ha] at h1
  refine ⟨?_, ?_, ?_⟩
  · unfold tkK
    rw [if_neg (by omega), if_pos hL]
  · unfold tkV
    rw [if_pos hL, if_neg (by omega)]
  · unfold tkE
    rw [if_neg (by omega), if_pos hL, h1]
theorem phd_not (hp : p < bs.length) (h : ¬ (isL (bs.getD p 0) = true ∧ runL bs (p + 1) = 0)) : phd bs T p = .inl p := by
  unfold phd
  by_cases hL : isL (bs.getD p 0) = true
  · have h1 := runL_1 hp hL
    have hv : tkV bs p = 0 := by
      unfold tkV
      rw [if_pos hL, if_pos (by have h3 : ¬ runL bs (p + 1) = 0 := fun z => h ⟨hL, z⟩; omega)]
    rw [hv]
    split
    · rw [if_neg (by decide), if_neg (by decide), if_neg (by decide), if_neg (by decide)]
    · rfl
  · rw [if_neg]
    rintro ⟨z, -⟩
    unfold tkK at z
    rw [if_neg (by omega), if_neg hL] at z
    split at z
    · split at z <;> omega
    · split at z <;> omega
theorem c_readsCode (hT : MT I bs) (hM : Md I T) (hTO : TOk T) (hp : I 97 9 = nI p) (hpl : p < bs.length) (hR : RdQ sw J I bs T (phd bs T p) Q) : mCl mX9_readsCode 4 0 0 [.ref 97] (hS sw I J) Q := by
  have hb := hT.2.1
  have hl := hM.1
  have hlt := hT.lt hpl
  have hcn := prs_cnt _ T rfl
  have hck := cntK_le T 1
  have bad : ∀ (l1 l2 l3 : Option Value), phd bs T p = .inl p → mOk mX9_readsCode 4 0 0 102 [some (.ref 97), l1, l2, l3] [] (hS sw I J) 0 0 Q := by
    intro l1 l2 l3 z
    rw [z] at hR
    refine mOk.iconst (x := 0) dX9_readsCode_102 (by decide) ?_
    refine mOk.zret dX9_readsCode_103 rfl (by decide) ?_
    exact hR.2 _ rfl I hp (by omega) Of.rf
  have rest : ∀ (al : Bool), (al = true ↔ runL bs (p + 1) = 0) → mOk mX9_readsCode 4 0 0 45 [some (.ref 97), some (.int (nI (bs.getD p 0))), some (.int (if al then 1 else 0)), none] [] (hS sw I J) 0 0 Q := by
    intro al hal
    have tail : ∀ (is : Bool), (is = true ↔ (bs.getD p 0 = 99 ∨ bs.getD p 0 = 120 ∨ bs.getD p 0 = 115 ∨ (bs.getD p 0 = 112 ∧ (prs T).length < 7))) → mOk mX9_readsCode 4 0 0 84 [some (.ref 97), some (.int (nI (bs.getD p 0))), some (.int (if al then 1 else 0)), none] [.int (if is then 1 else 0)] (hS sw I J) 0 0 Q := by
      intro is his
      cases al with
      | false =>
        have hn : ¬ runL bs (p + 1) = 0 := fun z => by simpa using hal.mpr z
        refine mOk.istore3n dX9_readsCode_84 rfl (by decide) rfl ?_
        refine mOk.iload2n dX9_readsCode_85 rfl ?_
        refine mOk.ifeq (tgt := 102) dX9_readsCode_86 (by decide) (fun c86 => ?_) (fun c86 => absurd (rfl) c86)
        exact bad _ _ _ (phd_not hpl (fun z => hn z.2))
      | true =>
        have ha : runL bs (p + 1) = 0 := hal.mp rfl
        refine mOk.istore3n dX9_readsCode_84 rfl (by decide) rfl ?_
        refine mOk.iload2n dX9_readsCode_85 rfl ?_
        refine mOk.ifeq (tgt := 102) dX9_readsCode_86 (by decide) (fun c86 => absurd c86 ((by decide))) (fun c86 => ?_)
        cases is with
        | false =>
          have hn := fun z => (by simpa using his.mpr z : False)
          refine mOk.iload3n dX9_readsCode_89 rfl ?_
          refine mOk.ifeq (tgt := 102) dX9_readsCode_90 (by decide) (fun c90 => ?_) (fun c90 => absurd (rfl) c90)
          refine bad _ _ _ ?_
          by_cases hL : isL (bs.getD p 0) = true
          · obtain ⟨e1, e2, e3⟩ := phd_alone hpl hL ha
            unfold phd
            rw [e2]
            split
            · rw [if_neg (fun z => hn (Or.inl z))]
              split
              · next z =>
                rw [if_neg (fun w => hn (Or.inr (Or.inr (Or.inr ⟨z, w⟩))))]
              · rw [if_neg (fun z => hn (Or.inr (Or.inr (Or.inl z)))), if_neg (fun z => hn (Or.inr (Or.inl z)))]
            · rfl
          · exact phd_not hpl (fun z => hL z.1)
        | true =>
          have hy := his.mp rfl
          have hL : isL (bs.getD p 0) = true := by
            rw [isL_iff]
            omega
          obtain ⟨e1, e2, e3⟩ := phd_alone hpl hL ha
          refine mOk.iload3n dX9_readsCode_89 rfl ?_
          refine mOk.ifeq (tgt := 102) dX9_readsCode_90 (by decide) (fun c90 => absurd c90 ((by decide))) (fun c90 => ?_)
          by_cases h24 : T.length = 24
          · refine mOk.aload0n dX9_readsCode_93 rfl ?_
            refine mOk.getIv dX9_readsCode_94 fl_X9_62 (by first | assumption | rfl) hM.2.1 ?_
            refine mOk.bipush (x := nI 24) dX9_readsCode_97 (by decide) ?_
            refine mOk.icne (tgt := 104) dX9_readsCode_99 (by decide) (fun c99 => absurd ((by rw [h24])) c99) (fun c99 => ?_)
            exact bad _ _ _ (by unfold phd; rw [if_neg (fun z => by omega)])
          · have hph : tkK bs p = 1 ∧ T.length < 24 := ⟨e1, by omega⟩
            refine mOk.aload0n dX9_readsCode_93 rfl ?_
            refine mOk.getIv dX9_readsCode_94 fl_X9_62 (by first | assumption | rfl) hM.2.1 ?_
            refine mOk.bipush (x := nI 24) dX9_readsCode_97 (by decide) ?_
            refine mOk.icne (tgt := 104) dX9_readsCode_99 (by decide) (fun c99 => ?_) (fun c99 => absurd c99 (mt (nI_eq' (by omega) (by omega)).mp h24))
            refine mOk.aload0n dX9_readsCode_104 rfl ?_
            refine mOk.dup dX9_readsCode_105 rfl ?_
            refine mOk.getIv dX9_readsCode_106 fl_X9_85 (by first | assumption | rfl) hp ?_
            refine mOk.iconst (x := nI 1) dX9_readsCode_109 (by decide) ?_
            refine mOk.iadd dX9_readsCode_110 ?_
            refine mOk.top ((nI_add _ _)) ?_
            refine mOk.putIt dX9_readsCode_111 fl_X9_85 (by first | assumption | rfl) ?_
            have o1 : Of [0, 9, 10] MS I (wI I 97 9 (nI (p + 1))) := Of.f (by decide)
            have hT1 := hT.of o1 (by decide) (by decide)
            have hM1 : Md (wI I 97 9 (nI (p + 1))) T := hM.of (F := [9]) (S := []) (Of.f (by decide)) (by decide) (by decide)
            have hp1 : wI I 97 9 (nI (p + 1)) 97 9 = nI (p + 1) := wI_s _ _ _ _
            have fin1 : ∀ q e, fin' bs T (phd bs T p) = .inr (q, e) → ∀ I', Md I' (T ++ [q]) → I' 97 9 = nI e → e ≤ bs.length → Of [0, 9, 10] MS (wI I 97 9 (nI (p + 1))) I' → mOk mX9_readsCode 4 0 0 155 [some (.ref 97), some (.int (nI (bs.getD p 0))), some (.int 1), some (.int 1)] [.int 1] (hS sw I' J) 0 0 Q := by
              intro q e h I' a b c d
              refine mOk.zret dX9_readsCode_155 rfl (by decide) ?_
              exact hR.1 q e h I' a b c (o1.tr d)
            have fin0 : ∀ f, fin' bs T (phd bs T p) = .inl f → ∀ I', I' 97 9 = nI f → f ≤ bs.length → Of [0, 9, 10] MS (wI I 97 9 (nI (p + 1))) I' → mOk mX9_readsCode 4 0 0 155 [some (.ref 97), some (.int (nI (bs.getD p 0))), some (.int 1), some (.int 1)] [.int 0] (hS sw I' J) 0 0 Q := by
              intro f h I' a b c
              refine mOk.zret dX9_readsCode_155 rfl (by decide) ?_
              exact hR.2 f h I' a b (o1.tr c)
            by_cases z1 : bs.getD p 0 = 99
            · have ep : phd bs T p = plO bs (p + 1) := by
                unfold phd
                rw [if_pos hph, e2, if_pos z1, e3]
                rfl
              refine mOk.iload1n dX9_readsCode_114 rfl ?_
              refine mOk.bipush (x := nI 99) dX9_readsCode_115 (by decide) ?_
              refine mOk.icne (tgt := 127) dX9_readsCode_117 (by decide) (fun c117 => absurd ((by rw [z1])) c117) (fun c117 => ?_)
              refine mOk.aload0n dX9_readsCode_120 rfl ?_
              refine mOk.callV0 (M' := mX9_readsPlain) dX9_readsCode_121 ml_X9_120 ke_X9_readsPlain (by first | assumption | rfl) (by decide) (by decide) (by simp [Value.category]) (c_readsPlain hT1 hM1 hTO hph.2 hp1 hpl ⟨fun q e h I' a b c d => ?_, fun f h I' a b c => ?_⟩)
              · refine mOk.goto (tgt := 155) dX9_readsCode_124 (by decide) ?_
                exact fin1 q e (by rw [ep]; exact h) I' a b c d
              · refine mOk.goto (tgt := 155) dX9_readsCode_124 (by decide) ?_
                exact fin0 f (by rw [ep]; exact h) I' a b c
            · refine mOk.iload1n dX9_readsCode_114 rfl ?_
              refine mOk.bipush (x := nI 99) dX9_readsCode_115 (by decide) ?_
              refine mOk.icne (tgt := 127) dX9_readsCode_117 (by decide) (fun c117 => ?_) (fun c117 => absurd c117 (mt (nI_eq' (by omega) (by omega)).mp z1))
              by_cases z2 : bs.getD p 0 = 115
              · have ep : phd bs T p = sgO bs T (p + 1) := by
                  unfold phd
                  rw [if_pos hph, e2, if_neg z1, if_neg (by omega), if_pos z2, e3]
                  rfl
                refine mOk.iload1n dX9_readsCode_127 rfl ?_
                refine mOk.bipush (x := nI 115) dX9_readsCode_128 (by decide) ?_
                refine mOk.icne (tgt := 140) dX9_readsCode_130 (by decide) (fun c130 => absurd ((by rw [z2])) c130) (fun c130 => ?_)
                refine mOk.aload0n dX9_readsCode_133 rfl ?_
                refine mOk.callV0 (M' := mX9_readsSingle) dX9_readsCode_134 ml_X9_123 ke_X9_readsSingle (by first | assumption | rfl) (by decide) (by decide) (by simp [Value.category]) (c_readsSingle hT1 hM1 hTO hph.2 hp1 hpl ⟨fun q e h I' a b c d => ?_, fun f h I' a b c => ?_⟩)
                · refine mOk.goto (tgt := 155) dX9_readsCode_137 (by decide) ?_
                  exact fin1 q e (by rw [ep]; exact h) I' a b c d
                · refine mOk.goto (tgt := 155) dX9_readsCode_137 (by decide) ?_
                  exact fin0 f (by rw [ep]; exact h) I' a b c
              · refine mOk.iload1n dX9_readsCode_127 rfl ?_
                refine mOk.bipush (x := nI 115) dX9_readsCode_128 (by decide) ?_
                refine mOk.icne (tgt := 140) dX9_readsCode_130 (by decide) (fun c130 => ?_) (fun c130 => absurd c130 (mt (nI_eq' (by omega) (by omega)).mp z2))
                by_cases z3 : bs.getD p 0 = 112
                · have h7 : (prs T).length < 7 := by omega
                  have ep : phd bs T p = p2 bs T 1 (p + 1) := by
                    unfold phd
                    rw [if_pos hph, e2, if_neg z1, if_pos z3, if_pos h7, e3]
                  refine mOk.aload0n dX9_readsCode_140 rfl ?_
                  refine mOk.iload1n dX9_readsCode_141 rfl ?_
                  refine mOk.bipush (x := nI 112) dX9_readsCode_142 (by decide) ?_
                  refine mOk.icne (tgt := 151) dX9_readsCode_144 (by decide) (fun c144 => absurd ((by rw [z3])) c144) (fun c144 => ?_)
                  refine mOk.iconst (x := 1) dX9_readsCode_147 (by decide) ?_
                  refine mOk.goto (tgt := 152) dX9_readsCode_148 (by decide) ?_
                  refine mOk.callV1 (M' := mX9_readsTwo) dX9_readsCode_152 ml_X9_126 ke_X9_readsTwo (by first | assumption | rfl) (by decide) (by decide) (by simp [Value.category]) (c_readsTwo hT1 hM1 hTO hph.2 hp1 hpl (Or.inl rfl) (fun _ => h7) ⟨fun q e h I' a b c d => ?_, fun f h I' a b c => ?_⟩)
                  · exact fin1 q e (by rw [ep]; exact h) I' a b c d
                  · exact fin0 f (by rw [ep]; exact h) I' a b c
                · have z4 : bs.getD p 0 = 120 := by omega
                  have ep : phd bs T p = p2 bs T 2 (p + 1) := by
                    unfold phd
                    rw [if_pos hph, e2, if_neg z1, if_neg z3, if_neg z2, if_pos z4, e3]
                  refine mOk.aload0n dX9_readsCode_140 rfl ?_
                  refine mOk.iload1n dX9_readsCode_141 rfl ?_
                  refine mOk.bipush (x := nI 112) dX9_readsCode_142 (by decide) ?_
                  refine mOk.icne (tgt := 151) dX9_readsCode_144 (by decide) (fun c144 => ?_) (fun c144 => absurd c144 (mt (nI_eq' (by omega) (by omega)).mp z3))
                  refine mOk.iconst (x := 2) dX9_readsCode_151 (by decide) ?_
                  refine mOk.callV1 (M' := mX9_readsTwo) dX9_readsCode_152 ml_X9_126 ke_X9_readsTwo (by first | assumption | rfl) (by decide) (by decide) (by simp [Value.category]) (c_readsTwo hT1 hM1 hTO hph.2 hp1 hpl (Or.inr rfl) (fun w => absurd w (by decide)) ⟨fun q e h I' a b c d => ?_, fun f h I' a b c => ?_⟩)
                  · exact fin1 q e (by rw [ep]; exact h) I' a b c d
                  · exact fin0 f (by rw [ep]; exact h) I' a b c
    have yes : (bs.getD p 0 = 99 ∨ bs.getD p 0 = 120 ∨ bs.getD p 0 = 115 ∨ (bs.getD p 0 = 112 ∧ (prs T).length < 7)) → mOk mX9_readsCode 4 0 0 79 [some (.ref 97), some (.int (nI (bs.getD p 0))), some (.int (if al then 1 else 0)), none] [] (hS sw I J) 0 0 Q := by
      intro z
      refine mOk.iconst (x := 1) dX9_readsCode_79 (by decide) ?_
      refine mOk.goto (tgt := 84) dX9_readsCode_80 (by decide) ?_
      exact tail true ⟨fun _ => z, fun _ => rfl⟩
    have no : ¬ (bs.getD p 0 = 99 ∨ bs.getD p 0 = 120 ∨ bs.getD p 0 = 115 ∨ (bs.getD p 0 = 112 ∧ (prs T).length < 7)) → mOk mX9_readsCode 4 0 0 83 [some (.ref 97), some (.int (nI (bs.getD p 0))), some (.int (if al then 1 else 0)), none] [] (hS sw I J) 0 0 Q := by
      intro z
      refine mOk.iconst (x := 0) dX9_readsCode_83 (by decide) ?_
      exact tail false ⟨fun w => absurd w (by decide), fun w => absurd w z⟩
    refine mOk.iload1n dX9_readsCode_45 rfl ?_
    refine mOk.bipush (x := nI 99) dX9_readsCode_46 (by decide) ?_
    refine mOk.iceq (tgt := 79) dX9_readsCode_48 (by decide) (fun c48 => ?_) (fun c48 => ?_)
    · exact yes (Or.inl ((nI_eq' (by omega) (by omega)).mp c48))
    · have y1 := mt (nI_eq' (by omega) (by omega)).mpr c48
      refine mOk.iload1n dX9_readsCode_51 rfl ?_
      refine mOk.bipush (x := nI 120) dX9_readsCode_52 (by decide) ?_
      refine mOk.iceq (tgt := 79) dX9_readsCode_54 (by decide) (fun c54 => ?_) (fun c54 => ?_)
      · exact yes (Or.inr (Or.inl ((nI_eq' (by omega) (by omega)).mp c54)))
      · have y2 := mt (nI_eq' (by omega) (by omega)).mpr c54
        refine mOk.iload1n dX9_readsCode_57 rfl ?_
        refine mOk.bipush (x := nI 115) dX9_readsCode_58 (by decide) ?_
        refine mOk.iceq (tgt := 79) dX9_readsCode_60 (by decide) (fun c60 => ?_) (fun c60 => ?_)
        · exact yes (Or.inr (Or.inr (Or.inl ((nI_eq' (by omega) (by omega)).mp c60))))
        · have y3 := mt (nI_eq' (by omega) (by omega)).mpr c60
          refine mOk.iload1n dX9_readsCode_63 rfl ?_
          refine mOk.bipush (x := nI 112) dX9_readsCode_64 (by decide) ?_
          refine mOk.icne (tgt := 83) dX9_readsCode_66 (by decide) (fun c66 => ?_) (fun c66 => ?_)
          · have y4 := mt (nI_eq' (by omega) (by omega)).mpr c66
            exact no (by omega)
          · have y4 := (nI_eq' (by omega) (by omega)).mp c66
            refine mOk.aload0n dX9_readsCode_69 rfl ?_
            refine mOk.iconst (x := 1) dX9_readsCode_70 (by decide) ?_
            refine mOk.callV1 (M' := mX9_sortMany) dX9_readsCode_71 ml_X9_116 ke_X9_sortMany (by first | assumption | rfl) (by decide) (by decide) (by simp [Value.category]) (c_sortMany hM ?_)
            refine mOk.bipush (x := nI 7) dX9_readsCode_74 (by decide) ?_
            refine mOk.icge (tgt := 83) dX9_readsCode_76 (by decide) (fun c76 => ?_) (fun c76 => ?_)
            · have y5 := (nI_le' (by omega) (by omega)).mp c76
              exact no (by omega)
            · have y5 := mt (nI_le' (by omega) (by omega)).mpr c76
              exact yes (Or.inr (Or.inr (Or.inr ⟨y4, by omega⟩)))
  refine mCl.of (by decide) rfl (Nat.le_of_ble_eq_true rfl) ?_
  show mOk _ _ _ _ _ [some (.ref 97), none, none, none] _ _ _ _ _
  refine mOk.aload0n dX9_readsCode_0 rfl ?_
  refine mOk.callV0 (M' := mX9_here) dX9_readsCode_1 ml_X9_88 ke_X9_here (by first | assumption | rfl) (by decide) (by decide) (by simp [Value.category]) (c_here_in hT hp hpl ?_)
  by_cases z : bs.length ≤ p + 1
  · refine mOk.istore1n dX9_readsCode_4 rfl (by decide) rfl ?_
    refine mOk.aload0n dX9_readsCode_5 rfl ?_
    refine mOk.getIv dX9_readsCode_6 fl_X9_85 (by first | assumption | rfl) hp ?_
    refine mOk.iconst (x := nI 1) dX9_readsCode_9 (by decide) ?_
    refine mOk.iadd dX9_readsCode_10 ?_
    refine mOk.top ((nI_add _ _)) ?_
    refine mOk.aload0n dX9_readsCode_11 rfl ?_
    refine mOk.getIv dX9_readsCode_12 fl_X9_82 (by first | assumption | rfl) hT.1 ?_
    refine mOk.icge (tgt := 39) dX9_readsCode_15 (by decide) (fun c15 => ?_) (fun c15 => absurd ((nI_le' (by omega) (by omega)).mpr (by omega)) c15)
    refine mOk.iconst (x := 1) dX9_readsCode_39 (by decide) ?_
    refine mOk.goto (tgt := 44) dX9_readsCode_40 (by decide) ?_
    refine mOk.istore2n dX9_readsCode_44 rfl (by decide) rfl ?_
    exact rest true ⟨fun _ => runL_0.mpr (Or.inl z), fun _ => rfl⟩
  · have hlt1 := hT.lt (k := p + 1) (by omega)
    refine mOk.istore1n dX9_readsCode_4 rfl (by decide) rfl ?_
    refine mOk.aload0n dX9_readsCode_5 rfl ?_
    refine mOk.getIv dX9_readsCode_6 fl_X9_85 (by first | assumption | rfl) hp ?_
    refine mOk.iconst (x := nI 1) dX9_readsCode_9 (by decide) ?_
    refine mOk.iadd dX9_readsCode_10 ?_
    refine mOk.top ((nI_add _ _)) ?_
    refine mOk.aload0n dX9_readsCode_11 rfl ?_
    refine mOk.getIv dX9_readsCode_12 fl_X9_82 (by first | assumption | rfl) hT.1 ?_
    refine mOk.icge (tgt := 39) dX9_readsCode_15 (by decide) (fun c15 => absurd c15 (mt (nI_le' (by omega) (by omega)).mp (by omega))) (fun c15 => ?_)
    by_cases w : isL (bs.getD (p + 1) 0) = true
    · have hz := isL_iff.mp w
      refine mOk.aload0n dX9_readsCode_18 rfl ?_
      refine mOk.getR dX9_readsCode_19 fl_X9_28 (by first | assumption | rfl) (by first | assumption | rfl) ?_
      refine mOk.aload0n dX9_readsCode_22 rfl ?_
      refine mOk.getIv dX9_readsCode_23 fl_X9_85 (by first | assumption | rfl) hp ?_
      refine mOk.iconst (x := nI 1) dX9_readsCode_26 (by decide) ?_
      refine mOk.iadd dX9_readsCode_27 ?_
      refine mOk.top ((nI_add _ _)) ?_
      refine mOk.ialdv dX9_readsCode_28 (by first | assumption | rfl) rfl (by omega) (by first | assumption | decide | omega) (hT.2.2.2 (p + 1) (by omega)) ?_
      refine mOk.bipush (x := nI 97) dX9_readsCode_29 (by decide) ?_
      refine mOk.bipush (x := nI 122) dX9_readsCode_31 (by decide) ?_
      refine mOk.callS3 (M' := mX9_in) dX9_readsCode_33 ml_X9_66 ke_X9_in rfl (by decide) (by decide) (by simp [Value.category]) (c_in_y (mt (nI_lt' (by omega) (by omega)).mp (by omega)) (mt (nI_lt' (by omega) (by omega)).mp (by omega)) ?_)
      refine mOk.ifne (tgt := 43) dX9_readsCode_36 (by decide) (fun c36 => ?_) (fun c36 => absurd c36 ((by decide)))
      refine mOk.iconst (x := 0) dX9_readsCode_43 (by decide) ?_
      refine mOk.istore2n dX9_readsCode_44 rfl (by decide) rfl ?_
      exact rest false ⟨fun x => absurd x (by decide), fun x => by
        rcases runL_0.mp x with y | y
        · omega
        · exact absurd w y⟩
    · have ho : nI (bs.getD (p + 1) 0) < nI 97 ∨ nI 122 < nI (bs.getD (p + 1) 0) := by
        rw [isL_iff] at w
        rcases Nat.lt_or_ge (bs.getD (p + 1) 0) 97 with x | x
        · exact Or.inl ((nI_lt' (by omega) (by omega)).mpr x)
        · exact Or.inr ((nI_lt' (by omega) (by omega)).mpr (by omega))
      refine mOk.aload0n dX9_readsCode_18 rfl ?_
      refine mOk.getR dX9_readsCode_19 fl_X9_28 (by first | assumption | rfl) (by first | assumption | rfl) ?_
      refine mOk.aload0n dX9_readsCode_22 rfl ?_
      refine mOk.getIv dX9_readsCode_23 fl_X9_85 (by first | assumption | rfl) hp ?_
      refine mOk.iconst (x := nI 1) dX9_readsCode_26 (by decide) ?_
      refine mOk.iadd dX9_readsCode_27 ?_
      refine mOk.top ((nI_add _ _)) ?_
      refine mOk.ialdv dX9_readsCode_28 (by first | assumption | rfl) rfl (by omega) (by first | assumption | decide | omega) (hT.2.2.2 (p + 1) (by omega)) ?_
      refine mOk.bipush (x := nI 97) dX9_readsCode_29 (by decide) ?_
      refine mOk.bipush (x := nI 122) dX9_readsCode_31 (by decide) ?_
      refine mOk.callS3 (M' := mX9_in) dX9_readsCode_33 ml_X9_66 ke_X9_in rfl (by decide) (by decide) (by simp [Value.category]) (c_in_n ho ?_)
      refine mOk.ifne (tgt := 43) dX9_readsCode_36 (by decide) (fun c36 => absurd (rfl) c36) (fun c36 => ?_)
      refine mOk.iconst (x := 1) dX9_readsCode_39 (by decide) ?_
      refine mOk.goto (tgt := 44) dX9_readsCode_40 (by decide) ?_
      refine mOk.istore2n dX9_readsCode_44 rfl (by decide) rfl ?_
      exact rest true ⟨fun _ => runL_0.mpr (Or.inr w), fun _ => rfl⟩
theorem l_readsAll {I0 : Nat → Nat → Int32} (hQ1 : ∀ T, pall bs 25 [] 0 = .inr T → ∀ I', Md I' T → TOk T → Of [0, 9, 10] MS I0 I' → Q (some (.int 1)) (hS sw I' J))
    (hQ0 : ∀ f, pall bs 25 [] 0 = .inl f → ∀ I', I' 97 9 = nI f → f ≤ bs.length → Of [0, 9, 10] MS I0 I' → Q (some (.int 0)) (hS sw I' J)) :
    ∀ (m j p : Nat) (T : List CR) (I : Nat → Nat → Int32), j + m = 25 → T.length = j → p ≤ bs.length → pall bs 25 [] 0 = pall bs m T p → TOk T → Md I T → MT I bs → I 97 9 = nI (skp bs p) → Of [0, 9, 10] MS I0 I → mOk mX9_readsAll 5 0 0 14 [some (.ref 97)] [] (hS sw I J) 0 0 Q := by
  intro m
  induction m with
  | zero =>
    intro j p T I hj hTj hp hpall hTO hM hT hp' ho
    have := hTO.1
    omega
  | succ m ih =>
    intro j p T I hj hTj hp hpall hTO hM hT hp' ho
    have hb := hT.2.1
    have hsl := skp_le hp
    by_cases z0 : bs.length ≤ skp bs p
    · refine mOk.aload0n dX9_readsAll_14 rfl ?_
      refine mOk.getIv dX9_readsAll_15 fl_X9_85 (by first | assumption | rfl) hp' ?_
      refine mOk.aload0n dX9_readsAll_18 rfl ?_
      refine mOk.getIv dX9_readsAll_19 fl_X9_82 (by first | assumption | rfl) hT.1 ?_
      refine mOk.icge (tgt := 41) dX9_readsAll_22 (by decide) (fun c22 => ?_) (fun c22 => absurd ((nI_le' (by omega) (by omega)).mpr (by omega)) c22)
      refine mOk.iconst (x := 1) dX9_readsAll_41 (by decide) ?_
      refine mOk.zret dX9_readsAll_42 rfl (by decide) ?_
      exact hQ1 T (by rw [hpall, pall, if_pos z0]) I hM hTO ho
    · refine mOk.aload0n dX9_readsAll_14 rfl ?_
      refine mOk.getIv dX9_readsAll_15 fl_X9_85 (by first | assumption | rfl) hp' ?_
      refine mOk.aload0n dX9_readsAll_18 rfl ?_
      refine mOk.getIv dX9_readsAll_19 fl_X9_82 (by first | assumption | rfl) hT.1 ?_
      refine mOk.icge (tgt := 41) dX9_readsAll_22 (by decide) (fun c22 => absurd c22 (mt (nI_le' (by omega) (by omega)).mp (by omega))) (fun c22 => ?_)
      refine mOk.aload0n dX9_readsAll_25 rfl ?_
      refine mOk.callV0 (M' := mX9_readsCode) dX9_readsAll_26 ml_X9_129 ke_X9_readsCode (by first | assumption | rfl) (by decide) (by decide) (by simp [Value.category]) (c_readsCode hT hM hTO hp' (by omega) ⟨fun q e h I1 a b c d => ?_, fun f h I1 a b c => ?_⟩)
      · have hpc : pcd bs T (skp bs p) = .inr (q, e) := by rw [pcd_fin]; exact h
        have hqok : okR T q ∧ T.length < 24 := by
          unfold pcd at hpc
          cases hph : phd bs T (skp bs p) with
          | inl f => rw [hph] at hpc; cases hpc
          | inr qe =>
            obtain ⟨q4, e4⟩ := qe
            rw [hph] at hpc
            have hpc' : (if tkK bs (skp bs e4) = 3 then (Sum.inr (addQ T q4, tkE bs (skp bs e4)) : Nat ⊕ (CR × Nat)) else .inl (skp bs e4)) = .inr (q, e) := hpc
            split at hpc'
            · cases hpc'
              exact phd_ok hTO hph
            · cases hpc'
        have hT1 := hT.of d (by decide) (by decide)
        refine mOk.ifne (tgt := 34) dX9_readsAll_29 (by decide) (fun c29 => ?_) (fun c29 => absurd c29 ((by decide)))
        refine mOk.aload0n dX9_readsAll_34 rfl ?_
        refine mOk.callV0 (M' := mX9_skip) dX9_readsAll_35 ml_X9_92 ke_X9_skip (by first | assumption | rfl) (by decide) (by decide) (by simp [Value.category]) (c_skip hT1 b c ?_)
        intro I2 hp2 ho2
        refine mOk.goto (tgt := 14) dX9_readsAll_38 (by decide) ?_
        exact ih (j + 1) e (T ++ [q]) I2 (by omega) (by simp; omega) c (by rw [hpall, pall, if_neg z0, hpc]) (hTO.app hqok.2 hqok.1) (a.of ho2 (by decide) (by decide)) (hT1.of ho2 (by decide) (by decide)) hp2 (ho.tr (d.tr (ho2.up (by decide) (by decide))))
      · have hpc : pcd bs T (skp bs p) = .inl f := by rw [pcd_fin]; exact h
        refine mOk.ifne (tgt := 34) dX9_readsAll_29 (by decide) (fun c29 => absurd (rfl) c29) (fun c29 => ?_)
        refine mOk.iconst (x := 0) dX9_readsAll_32 (by decide) ?_
        refine mOk.zret dX9_readsAll_33 rfl (by decide) ?_
        exact hQ0 f (by rw [hpall, pall, if_neg z0, hpc]) I1 a b (ho.tr c)
theorem c_readsAll (hT : MT I bs) (hQ1 : ∀ T, pall bs 25 [] 0 = .inr T → ∀ I', Md I' T → TOk T → Of [0, 9, 10] MS I I' → Q (some (.int 1)) (hS sw I' J))
    (hQ0 : ∀ f, pall bs 25 [] 0 = .inl f → ∀ I', I' 97 9 = nI f → f ≤ bs.length → Of [0, 9, 10] MS I I' → Q (some (.int 0)) (hS sw I' J)) : mCl mX9_readsAll 5 0 0 [.ref 97] (hS sw I J) Q := by
  refine mCl.of (by decide) rfl (Nat.le_of_ble_eq_true rfl) ?_
  show mOk _ _ _ _ _ [some (.ref 97)] _ _ _ _ _
  refine mOk.aload0n dX9_readsAll_0 rfl ?_
  refine mOk.iconst (x := nI 0) dX9_readsAll_1 (by decide) ?_
  refine mOk.putIt dX9_readsAll_2 fl_X9_85 (by first | assumption | rfl) ?_
  refine mOk.aload0n dX9_readsAll_5 rfl ?_
  refine mOk.iconst (x := nI 0) dX9_readsAll_6 (by decide) ?_
  refine mOk.putIt dX9_readsAll_7 fl_X9_62 (by first | assumption | rfl) ?_
  have o1 : Of [0, 9, 10] MS I (wI (wI I 97 9 (nI 0)) 97 0 (nI 0)) := (Of.f (by decide)).tr (Of.f (by decide))
  have hT1 := hT.of o1 (by decide) (by decide)
  refine mOk.aload0n dX9_readsAll_10 rfl ?_
  refine mOk.callV0 (M' := mX9_skip) dX9_readsAll_11 ml_X9_92 ke_X9_skip (by first | assumption | rfl) (by decide) (by decide) (by simp [Value.category]) (c_skip (p := 0) hT1 ((wI_j (by decide)).trans (wI_s _ _ _ _)) (Nat.zero_le _) ?_)
  intro I2 hp2 ho2
  refine l_readsAll hQ1 hQ0 25 0 0 [] I2 rfl rfl (Nat.zero_le _) rfl TOk.nil ⟨Nat.zero_le _, ?_, fun j q h => by simp at h⟩ (hT1.of ho2 (by decide) (by decide)) hp2 (o1.tr (ho2.up (by decide) (by decide)))
  rw [ho2.2 0 (by decide), wI_s]
  rfl
/-- what was told before -/
def Bf (I : Nat → Nat → Int32) (T : List CR) : Prop := I 105 0 = nI T.length ∧ ∀ j q, T[j]? = some q → I 105 (1 + j) = q.1 ∧ I 105 (25 + j) = q.2.1 ∧ I 105 (49 + j) = q.2.2.1 ∧ I 105 (73 + j) = q.2.2.2.1
theorem l_lays {I0 : Nat → Nat → Int32} (hM : Md I0 T) (hQ : ∀ I', Bf I' T → Of [] [105] I0 I' → Q none (hS sw I' J)) :
    ∀ (m i : Nat) (I : Nat → Nat → Int32), i + m = 24 → I 105 0 = nI T.length → (∀ j q, j < i → T[j]? = some q → I 105 (1 + j) = q.1 ∧ I 105 (25 + j) = q.2.1 ∧ I 105 (49 + j) = q.2.2.1 ∧ I 105 (73 + j) = q.2.2.2.1) → Of [] [105] I0 I → mOk mX9_lays 0 0 0 12 [some (.ref 97), some (.int (nI i))] [] (hS sw I J) 0 0 Q := by
  have hl := hM.1
  intro m
  induction m with
  | zero =>
    intro i I hi h0 hj ho
    refine mOk.iload1n dX9_lays_12 rfl ?_
    refine mOk.bipush (x := nI 24) dX9_lays_13 (by decide) ?_
    refine mOk.icge (tgt := 83) dX9_lays_15 (by decide) (fun c15 => ?_) (fun c15 => absurd ((nI_le' (by omega) (by omega)).mpr (by omega)) c15)
    refine mOk.vret dX9_lays_83 rfl (by decide) ?_
    exact hQ I ⟨h0, fun j q hq => hj j q (by have := (List.getElem?_eq_some_iff.mp hq).1; omega) hq⟩ ho
  | succ m ih =>
    intro i I hi h0 hj ho
    refine mOk.iload1n dX9_lays_12 rfl ?_
    refine mOk.bipush (x := nI 24) dX9_lays_13 (by decide) ?_
    refine mOk.icge (tgt := 83) dX9_lays_15 (by decide) (fun c15 => absurd c15 (mt (nI_le' (by omega) (by omega)).mp (by omega))) (fun c15 => ?_)
    have e99 : ∀ k x, wI I 105 k x 99 i = I0 99 i := fun k x => by rw [wI_c (by decide), ho.1 99 (by decide) (by decide)]
    have e100 : ∀ k x k' x', wI (wI I 105 k x) 105 k' x' 100 i = I0 100 i := fun k x k' x' => by rw [wI_c (by decide), wI_c (by decide), ho.1 100 (by decide) (by decide)]
    have e101 : ∀ k x k' x' k2 x2, wI (wI (wI I 105 k x) 105 k' x') 105 k2 x2 101 i = I0 101 i := fun k x k' x' k2 x2 => by rw [wI_c (by decide), wI_c (by decide), wI_c (by decide), ho.1 101 (by decide) (by decide)]
    refine mOk.aload0n dX9_lays_18 rfl ?_
    refine mOk.getR dX9_lays_19 fl_X9_31 (by first | assumption | rfl) (by first | assumption | rfl) ?_
    refine mOk.iconst (x := nI 1) dX9_lays_22 (by decide) ?_
    refine mOk.iload1n dX9_lays_23 rfl ?_
    refine mOk.iadd dX9_lays_24 ?_
    refine mOk.top ((nI_add _ _)) ?_
    refine mOk.aload0n dX9_lays_25 rfl ?_
    refine mOk.getR dX9_lays_26 fl_X9_7 (by first | assumption | rfl) (by first | assumption | rfl) ?_
    refine mOk.iload1n dX9_lays_29 rfl ?_
    refine mOk.ialdv dX9_lays_30 (by first | assumption | rfl) rfl (by omega) (by first | assumption | decide | omega) (congrFun (ho.1 98 (by decide) (by decide)) i) ?_
    refine mOk.iastt dX9_lays_31 (by first | assumption | rfl) rfl (by omega) (by first | assumption | decide | omega) ?_
    refine mOk.aload0n dX9_lays_32 rfl ?_
    refine mOk.getR dX9_lays_33 fl_X9_31 (by first | assumption | rfl) (by first | assumption | rfl) ?_
    refine mOk.bipush (x := nI 25) dX9_lays_36 (by decide) ?_
    refine mOk.iload1n dX9_lays_38 rfl ?_
    refine mOk.iadd dX9_lays_39 ?_
    refine mOk.top ((nI_add _ _)) ?_
    refine mOk.aload0n dX9_lays_40 rfl ?_
    refine mOk.getR dX9_lays_41 fl_X9_13 (by first | assumption | rfl) (by first | assumption | rfl) ?_
    refine mOk.iload1n dX9_lays_44 rfl ?_
    refine mOk.ialdv dX9_lays_45 (by first | assumption | rfl) rfl (by omega) (by first | assumption | decide | omega) (e99 (1 + i) (I0 98 i)) ?_
    refine mOk.iastt dX9_lays_46 (by first | assumption | rfl) rfl (by omega) (by first | assumption | decide | omega) ?_
    refine mOk.aload0n dX9_lays_47 rfl ?_
    refine mOk.getR dX9_lays_48 fl_X9_31 (by first | assumption | rfl) (by first | assumption | rfl) ?_
    refine mOk.bipush (x := nI 49) dX9_lays_51 (by decide) ?_
    refine mOk.iload1n dX9_lays_53 rfl ?_
    refine mOk.iadd dX9_lays_54 ?_
    refine mOk.top ((nI_add _ _)) ?_
    refine mOk.aload0n dX9_lays_55 rfl ?_
    refine mOk.getR dX9_lays_56 fl_X9_16 (by first | assumption | rfl) (by first | assumption | rfl) ?_
    refine mOk.iload1n dX9_lays_59 rfl ?_
    refine mOk.ialdv dX9_lays_60 (by first | assumption | rfl) rfl (by omega) (by first | assumption | decide | omega) (e100 (1 + i) (I0 98 i) (25 + i) (I0 99 i)) ?_
    refine mOk.iastt dX9_lays_61 (by first | assumption | rfl) rfl (by omega) (by first | assumption | decide | omega) ?_
    refine mOk.aload0n dX9_lays_62 rfl ?_
    refine mOk.getR dX9_lays_63 fl_X9_31 (by first | assumption | rfl) (by first | assumption | rfl) ?_
    refine mOk.bipush (x := nI 73) dX9_lays_66 (by decide) ?_
    refine mOk.iload1n dX9_lays_68 rfl ?_
    refine mOk.iadd dX9_lays_69 ?_
    refine mOk.top ((nI_add _ _)) ?_
    refine mOk.aload0n dX9_lays_70 rfl ?_
    refine mOk.getR dX9_lays_71 fl_X9_19 (by first | assumption | rfl) (by first | assumption | rfl) ?_
    refine mOk.iload1n dX9_lays_74 rfl ?_
    refine mOk.ialdv dX9_lays_75 (by first | assumption | rfl) rfl (by omega) (by first | assumption | decide | omega) (e101 (1 + i) (I0 98 i) (25 + i) (I0 99 i) (49 + i) (I0 100 i)) ?_
    refine mOk.iastt dX9_lays_76 (by first | assumption | rfl) rfl (by omega) (by first | assumption | decide | omega) ?_
    refine mOk.iinc1 dX9_lays_77 (mOk.inc1 rfl) (by decide) rfl ?_
    refine mOk.goto (tgt := 12) dX9_lays_80 (by decide) ?_
    refine ih (i + 1) _ (by omega) ?_ (fun j q hji hq => ?_) ?_
    · rw [wI_j (by omega), wI_j (by omega), wI_j (by omega), wI_j (by omega)]
      exact h0
    · have hz := (List.getElem?_eq_some_iff.mp hq).1
      rcases Nat.lt_or_ge j i with z | z
      · rw [wI_j (by omega), wI_j (by omega), wI_j (by omega), wI_j (by omega), wI_j (by omega), wI_j (by omega), wI_j (by omega), wI_j (by omega), wI_j (by omega), wI_j (by omega), wI_j (by omega), wI_j (by omega), wI_j (by omega), wI_j (by omega), wI_j (by omega), wI_j (by omega)]
        exact hj j q z hq
      · obtain ⟨b1, b2, b3, b4, -⟩ := hM.2.2 j q hq
        have e : j = i := by omega
        subst e
        refine ⟨?_, ?_, ?_, ?_⟩
        · rw [wI_j (by omega), wI_j (by omega), wI_j (by omega), wI_s]
          exact b1
        · rw [wI_j (by omega), wI_j (by omega), wI_s]
          exact b2
        · rw [wI_j (by omega), wI_s]
          exact b3
        · rw [wI_s]
          exact b4
    · exact ho.tr ((Of.a (by decide) (by decide)).tr ((Of.a (by decide) (by decide)).tr ((Of.a (by decide) (by decide)).tr (Of.a (by decide) (by decide)))))
theorem c_lays (hM : Md I T) (hQ : ∀ I', Bf I' T → Of [] [105] I I' → Q none (hS sw I' J)) : mCl mX9_lays 0 0 0 [.ref 97] (hS sw I J) Q := by
  refine mCl.of (by decide) rfl (Nat.le_of_ble_eq_true rfl) ?_
  show mOk _ _ _ _ _ [some (.ref 97), none] _ _ _ _ _
  refine mOk.aload0n dX9_lays_0 rfl ?_
  refine mOk.getR dX9_lays_1 fl_X9_31 (by first | assumption | rfl) (by first | assumption | rfl) ?_
  refine mOk.iconst (x := nI 0) dX9_lays_4 (by decide) ?_
  refine mOk.aload0n dX9_lays_5 rfl ?_
  refine mOk.getIv dX9_lays_6 fl_X9_62 (by first | assumption | rfl) hM.2.1 ?_
  refine mOk.iastt (j := 0) dX9_lays_9 (by first | assumption | rfl) rfl (by omega) (by first | assumption | decide | omega) ?_
  refine mOk.iconst (x := nI 0) dX9_lays_10 (by decide) ?_
  refine mOk.istore1n dX9_lays_11 rfl (by decide) rfl ?_
  exact l_lays hM hQ 24 0 _ rfl (wI_s _ _ _ _) (fun j q hj => absurd hj (Nat.not_lt_zero j)) (Of.a (by decide) (by decide))
theorem okR_self {q : CR} (h : okR T q) : q = addR T q.1 q.2.1 q.2.2.1 q.2.2.2.1 := by
  rcases h with ⟨c, hc, e⟩ | ⟨kd', a', b', hkd, ha, hb, hmf, hms, hpr, e⟩ | ⟨a', ha, e⟩ <;> subst e <;> rfl
theorem TOk.take {T : List CR} (h : TOk T) (i : Nat) : TOk (T.take i) := by
  refine ⟨by rw [List.length_take]; have := h.1; omega, fun j q hj => ?_⟩
  have hj' : j < (T.take i).length := (List.getElem?_eq_some_iff.mp hj).1
  rw [List.length_take] at hj'
  rw [List.getElem?_take_of_lt (by omega)] at hj
  rw [List.take_take, Nat.min_eq_left (by omega)]
  exact h.2 j q hj
theorem l_takes {I0 : Nat → Nat → Int32} (hTO : TOk T) (hQ : ∀ I', Md I' T → Of [0] MS I0 I' → Q none (hS sw I' J)) :
    ∀ (m i : Nat) (I : Nat → Nat → Int32), i + m = T.length → Bf I T → Md I (T.take i) → Of [0] MS I0 I → mOk mX9_takes 2 0 0 14 [some (.ref 97), some (.int (nI T.length)), some (.int (nI i))] [] (hS sw I J) 0 0 Q := by
  have hl := hTO.1
  intro m
  induction m with
  | zero =>
    intro i I hi hB hM ho
    rw [List.take_of_length_le (by omega)] at hM
    refine mOk.iload2n dX9_takes_14 rfl ?_
    refine mOk.iload1n dX9_takes_15 rfl ?_
    refine mOk.icge (tgt := 64) dX9_takes_16 (by decide) (fun c16 => ?_) (fun c16 => absurd ((nI_le' (by omega) (by omega)).mpr (by omega)) c16)
    refine mOk.vret dX9_takes_64 rfl (by decide) ?_
    exact hQ I hM ho
  | succ m ih =>
    intro i I hi hB hM ho
    have hil : i < T.length := by omega
    obtain ⟨q, hq, -⟩ := tG_at hil (by omega)
    obtain ⟨b1, b2, b3, b4⟩ := hB.2 i q hq
    have hok := hTO.2 i q hq
    have hself := okR_self hok
    have hok2 := hok
    rw [hself] at hok2
    refine mOk.iload2n dX9_takes_14 rfl ?_
    refine mOk.iload1n dX9_takes_15 rfl ?_
    refine mOk.icge (tgt := 64) dX9_takes_16 (by decide) (fun c16 => absurd c16 (mt (nI_le' (by omega) (by omega)).mp (by omega))) (fun c16 => ?_)
    refine mOk.aload0n dX9_takes_19 rfl ?_
    refine mOk.aload0n dX9_takes_20 rfl ?_
    refine mOk.getR dX9_takes_21 fl_X9_31 (by first | assumption | rfl) (by first | assumption | rfl) ?_
    refine mOk.iconst (x := nI 1) dX9_takes_24 (by decide) ?_
    refine mOk.iload2n dX9_takes_25 rfl ?_
    refine mOk.iadd dX9_takes_26 ?_
    refine mOk.top ((nI_add _ _)) ?_
    refine mOk.ialdv dX9_takes_27 (by first | assumption | rfl) rfl (by omega) (by first | assumption | decide | omega) b1 ?_
    refine mOk.aload0n dX9_takes_28 rfl ?_
    refine mOk.getR dX9_takes_29 fl_X9_31 (by first | assumption | rfl) (by first | assumption | rfl) ?_
    refine mOk.bipush (x := nI 25) dX9_takes_32 (by decide) ?_
    refine mOk.iload2n dX9_takes_34 rfl ?_
    refine mOk.iadd dX9_takes_35 ?_
    refine mOk.top ((nI_add _ _)) ?_
    refine mOk.ialdv dX9_takes_36 (by first | assumption | rfl) rfl (by omega) (by first | assumption | decide | omega) b2 ?_
    refine mOk.aload0n dX9_takes_37 rfl ?_
    refine mOk.getR dX9_takes_38 fl_X9_31 (by first | assumption | rfl) (by first | assumption | rfl) ?_
    refine mOk.bipush (x := nI 49) dX9_takes_41 (by decide) ?_
    refine mOk.iload2n dX9_takes_43 rfl ?_
    refine mOk.iadd dX9_takes_44 ?_
    refine mOk.top ((nI_add _ _)) ?_
    refine mOk.ialdv dX9_takes_45 (by first | assumption | rfl) rfl (by omega) (by first | assumption | decide | omega) b3 ?_
    refine mOk.aload0n dX9_takes_46 rfl ?_
    refine mOk.getR dX9_takes_47 fl_X9_31 (by first | assumption | rfl) (by first | assumption | rfl) ?_
    refine mOk.bipush (x := nI 73) dX9_takes_50 (by decide) ?_
    refine mOk.iload2n dX9_takes_52 rfl ?_
    refine mOk.iadd dX9_takes_53 ?_
    refine mOk.top ((nI_add _ _)) ?_
    refine mOk.ialdv dX9_takes_54 (by first | assumption | rfl) rfl (by omega) (by first | assumption | decide | omega) b4 ?_
    refine mOk.callV4 (M' := mX9_comes) dX9_takes_55 ml_X9_102 ke_X9_comes (by first | assumption | rfl) (by decide) (by decide) (by simp [Value.category]) (c_comes hM (hTO.take i) (by rw [List.length_take]; omega) hok2 ?_)
    intro I1 hM1 ho1
    refine mOk.iinc2 dX9_takes_58 (mOk.inc1 rfl) (by decide) rfl ?_
    refine mOk.goto (tgt := 14) dX9_takes_61 (by decide) ?_
    refine ih (i + 1) I1 (by omega) ?_ ?_ (ho.tr ho1)
    · unfold Bf
      rw [ho1.1 105 (by decide) (by decide)]
      exact hB
    · rw [take_T hq, hself]
      exact hM1
theorem c_takes (hTO : TOk T) (hB : Bf I T) (hQ : ∀ I', Md I' T → Of [0] MS I I' → Q none (hS sw I' J)) : mCl mX9_takes 2 0 0 [.ref 97] (hS sw I J) Q := by
  refine mCl.of (by decide) rfl (Nat.le_of_ble_eq_true rfl) ?_
  show mOk _ _ _ _ _ [some (.ref 97), none, none] _ _ _ _ _
  refine mOk.aload0n dX9_takes_0 rfl ?_
  refine mOk.getR dX9_takes_1 fl_X9_31 (by first | assumption | rfl) (by first | assumption | rfl) ?_
  refine mOk.iconst (x := nI 0) dX9_takes_4 (by decide) ?_
  refine mOk.ialdv (j := 0) dX9_takes_5 (by first | assumption | rfl) rfl (by omega) (by first | assumption | decide | omega) hB.1 ?_
  refine mOk.istore1n dX9_takes_6 rfl (by decide) rfl ?_
  refine mOk.aload0n dX9_takes_7 rfl ?_
  refine mOk.iconst (x := nI 0) dX9_takes_8 (by decide) ?_
  refine mOk.putIt dX9_takes_9 fl_X9_62 (by first | assumption | rfl) ?_
  refine mOk.iconst (x := nI 0) dX9_takes_12 (by decide) ?_
  refine mOk.istore2n dX9_takes_13 rfl (by decide) rfl ?_
  refine l_takes hTO hQ T.length 0 _ (Nat.zero_add _) ?_ ⟨Nat.zero_le _, by rw [wI_s]; rfl, fun j q h => by simp at h⟩ (Of.f (by decide))
  unfold Bf
  rw [wI_c (by decide)]
  exact hB
end MODEL5
