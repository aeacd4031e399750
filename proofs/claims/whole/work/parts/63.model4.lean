/-! ===== the reference: tables are read ===== -/
abbrev MS : List Nat := [98, 99, 100, 101, 102, 103]
def fin' (bs : List Nat) (T : List CR) (o : Nat ⊕ (Q4 × Nat)) : Nat ⊕ (CR × Nat) := match o with
  | .inl f => .inl f
  | .inr (q, e) => if tkK bs (skp bs e) = 3 then .inr (addQ T q, tkE bs (skp bs e)) else .inl (skp bs e)
theorem pcd_fin (bs : List Nat) (T : List CR) (p : Nat) : pcd bs T p = fin' bs T (phd bs T p) := by
  unfold pcd fin'
  cases phd bs T p with
  | inl f => rfl
  | inr q => rfl
def RdQ (sw : Bool) (J : Nat → Nat → Int64) (I : Nat → Nat → Int32) (bs : List Nat) (T : List CR) (o : Nat ⊕ (Q4 × Nat)) (Q : Option Value → mi_H → Prop) : Prop :=
  (∀ q e, fin' bs T o = .inr (q, e) → ∀ I', Md I' (T ++ [q]) → I' 97 9 = nI e → e ≤ bs.length → Of [0, 9, 10] MS I I' → Q (some (.int 1)) (hS sw I' J)) ∧
  (∀ f, fin' bs T o = .inl f → ∀ I', I' 97 9 = nI f → f ≤ bs.length → Of [0, 9, 10] MS I I' → Q (some (.int 0)) (hS sw I' J))
section MODEL4
variable {sw : Bool} {I : Nat → Nat → Int32} {J : Nat → Nat → Int64} {Q : Option Value → mi_H → Prop} {T : List CR} {bs : List Nat} {p : Nat}
theorem m_ends {I0 : Nat → Nat → Int32} {q : Q4} {s : Nat} (hs : s ≤ bs.length) (hT : MT I bs) (hM : Md I (T ++ [addQ T q])) (hp : I 97 9 = nI s) (ho : Of [0, 9, 10] MS I0 I) (hR : RdQ sw J I0 bs T (.inr (q, s)) Q) : mCl mX9_ends 2 0 0 [.ref 97] (hS sw I J) Q := by
  refine c_ends hT hp hs (fun h3 I' hp' ho' => ?_) (fun h3 I' hp' ho' => ?_)
  · exact hR.1 _ _ (if_pos h3) I' (hM.of ho' (by decide) (by decide)) hp' (tkE_le (skp_le hs)) (ho.tr (ho'.up (by decide) (by decide)))
  · exact hR.2 _ (if_neg h3) I' hp' (skp_le hs) (ho.tr (ho'.up (by decide) (by decide)))
/-- the number behind c -/
def plO (bs : List Nat) (e : Nat) : Nat ⊕ (Q4 × Nat) := if tkK bs (skp bs e) = 2 ∧ tkV bs (skp bs e) ≤ 9 then .inr ((0, nI (tkV bs (skp bs e)), -9, -9), tkE bs (skp bs e)) else .inl (skp bs e)
def sgO (bs : List Nat) (T : List CR) (e : Nat) : Nat ⊕ (Q4 × Nat) := if tkK bs (skp bs e) = 2 ∧ tkV bs (skp bs e) < T.length then .inr ((3, tC T (nI (tkV bs (skp bs e))), nI (tkV bs (skp bs e)), -9), tkE bs (skp bs e)) else .inl (skp bs e)
theorem c_readsPlain (hT : MT I bs) (hM : Md I T) (hTO : TOk T) (hl : T.length < 24) (hp : I 97 9 = nI p) (hpl : p ≤ bs.length) (hR : RdQ sw J I bs T (plO bs p) Q) : mCl mX9_readsPlain 3 0 0 [.ref 97] (hS sw I J) Q := by
  refine mCl.of (by decide) rfl (Nat.le_of_ble_eq_true rfl) ?_
  show mOk _ _ _ _ _ [some (.ref 97)] _ _ _ _ _
  refine mOk.aload0n dX9_readsPlain_0 rfl ?_
  refine mOk.iconst (x := nI 0) dX9_readsPlain_1 (by decide) ?_
  refine mOk.bipush (x := (nI 10 - nI 1)) dX9_readsPlain_2 (by decide) ?_
  refine mOk.callV2 (M' := mX9_number) dX9_readsPlain_4 ml_X9_98 ke_X9_number (by first | assumption | rfl) (by decide) (by decide) (by simp [Value.category]) (c_number (H := 10) (by omega) hT hp hpl (fun h1 h2 I1 hp1 hn1 ho1 => ?_) (fun h0 I1 hp1 ho1 => ?_))
  · have e : plO bs p = .inr ((0, nI (tkV bs (skp bs p)), -9, -9), tkE bs (skp bs p)) := if_pos ⟨h1, by omega⟩
    rw [e] at hR
    have hM1 := hM.of ho1 (by decide) (by decide)
    refine mOk.ifne (tgt := 12) dX9_readsPlain_7 (by decide) (fun c7 => ?_) (fun c7 => absurd c7 ((by decide)))
    refine mOk.aload0n dX9_readsPlain_12 rfl ?_
    refine mOk.iconst (x := 0) dX9_readsPlain_13 (by decide) ?_
    refine mOk.aload0n dX9_readsPlain_14 rfl ?_
    refine mOk.getIv dX9_readsPlain_15 fl_X9_95 (by first | assumption | rfl) hn1 ?_
    refine mOk.bipush (x := -9) dX9_readsPlain_18 (by decide) ?_
    refine mOk.bipush (x := -9) dX9_readsPlain_20 (by decide) ?_
    refine mOk.callV4 (M' := mX9_comes) dX9_readsPlain_22 ml_X9_102 ke_X9_comes (by first | assumption | rfl) (by decide) (by decide) (by simp [Value.category]) (c_comes hM1 hTO hl (Or.inl ⟨_, by omega, rfl⟩) ?_)
    intro I2 hM2 ho2
    refine mOk.aload0n dX9_readsPlain_25 rfl ?_
    refine mOk.callV0 (M' := mX9_ends) dX9_readsPlain_26 ml_X9_106 ke_X9_ends (by first | assumption | rfl) (by decide) (by decide) (by simp [Value.category]) (m_ends (q := (0, nI (tkV bs (skp bs p)), -9, -9)) (I0 := I) (tkE_le (skp_le hpl)) ((hT.of ho1 (by decide) (by decide)).of ho2 (by decide) (by decide)) hM2 (by rw [ho2.2 9 (by decide)]; exact hp1) ((ho1.up (by decide) (by decide)).tr (ho2.up (by decide) (by decide))) ⟨fun q' e' h I' a b c d => ?_, fun f h I' a b c => ?_⟩)
    · refine mOk.zret dX9_readsPlain_29 rfl (by decide) ?_
      exact hR.1 q' e' h I' a b c d
    · refine mOk.zret dX9_readsPlain_29 rfl (by decide) ?_
      exact hR.2 f h I' a b c
  · have e : plO bs p = .inl (skp bs p) := if_neg (fun z => h0 ⟨z.1, by omega⟩)
    rw [e] at hR
    refine mOk.ifne (tgt := 12) dX9_readsPlain_7 (by decide) (fun c7 => absurd (rfl) c7) (fun c7 => ?_)
    refine mOk.iconst (x := 0) dX9_readsPlain_10 (by decide) ?_
    refine mOk.zret dX9_readsPlain_11 rfl (by decide) ?_
    exact hR.2 _ rfl I1 hp1 (skp_le hpl) (ho1.up (by decide) (by decide))
theorem c_readsSingle (hT : MT I bs) (hM : Md I T) (hTO : TOk T) (hl : T.length < 24) (hp : I 97 9 = nI p) (hpl : p ≤ bs.length) (hR : RdQ sw J I bs T (sgO bs T p) Q) : mCl mX9_readsSingle 3 0 0 [.ref 97] (hS sw I J) Q := by
  refine mCl.of (by decide) rfl (Nat.le_of_ble_eq_true rfl) ?_
  show mOk _ _ _ _ _ [some (.ref 97)] _ _ _ _ _
  refine mOk.aload0n dX9_readsSingle_0 rfl ?_
  refine mOk.iconst (x := nI 0) dX9_readsSingle_1 (by decide) ?_
  refine mOk.aload0n dX9_readsSingle_2 rfl ?_
  refine mOk.getIv dX9_readsSingle_3 fl_X9_62 (by first | assumption | rfl) hM.2.1 ?_
  refine mOk.iconst (x := nI 1) dX9_readsSingle_6 (by decide) ?_
  refine mOk.isub dX9_readsSingle_7 ?_
  refine mOk.callV2 (M' := mX9_number) dX9_readsSingle_8 ml_X9_98 ke_X9_number (by first | assumption | rfl) (by decide) (by decide) (by simp [Value.category]) (c_number (H := T.length) (by omega) hT hp hpl (fun h1 h2 I1 hp1 hn1 ho1 => ?_) (fun h0 I1 hp1 ho1 => ?_))
  · have e : sgO bs T p = .inr ((3, tC T (nI (tkV bs (skp bs p))), nI (tkV bs (skp bs p)), -9), tkE bs (skp bs p)) := if_pos ⟨h1, h2⟩
    rw [e] at hR
    have hM1 := hM.of ho1 (by decide) (by decide)
    refine mOk.ifne (tgt := 16) dX9_readsSingle_11 (by decide) (fun c11 => ?_) (fun c11 => absurd c11 ((by decide)))
    refine mOk.aload0n dX9_readsSingle_16 rfl ?_
    refine mOk.iconst (x := 3) dX9_readsSingle_17 (by decide) ?_
    refine mOk.aload0n dX9_readsSingle_18 rfl ?_
    refine mOk.getR dX9_readsSingle_19 fl_X9_13 (by first | assumption | rfl) (by first | assumption | rfl) ?_
    refine mOk.aload0n dX9_readsSingle_22 rfl ?_
    refine mOk.getIv dX9_readsSingle_23 fl_X9_95 (by first | assumption | rfl) hn1 ?_
    refine mOk.ialdv dX9_readsSingle_26 (by first | assumption | rfl) rfl (by omega) (by first | assumption | decide | omega) (hM1.C rfl h2) ?_
    refine mOk.aload0n dX9_readsSingle_27 rfl ?_
    refine mOk.getIv dX9_readsSingle_28 fl_X9_95 (by first | assumption | rfl) hn1 ?_
    refine mOk.bipush (x := -9) dX9_readsSingle_31 (by decide) ?_
    refine mOk.callV4 (M' := mX9_comes) dX9_readsSingle_33 ml_X9_102 ke_X9_comes (by first | assumption | rfl) (by decide) (by decide) (by simp [Value.category]) (c_comes hM1 hTO hl (Or.inr (Or.inr ⟨_, ⟨_, h2, rfl⟩, rfl⟩)) ?_)
    intro I2 hM2 ho2
    refine mOk.aload0n dX9_readsSingle_36 rfl ?_
    refine mOk.callV0 (M' := mX9_ends) dX9_readsSingle_37 ml_X9_106 ke_X9_ends (by first | assumption | rfl) (by decide) (by decide) (by simp [Value.category]) (m_ends (q := (3, tC T (nI (tkV bs (skp bs p))), nI (tkV bs (skp bs p)), -9)) (I0 := I) (tkE_le (skp_le hpl)) ((hT.of ho1 (by decide) (by decide)).of ho2 (by decide) (by decide)) hM2 (by rw [ho2.2 9 (by decide)]; exact hp1) ((ho1.up (by decide) (by decide)).tr (ho2.up (by decide) (by decide))) ⟨fun q' e' h I' a b c d => ?_, fun f h I' a b c => ?_⟩)
    · refine mOk.zret dX9_readsSingle_40 rfl (by decide) ?_
      exact hR.1 q' e' h I' a b c d
    · refine mOk.zret dX9_readsSingle_40 rfl (by decide) ?_
      exact hR.2 f h I' a b c
  · have e : sgO bs T p = .inl (skp bs p) := if_neg h0
    rw [e] at hR
    refine mOk.ifne (tgt := 16) dX9_readsSingle_11 (by decide) (fun c11 => absurd (rfl) c11) (fun c11 => ?_)
    refine mOk.iconst (x := 0) dX9_readsSingle_14 (by decide) ?_
    refine mOk.zret dX9_readsSingle_15 rfl (by decide) ?_
    exact hR.2 _ rfl I1 hp1 (skp_le hpl) (ho1.up (by decide) (by decide))
theorem c_mayBegin (hM : Md I T) {j : Nat} (hj : j < T.length) (h1 : mF T (nI j) → Q (some (.int 1)) (hS sw I J)) (h0 : ¬ mF T (nI j) → Q (some (.int 0)) (hS sw I J)) : mCl mX9_mayBegin 0 0 0 [.ref 97, .int (nI j)] (hS sw I J) Q := by
  have hl := hM.1
  have hp4 := hM.P4 (nI j)
  have bad : ¬ mF T (nI j) → mOk mX9_mayBegin 0 0 0 42 [some (.ref 97), some (.int (nI j))] [] (hS sw I J) 0 0 Q := by
    intro z
    refine mOk.iconst (x := 0) dX9_mayBegin_42 (by decide) ?_
    refine mOk.zret dX9_mayBegin_43 rfl (by decide) ?_
    exact h0 z
  have mid : tC T (nI j) = 0 → (tK T (nI j) = 0 ∨ tK T (nI j) = 1) → mOk mX9_mayBegin 0 0 0 28 [some (.ref 97), some (.int (nI j))] [] (hS sw I J) 0 0 Q := by
    intro z1 z2
    refine mOk.aload0n dX9_mayBegin_28 rfl ?_
    refine mOk.getR dX9_mayBegin_29 fl_X9_22 (by first | assumption | rfl) (by first | assumption | rfl) ?_
    refine mOk.iload1n dX9_mayBegin_32 rfl ?_
    refine mOk.ialdv dX9_mayBegin_33 (by first | assumption | rfl) rfl (by omega) (by first | assumption | decide | omega) (hM.P rfl hj) ?_
    refine mOk.iconst (x := nI 4) dX9_mayBegin_34 (by decide) ?_
    refine mOk.icge (tgt := 42) dX9_mayBegin_35 (by decide) (fun c35 => ?_) (fun c35 => ?_)
    · have := (nI_le' (by omega) (by omega)).mp c35
      exact bad (fun w => by have := w.2; omega)
    · have := mt (nI_le' (by omega) (by omega)).mpr c35
      refine mOk.iconst (x := 1) dX9_mayBegin_38 (by decide) ?_
      refine mOk.goto (tgt := 43) dX9_mayBegin_39 (by decide) ?_
      refine mOk.zret dX9_mayBegin_43 rfl (by decide) ?_
      exact h1 ⟨⟨z1, z2⟩, by omega⟩
  refine mCl.of (by decide) rfl (Nat.le_of_ble_eq_true rfl) ?_
  show mOk _ _ _ _ _ [some (.ref 97), some (.int (nI j))] _ _ _ _ _
  refine mOk.aload0n dX9_mayBegin_0 rfl ?_
  refine mOk.getR dX9_mayBegin_1 fl_X9_13 (by first | assumption | rfl) (by first | assumption | rfl) ?_
  refine mOk.iload1n dX9_mayBegin_4 rfl ?_
  refine mOk.ialdv dX9_mayBegin_5 (by first | assumption | rfl) rfl (by omega) (by first | assumption | decide | omega) (hM.C rfl hj) ?_
  refine mOk.ifne (tgt := 42) dX9_mayBegin_6 (by decide) (fun c6 => ?_) (fun c6 => ?_)
  · exact bad (fun w => c6 w.1.1)
  · refine mOk.aload0n dX9_mayBegin_9 rfl ?_
    refine mOk.getR dX9_mayBegin_10 fl_X9_7 (by first | assumption | rfl) (by first | assumption | rfl) ?_
    refine mOk.iload1n dX9_mayBegin_13 rfl ?_
    refine mOk.ialdv dX9_mayBegin_14 (by first | assumption | rfl) rfl (by omega) (by first | assumption | decide | omega) (hM.K rfl hj) ?_
    refine mOk.ifeq (tgt := 28) dX9_mayBegin_15 (by decide) (fun c15 => ?_) (fun c15 => ?_)
    · exact mid c6 (Or.inl c15)
    · refine mOk.aload0n dX9_mayBegin_18 rfl ?_
      refine mOk.getR dX9_mayBegin_19 fl_X9_7 (by first | assumption | rfl) (by first | assumption | rfl) ?_
      refine mOk.iload1n dX9_mayBegin_22 rfl ?_
      refine mOk.ialdv dX9_mayBegin_23 (by first | assumption | rfl) rfl (by omega) (by first | assumption | decide | omega) (hM.K rfl hj) ?_
      refine mOk.iconst (x := 1) dX9_mayBegin_24 (by decide) ?_
      refine mOk.icne (tgt := 42) dX9_mayBegin_25 (by decide) (fun c25 => ?_) (fun c25 => ?_)
      · exact bad (fun w => w.1.2.elim c15 c25)
      · exact mid c6 (Or.inr c25)
theorem c_mayFollow (hM : Md I T) (hTO : TOk T) {i j : Nat} (hi : i < T.length) (hj : j < T.length) {kd : Int32} (hkd : kd = 1 ∨ kd = 2)
    (h1 : mS T kd (nI i) (nI j) ∧ (kd = 1 → pairC T (nI i) (nI j) = -9) → Q (some (.int 1)) (hS sw I J)) (h0 : ¬ (mS T kd (nI i) (nI j) ∧ (kd = 1 → pairC T (nI i) (nI j) = -9)) → Q (some (.int 0)) (hS sw I J)) : mCl mX9_mayFollow 1 0 0 [.ref 97, .int (nI i), .int (nI j), .int kd] (hS sw I J) Q := by
  have hl := hM.1
  have hp4 := hM.P4 (nI i)
  have hcI := hTO.all (nI i) ⟨i, hi, rfl⟩
  have hp0 := hcI.2.2.1
  have hlast := hcI.2.2.2.2.1 ((tP T (nI i)).getD ((tP T (nI i)).length - 1) (-9)) (by rw [List.getD_eq_getElem?_getD, List.getElem?_eq_getElem (by omega)]; exact List.getElem_mem _)
  obtain ⟨⟨k, hk, ek⟩, -⟩ := hlast
  refine mCl.of (by decide) rfl (Nat.le_of_ble_eq_true rfl) ?_
  show mOk _ _ _ _ _ [some (.ref 97), some (.int (nI i)), some (.int (nI j)), some (.int kd), none] _ _ _ _ _
  refine mOk.aload0n dX9_mayFollow_0 rfl ?_
  refine mOk.getR dX9_mayFollow_1 fl_X9_7 (by first | assumption | rfl) (by first | assumption | rfl) ?_
  refine mOk.iload2n dX9_mayFollow_4 rfl ?_
  refine mOk.ialdv dX9_mayFollow_5 (by first | assumption | rfl) rfl (by omega) (by first | assumption | decide | omega) (hM.K rfl hj) ?_
  refine mOk.ifeq (tgt := 11) dX9_mayFollow_6 (by decide) (fun c6 => ?_) (fun c6 => ?_)
  · refine mOk.aload0n dX9_mayFollow_11 rfl ?_
    refine mOk.getR dX9_mayFollow_12 fl_X9_25 (by first | assumption | rfl) (by first | assumption | rfl) ?_
    refine mOk.iconst (x := nI 4) dX9_mayFollow_15 (by decide) ?_
    refine mOk.iload1n dX9_mayFollow_16 rfl ?_
    refine mOk.imul dX9_mayFollow_17 ?_
    refine mOk.top ((pk_mul _ _)) ?_
    refine mOk.aload0n dX9_mayFollow_18 rfl ?_
    refine mOk.getR dX9_mayFollow_19 fl_X9_22 (by first | assumption | rfl) (by first | assumption | rfl) ?_
    refine mOk.iload1n dX9_mayFollow_22 rfl ?_
    refine mOk.ialdv dX9_mayFollow_23 (by first | assumption | rfl) rfl (by omega) (by first | assumption | decide | omega) (hM.P rfl hi) ?_
    refine mOk.iadd dX9_mayFollow_24 ?_
    refine mOk.top ((nI_add _ _)) ?_
    refine mOk.iconst (x := nI 1) dX9_mayFollow_25 (by decide) ?_
    refine mOk.isub dX9_mayFollow_26 ?_
    refine mOk.top ((pk_sub (by omega))) ?_
    refine mOk.ialdv (j := 4 * i + ((tP T (nI i)).length - 1)) dX9_mayFollow_27 (by first | assumption | rfl) (congrArg nI (by omega)) (by omega) (by first | assumption | decide | omega) (hM.p rfl hi (by omega)) ?_
    refine mOk.istore4 dX9_mayFollow_28 (by decide) rfl ?_
    have bad : ¬ (mS T kd (nI i) (nI j) ∧ (kd = 1 → pairC T (nI i) (nI j) = -9)) → mOk mX9_mayFollow 1 0 0 75 [some (.ref 97), some (.int (nI i)), some (.int (nI j)), some (.int kd), some (.int ((tP T (nI i)).getD ((tP T (nI i)).length - 1) (-9)))] [] (hS sw I J) 0 0 Q := by
      intro z
      refine mOk.iconst (x := 0) dX9_mayFollow_75 (by decide) ?_
      refine mOk.zret dX9_mayFollow_76 rfl (by decide) ?_
      exact h0 z
    have good : (mS T kd (nI i) (nI j) ∧ (kd = 1 → pairC T (nI i) (nI j) = -9)) → mOk mX9_mayFollow 1 0 0 71 [some (.ref 97), some (.int (nI i)), some (.int (nI j)), some (.int kd), some (.int ((tP T (nI i)).getD ((tP T (nI i)).length - 1) (-9)))] [] (hS sw I J) 0 0 Q := by
      intro z
      refine mOk.iconst (x := 1) dX9_mayFollow_71 (by decide) ?_
      refine mOk.goto (tgt := 76) dX9_mayFollow_72 (by decide) ?_
      refine mOk.zret dX9_mayFollow_76 rfl (by decide) ?_
      exact h1 z
    rcases hkd with rfl | rfl
    · have mid : (tC T (nI j) = 0 ∨ ¬ tC T (nI j) < tC T ((tP T (nI i)).getD ((tP T (nI i)).length - 1) (-9))) → mOk mX9_mayFollow 1 0 0 60 [some (.ref 97), some (.int (nI i)), some (.int (nI j)), some (.int 1), some (.int ((tP T (nI i)).getD ((tP T (nI i)).length - 1) (-9)))] [] (hS sw I J) 0 0 Q := by
        intro z
        refine mOk.aload0n dX9_mayFollow_60 rfl ?_
        refine mOk.iload1n dX9_mayFollow_61 rfl ?_
        refine mOk.iload2n dX9_mayFollow_62 rfl ?_
        refine mOk.callV2 (M' := mX9_pairOf) dX9_mayFollow_63 ml_X9_78 ke_X9_pairOf (by first | assumption | rfl) (by decide) (by decide) (by simp [Value.category]) (c_mpairOf hM hTO ?_)
        refine mOk.bipush (x := -9) dX9_mayFollow_66 (by decide) ?_
        refine mOk.icne (tgt := 75) dX9_mayFollow_68 (by decide) (fun c68 => ?_) (fun c68 => ?_)
        · exact bad (fun w => c68 (w.2 rfl))
        · exact good ⟨⟨c6, Or.inr z⟩, fun _ => c68⟩
      refine mOk.iload3n dX9_mayFollow_30 rfl ?_
      refine mOk.iconst (x := nI 2) dX9_mayFollow_31 (by decide) ?_
      refine mOk.iceq (tgt := 71) dX9_mayFollow_32 (by decide) (fun c32 => absurd c32 ((by decide))) (fun c32 => ?_)
      refine mOk.aload0n dX9_mayFollow_35 rfl ?_
      refine mOk.getR dX9_mayFollow_36 fl_X9_13 (by first | assumption | rfl) (by first | assumption | rfl) ?_
      refine mOk.iload2n dX9_mayFollow_39 rfl ?_
      refine mOk.ialdv dX9_mayFollow_40 (by first | assumption | rfl) rfl (by omega) (by first | assumption | decide | omega) (hM.C rfl hj) ?_
      refine mOk.ifeq (tgt := 60) dX9_mayFollow_41 (by decide) (fun c41 => ?_) (fun c41 => ?_)
      · exact mid (Or.inl c41)
      · refine mOk.aload0n dX9_mayFollow_44 rfl ?_
        refine mOk.getR dX9_mayFollow_45 fl_X9_13 (by first | assumption | rfl) (by first | assumption | rfl) ?_
        refine mOk.iload2n dX9_mayFollow_48 rfl ?_
        refine mOk.ialdv dX9_mayFollow_49 (by first | assumption | rfl) rfl (by omega) (by first | assumption | decide | omega) (hM.C rfl hj) ?_
        refine mOk.aload0n dX9_mayFollow_50 rfl ?_
        refine mOk.getR dX9_mayFollow_51 fl_X9_13 (by first | assumption | rfl) (by first | assumption | rfl) ?_
        refine mOk.iload4 dX9_mayFollow_54 ?_
        refine mOk.ialdv (j := k) dX9_mayFollow_56 (by first | assumption | rfl) ek (by omega) (by first | assumption | decide | omega) (hM.C ek hk) ?_
        refine mOk.iclt (tgt := 75) dX9_mayFollow_57 (by decide) (fun c57 => ?_) (fun c57 => ?_)
        · exact bad (fun w => by
            rcases w.1.2 with w | w | w
            · exact w rfl
            · exact c41 w
            · exact w c57)
        · exact mid (Or.inr c57)
    · refine mOk.iload3n dX9_mayFollow_30 rfl ?_
      refine mOk.iconst (x := nI 2) dX9_mayFollow_31 (by decide) ?_
      refine mOk.iceq (tgt := 71) dX9_mayFollow_32 (by decide) (fun c32 => ?_) (fun c32 => absurd (rfl) c32)
      exact good ⟨⟨c6, Or.inl (by decide)⟩, fun z => absurd z (by decide)⟩
  · refine mOk.iconst (x := 0) dX9_mayFollow_9 (by decide) ?_
    refine mOk.zret dX9_mayFollow_10 rfl (by decide) ?_
    exact h0 (fun w => c6 w.1.1)
theorem c_readsTwo (hT : MT I bs) (hM : Md I T) (hTO : TOk T) (hl : T.length < 24) (hp : I 97 9 = nI p) (hpl : p ≤ bs.length) {kd : Int32} (hkd : kd = 1 ∨ kd = 2) (h7 : kd = 1 → (prs T).length < 7) (hR : RdQ sw J I bs T (p2 bs T kd p) Q) : mCl mX9_readsTwo 3 0 0 [.ref 97, .int kd] (hS sw I J) Q := by
  have hsl := skp_le hpl
  refine mCl.of (by decide) rfl (Nat.le_of_ble_eq_true rfl) ?_
  show mOk _ _ _ _ _ [some (.ref 97), some (.int kd), none, none, none] _ _ _ _ _
  refine mOk.aload0n dX9_readsTwo_0 rfl ?_
  refine mOk.callV0 (M' := mX9_skip) dX9_readsTwo_1 ml_X9_92 ke_X9_skip (by first | assumption | rfl) (by decide) (by decide) (by simp [Value.category]) (c_skip hT hp hpl ?_)
  intro I1 hp1 ho1
  have hT1 := hT.of ho1 (by decide) (by decide)
  have hM1 := hM.of ho1 (by decide) (by decide)
  refine mOk.aload0n dX9_readsTwo_4 rfl ?_
  refine mOk.getIv dX9_readsTwo_5 fl_X9_85 (by first | assumption | rfl) hp1 ?_
  refine mOk.istore2n dX9_readsTwo_8 rfl (by decide) rfl ?_
  refine mOk.aload0n dX9_readsTwo_9 rfl ?_
  refine mOk.iconst (x := nI 0) dX9_readsTwo_10 (by decide) ?_
  refine mOk.aload0n dX9_readsTwo_11 rfl ?_
  refine mOk.getIv dX9_readsTwo_12 fl_X9_62 (by first | assumption | rfl) hM1.2.1 ?_
  refine mOk.iconst (x := nI 1) dX9_readsTwo_15 (by decide) ?_
  refine mOk.isub dX9_readsTwo_16 ?_
  refine mOk.callV2 (M' := mX9_number) dX9_readsTwo_17 ml_X9_98 ke_X9_number (by first | assumption | rfl) (by decide) (by decide) (by simp [Value.category]) (c_number (H := T.length) (by omega) hT1 hp1 hsl (fun h1 h2 I2 hp2 hn2 ho2 => ?_) (fun h0 I2 hp2 ho2 => ?_))
  · rw [skp_skp] at h1 h2 hp2 hn2
    have hT2 := hT1.of ho2 (by decide) (by decide)
    have hM2 := hM1.of ho2 (by decide) (by decide)
    have hel := tkE_le hsl
    have hsl2 := skp_le hel
    have o2 : Of [0, 9, 10] MS I I2 := (ho1.up (by decide) (by decide)).tr (ho2.up (by decide) (by decide))
    refine mOk.ifne (tgt := 25) dX9_readsTwo_20 (by decide) (fun c20 => ?_) (fun c20 => absurd c20 ((by decide)))
    refine mOk.aload0n dX9_readsTwo_25 rfl ?_
    refine mOk.getIv dX9_readsTwo_26 fl_X9_95 (by first | assumption | rfl) hn2 ?_
    refine mOk.istore3n dX9_readsTwo_29 rfl (by decide) rfl ?_
    refine mOk.aload0n dX9_readsTwo_30 rfl ?_
    refine mOk.iload3n dX9_readsTwo_31 rfl ?_
    refine mOk.callV1 (M' := mX9_mayBegin) dX9_readsTwo_32 ml_X9_110 ke_X9_mayBegin (by first | assumption | rfl) (by decide) (by decide) (by simp [Value.category]) (c_mayBegin hM2 h2 (fun hm => ?_) (fun hm => ?_))
    · have z1 : tkK bs (skp bs p) = 2 ∧ mF T (nI (tkV bs (skp bs p))) := ⟨h1, hm⟩
      refine mOk.ifne (tgt := 45) dX9_readsTwo_35 (by decide) (fun c35 => ?_) (fun c35 => absurd c35 ((by decide)))
      refine mOk.aload0n dX9_readsTwo_45 rfl ?_
      refine mOk.callV0 (M' := mX9_skip) dX9_readsTwo_46 ml_X9_92 ke_X9_skip (by first | assumption | rfl) (by decide) (by decide) (by simp [Value.category]) (c_skip hT2 hp2 hel ?_)
      intro I3 hp3 ho3
      have hT3 := hT2.of ho3 (by decide) (by decide)
      have hM3 := hM2.of ho3 (by decide) (by decide)
      have o3 : Of [0, 9, 10] MS I I3 := o2.tr (ho3.up (by decide) (by decide))
      refine mOk.aload0n dX9_readsTwo_49 rfl ?_
      refine mOk.getIv dX9_readsTwo_50 fl_X9_85 (by first | assumption | rfl) hp3 ?_
      refine mOk.istore2n dX9_readsTwo_53 rfl (by decide) rfl ?_
      refine mOk.aload0n dX9_readsTwo_54 rfl ?_
      refine mOk.iconst (x := nI 0) dX9_readsTwo_55 (by decide) ?_
      refine mOk.aload0n dX9_readsTwo_56 rfl ?_
      refine mOk.getIv dX9_readsTwo_57 fl_X9_62 (by first | assumption | rfl) hM3.2.1 ?_
      refine mOk.iconst (x := nI 1) dX9_readsTwo_60 (by decide) ?_
      refine mOk.isub dX9_readsTwo_61 ?_
      refine mOk.callV2 (M' := mX9_number) dX9_readsTwo_62 ml_X9_98 ke_X9_number (by first | assumption | rfl) (by decide) (by decide) (by simp [Value.category]) (c_number (H := T.length) (by omega) hT3 hp3 hsl2 (fun g1 g2 I4 hp4 hn4 ho4 => ?_) (fun g0 I4 hp4 ho4 => ?_))
      · rw [skp_skp] at g1 g2 hp4 hn4
        have hT4 := hT3.of ho4 (by decide) (by decide)
        have hM4 := hM3.of ho4 (by decide) (by decide)
        have o4 : Of [0, 9, 10] MS I I4 := o3.tr (ho4.up (by decide) (by decide))
        refine mOk.ifne (tgt := 70) dX9_readsTwo_65 (by decide) (fun c65 => ?_) (fun c65 => absurd c65 ((by decide)))
        refine mOk.aload0n dX9_readsTwo_70 rfl ?_
        refine mOk.getIv dX9_readsTwo_71 fl_X9_95 (by first | assumption | rfl) hn4 ?_
        refine mOk.istore4 dX9_readsTwo_74 (by decide) rfl ?_
        refine mOk.aload0n dX9_readsTwo_76 rfl ?_
        refine mOk.iload3n dX9_readsTwo_77 rfl ?_
        refine mOk.iload4 dX9_readsTwo_78 ?_
        refine mOk.iload1n dX9_readsTwo_80 rfl ?_
        refine mOk.callV3 (M' := mX9_mayFollow) dX9_readsTwo_81 ml_X9_113 ke_X9_mayFollow (by first | assumption | rfl) (by decide) (by decide) (by simp [Value.category]) (c_mayFollow hM4 hTO h2 g2 hkd (fun hf => ?_) (fun hf => ?_))
        · have e : p2 bs T kd p = .inr ((kd, 0, nI (tkV bs (skp bs p)), nI (tkV bs (skp bs (tkE bs (skp bs p))))), tkE bs (skp bs (tkE bs (skp bs p)))) := by
            unfold p2
            rw [cif_pos z1, cif_pos ⟨g1, hf.1, hf.2⟩]
          rw [e] at hR
          refine mOk.ifne (tgt := 94) dX9_readsTwo_84 (by decide) (fun c84 => ?_) (fun c84 => absurd c84 ((by decide)))
          refine mOk.aload0n dX9_readsTwo_94 rfl ?_
          refine mOk.iload1n dX9_readsTwo_95 rfl ?_
          refine mOk.iconst (x := 0) dX9_readsTwo_96 (by decide) ?_
          refine mOk.iload3n dX9_readsTwo_97 rfl ?_
          refine mOk.iload4 dX9_readsTwo_98 ?_
          refine mOk.callV4 (M' := mX9_comes) dX9_readsTwo_100 ml_X9_102 ke_X9_comes (by first | assumption | rfl) (by decide) (by decide) (by simp [Value.category]) (c_comes hM4 hTO hl (Or.inr (Or.inl ⟨kd, _, _, hkd, ⟨_, h2, rfl⟩, ⟨_, g2, rfl⟩, hm, hf.1, fun w => ⟨hf.2 w, h7 w⟩, rfl⟩)) ?_)
          intro I5 hM5 ho5
          refine mOk.aload0n dX9_readsTwo_103 rfl ?_
          refine mOk.callV0 (M' := mX9_ends) dX9_readsTwo_104 ml_X9_106 ke_X9_ends (by first | assumption | rfl) (by decide) (by decide) (by simp [Value.category]) (m_ends (q := (kd, 0, nI (tkV bs (skp bs p)), nI (tkV bs (skp bs (tkE bs (skp bs p)))))) (I0 := I) (tkE_le hsl2) (hT4.of ho5 (by decide) (by decide)) hM5 (by rw [ho5.2 9 (by decide)]; exact hp4) (o4.tr (ho5.up (by decide) (by decide))) ⟨fun q' e' h I' a b c d => ?_, fun f h I' a b c => ?_⟩)
          · refine mOk.zret dX9_readsTwo_107 rfl (by decide) ?_
            exact hR.1 q' e' h I' a b c d
          · refine mOk.zret dX9_readsTwo_107 rfl (by decide) ?_
            exact hR.2 f h I' a b c
        · have e : p2 bs T kd p = .inl (skp bs (tkE bs (skp bs p))) := by
            unfold p2
            rw [cif_pos z1, cif_neg (fun w => hf w.2)]
          rw [e] at hR
          refine mOk.ifne (tgt := 94) dX9_readsTwo_84 (by decide) (fun c84 => absurd (rfl) c84) (fun c84 => ?_)
          refine mOk.aload0n dX9_readsTwo_87 rfl ?_
          refine mOk.iload2n dX9_readsTwo_88 rfl ?_
          refine mOk.putIt dX9_readsTwo_89 fl_X9_85 (by first | assumption | rfl) ?_
          refine mOk.iconst (x := 0) dX9_readsTwo_92 (by decide) ?_
          refine mOk.zret dX9_readsTwo_93 rfl (by decide) ?_
          exact hR.2 _ rfl _ (wI_s _ _ _ _) hsl2 (o4.tr (Of.f (by decide)))
      · rw [skp_skp] at g0 hp4
        have e : p2 bs T kd p = .inl (skp bs (tkE bs (skp bs p))) := by
          unfold p2
          rw [cif_pos z1, cif_neg]
          intro w
          refine g0 ⟨w.1, ?_⟩
          obtain ⟨j, hj, ej⟩ := okC_of_K (by omega) w.2.1.1
          have h99 := nI_lt100 w.1
          have := (nI_eq' (by omega) (by omega)).mp ej
          omega
        rw [e] at hR
        refine mOk.ifne (tgt := 70) dX9_readsTwo_65 (by decide) (fun c65 => absurd (rfl) c65) (fun c65 => ?_)
        refine mOk.iconst (x := 0) dX9_readsTwo_68 (by decide) ?_
        refine mOk.zret dX9_readsTwo_69 rfl (by decide) ?_
        exact hR.2 _ rfl I4 hp4 hsl2 (o3.tr (ho4.up (by decide) (by decide)))
    · have e : p2 bs T kd p = .inl (skp bs p) := by
        unfold p2
        rw [cif_neg (fun w => hm w.2)]
      rw [e] at hR
      refine mOk.ifne (tgt := 45) dX9_readsTwo_35 (by decide) (fun c35 => absurd (rfl) c35) (fun c35 => ?_)
      refine mOk.aload0n dX9_readsTwo_38 rfl ?_
      refine mOk.iload2n dX9_readsTwo_39 rfl ?_
      refine mOk.putIt dX9_readsTwo_40 fl_X9_85 (by first | assumption | rfl) ?_
      refine mOk.iconst (x := 0) dX9_readsTwo_43 (by decide) ?_
      refine mOk.zret dX9_readsTwo_44 rfl (by decide) ?_
      exact hR.2 _ rfl _ (wI_s _ _ _ _) hsl (o2.tr (Of.f (by decide)))
  · rw [skp_skp] at h0 hp2
    have e : p2 bs T kd p = .inl (skp bs p) := by
      unfold p2
      rw [cif_neg]
      intro w
      refine h0 ⟨w.1, ?_⟩
      obtain ⟨j, hj, ej⟩ := okC_of_C (by omega) w.2.1.1
      have h99 := nI_lt100 w.1
      have := (nI_eq' (by omega) (by omega)).mp ej
      omega
    rw [e] at hR
    refine mOk.ifne (tgt := 25) dX9_readsTwo_20 (by decide) (fun c20 => absurd (rfl) c20) (fun c20 => ?_)
    refine mOk.iconst (x := 0) dX9_readsTwo_23 (by decide) ?_
    refine mOk.zret dX9_readsTwo_24 rfl (by decide) ?_
    exact hR.2 _ rfl I2 hp2 hsl ((ho1.up (by decide) (by decide)).tr (ho2.up (by decide) (by decide)))
end MODEL4
