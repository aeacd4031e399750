/-! ===== the reference: what it holds; texts, notes ===== -/
def MX (I : Nat → Nat → Int32) (tx : Nat → List Int32) : Prop := ∀ t, t < 4 → (tx t).length ≤ 16 ∧ I 106 t = nI (tx t).length ∧ ∀ k c, (tx t)[k]? = some c → I 107 (16 * t + k) = c
def MP (I : Nat → Nat → Int32) (pp : List Nat) : Prop := pp.length ≤ 4 ∧ I 97 14 = nI pp.length ∧ ∀ k, k < pp.length → I 108 k = nI (pp.getD k 0)
def MHy (I : Nat → Nat → Int32) (hs : List (Nat × List Int32)) : Prop := hs.length ≤ 10 ∧ I 97 17 = nI hs.length ∧ ∀ k q, hs[k]? = some q → q.2.length ≤ 16 ∧ I 109 (18 * (hs.length - 1 - k)) = nI q.1 ∧ I 109 (18 * (hs.length - 1 - k) + 1) = nI q.2.length ∧ ∀ i c, q.2[i]? = some c → I 109 (18 * (hs.length - 1 - k) + 2 + i) = c
def MI1 (I : Nat → Nat → Int32) (i : Nat) (b : Option ((Nat → List Int32) × List Nat)) : Prop := match b with
  | none => I 114 (74 * i) = 0
  | some b => I 114 (74 * i) = 1 ∧ I 114 (74 * i + 1) = nI b.2.length ∧ b.2.length ≤ 4 ∧ (∀ k, k < b.2.length → I 114 (74 * i + 2 + k) = nI (b.2.getD k 0)) ∧ ∀ t, t < 4 → (b.1 t).length ≤ 16 ∧ I 114 (74 * i + 6 + t) = nI (b.1 t).length ∧ ∀ k c, (b.1 t)[k]? = some c → I 114 (74 * i + 10 + (16 * t + k)) = c
def MIm (I : Nat → Nat → Int32) (im : ImT) : Prop := ∀ i, i < 2 → MI1 I i (im i)
def InvM (I : Nat → Nat → Int32) (bs : List Nat) (T : List CR) (tx : Nat → List Int32) (pp : List Nat) (hs : List (Nat × List Int32)) (im : ImT) : Prop := Md I T ∧ MT I bs ∧ MX I tx ∧ MP I pp ∧ MHy I hs ∧ MIm I im
section MST
variable {F S : List Nat} {I I' : Nat → Nat → Int32} {bs : List Nat} {T : List CR} {tx : Nat → List Int32} {pp : List Nat} {hs : List (Nat × List Int32)} {im : ImT}
theorem MX.of (h : MX I tx) (ho : Of F S I I') (h1 : 106 ∉ S) (h2 : 107 ∉ S) : MX I' tx := by
  unfold MX
  rw [ho.1 106 (by decide) h1, ho.1 107 (by decide) h2]
  exact h
theorem MP.of (h : MP I pp) (ho : Of F S I I') (hF : 14 ∉ F) (h1 : 108 ∉ S) : MP I' pp := by
  unfold MP
  rw [ho.1 108 (by decide) h1, ho.2 14 hF]
  exact h
theorem MHy.of (h : MHy I hs) (ho : Of F S I I') (hF : 17 ∉ F) (h1 : 109 ∉ S) : MHy I' hs := by
  unfold MHy
  rw [ho.1 109 (by decide) h1, ho.2 17 hF]
  exact h
theorem MIm.of (h : MIm I im) (ho : Of F S I I') (h1 : 114 ∉ S) : MIm I' im := by
  intro i hi
  have := h i hi
  unfold MI1 at this ⊢
  rw [ho.1 114 (by decide) h1]
  exact this
theorem InvM.of (h : InvM I bs T tx pp hs im) (ho : Of F S I I') (hF : ∀ f ∈ [0, 8, 14, 17], f ∉ F) (hS : ∀ a ∈ [98, 99, 100, 101, 102, 103, 104, 106, 107, 108, 109, 114], a ∉ S) : InvM I' bs T tx pp hs im := by
  obtain ⟨h1, h2, h3, h4, h5, h6⟩ := h
  exact ⟨h1.of ho (hF 0 (by decide)) (fun a ha => hS a (by revert a; decide)), h2.of ho (hF 8 (by decide)) (hS 104 (by decide)), h3.of ho (hS 106 (by decide)) (hS 107 (by decide)), h4.of ho (hF 14 (by decide)) (hS 108 (by decide)), h5.of ho (hF 17 (by decide)) (hS 109 (by decide)), h6.of ho (hS 114 (by decide))⟩
theorem InvM.lo (h : InvM I bs T tx pp hs im) (ho : Fr I I') : InvM I' bs T tx pp hs im := by
  obtain ⟨h1, h2, h3, h4, h5, h6⟩ := h
  have e : ∀ a, 97 ≤ a → I' a = I a := ho
  refine ⟨?_, ?_, ?_, ?_, ?_, ?_⟩
  · unfold Md
    rw [e 97 (by omega), e 98 (by omega), e 99 (by omega), e 100 (by omega), e 101 (by omega), e 102 (by omega), e 103 (by omega)]
    exact h1
  · unfold MT
    rw [e 97 (by omega), e 104 (by omega)]
    exact h2
  · unfold MX
    rw [e 106 (by omega), e 107 (by omega)]
    exact h3
  · unfold MP
    rw [e 97 (by omega), e 108 (by omega)]
    exact h4
  · unfold MHy
    rw [e 97 (by omega), e 109 (by omega)]
    exact h5
  · intro i hi
    have := h6 i hi
    unfold MI1 at this ⊢
    rw [e 114 (by omega)]
    exact this
end MST
section MODEL6
variable {sw : Bool} {I : Nat → Nat → Int32} {J : Nat → Nat → Int64} {Q : Option Value → mi_H → Prop} {bs : List Nat} {T : List CR} {tx : Nat → List Int32} {pp : List Nat} {hs : List (Nat × List Int32)} {im : ImT}
theorem M_type_out {c : Int32} (hc : c < 0 ∨ nI 256 ≤ c) (hQ : Q (some (.int (-1))) (hS sw I J)) : mCl mX9_type 1 0 0 [.ref 97, .int c] (hS sw I J) Q := by
  refine mCl.of (by decide) rfl (Nat.le_of_ble_eq_true rfl) ?_
  show mOk _ _ _ _ _ [some (.ref 97), some (.int c)] _ _ _ _ _
  refine mOk.iload1n dX9_type_0 rfl ?_
  refine mOk.iconst (x := nI 0) dX9_type_1 (by decide) ?_
  refine mOk.sipush (x := nI 255) dX9_type_2 (by decide) ?_
  refine mOk.callS3 (M' := mX9_in) dX9_type_5 ml_X9_66 ke_X9_in rfl (by decide) (by decide) (by simp [Value.category]) (c_in_n (hc.imp id (i32_ltg (by omega))) ?_)
  refine mOk.ifne (tgt := 13) dX9_type_8 (by decide) (fun c8 => absurd (rfl) c8) (fun c8 => ?_)
  refine mOk.iconst (x := -1) dX9_type_11 (by decide) ?_
  refine mOk.iret dX9_type_12 rfl hQ
theorem M_type_full {k : Nat} (hk : k < 256) (h : MT I bs) (hl : bs.length = 150) (hQ : Q (some (.int (-3))) (hS sw I J)) : mCl mX9_type 1 0 0 [.ref 97, .int (nI k)] (hS sw I J) Q := by
  refine mCl.of (by decide) rfl (Nat.le_of_ble_eq_true rfl) ?_
  show mOk _ _ _ _ _ [some (.ref 97), some (.int (nI k))] _ _ _ _ _
  refine mOk.iload1n dX9_type_0 rfl ?_
  refine mOk.iconst (x := nI 0) dX9_type_1 (by decide) ?_
  refine mOk.sipush (x := nI 255) dX9_type_2 (by decide) ?_
  refine mOk.callS3 (M' := mX9_in) dX9_type_5 ml_X9_66 ke_X9_in rfl (by decide) (by decide) (by simp [Value.category]) (c_in_y (nI_neg' (by omega)) (mt (nI_lt' (by omega) (by omega)).mp (by omega)) ?_)
  refine mOk.ifne (tgt := 13) dX9_type_8 (by decide) (fun c8 => ?_) (fun c8 => absurd c8 ((by decide)))
  refine mOk.aload0n dX9_type_13 rfl ?_
  refine mOk.getIv dX9_type_14 fl_X9_82 (by first | assumption | rfl) h.1 ?_
  refine mOk.sipush (x := nI 150) dX9_type_17 (by decide) ?_
  refine mOk.icne (tgt := 26) dX9_type_20 (by decide) (fun c20 => absurd ((by rw [hl])) c20) (fun c20 => ?_)
  refine mOk.bipush (x := -3) dX9_type_23 (by decide) ?_
  refine mOk.iret dX9_type_25 rfl hQ
theorem M_type_in {k : Nat} (hk : k < 256) (h : InvM I bs T tx pp hs im) (hl : bs.length < 150) (hQ : ∀ I', InvM I' (bs ++ [k]) T tx pp hs im → Of [8] [104] I I' → Q (some (.int (nI (bs.length + 1)))) (hS sw I' J)) : mCl mX9_type 1 0 0 [.ref 97, .int (nI k)] (hS sw I J) Q := by
  obtain ⟨h1, h2, h3, h4, h5, h6⟩ := h
  refine mCl.of (by decide) rfl (Nat.le_of_ble_eq_true rfl) ?_
  show mOk _ _ _ _ _ [some (.ref 97), some (.int (nI k))] _ _ _ _ _
  refine mOk.iload1n dX9_type_0 rfl ?_
  refine mOk.iconst (x := nI 0) dX9_type_1 (by decide) ?_
  refine mOk.sipush (x := nI 255) dX9_type_2 (by decide) ?_
  refine mOk.callS3 (M' := mX9_in) dX9_type_5 ml_X9_66 ke_X9_in rfl (by decide) (by decide) (by simp [Value.category]) (c_in_y (nI_neg' (by omega)) (mt (nI_lt' (by omega) (by omega)).mp (by omega)) ?_)
  refine mOk.ifne (tgt := 13) dX9_type_8 (by decide) (fun c8 => ?_) (fun c8 => absurd c8 ((by decide)))
  refine mOk.aload0n dX9_type_13 rfl ?_
  refine mOk.getIv dX9_type_14 fl_X9_82 (by first | assumption | rfl) h2.1 ?_
  refine mOk.sipush (x := nI 150) dX9_type_17 (by decide) ?_
  refine mOk.icne (tgt := 26) dX9_type_20 (by decide) (fun c20 => ?_) (fun c20 => absurd c20 (mt (nI_eq' (by omega) (by omega)).mp (by omega)))
  refine mOk.aload0n dX9_type_26 rfl ?_
  refine mOk.getR dX9_type_27 fl_X9_28 (by first | assumption | rfl) (by first | assumption | rfl) ?_
  refine mOk.aload0n dX9_type_30 rfl ?_
  refine mOk.getIv dX9_type_31 fl_X9_82 (by first | assumption | rfl) h2.1 ?_
  refine mOk.iload1n dX9_type_34 rfl ?_
  refine mOk.iastt dX9_type_35 (by first | assumption | rfl) rfl (by omega) (by first | assumption | decide | omega) ?_
  have e8 : wI I 104 bs.length (nI k) 97 8 = nI bs.length := by rw [wI_c (by decide)]; exact h2.1
  refine mOk.aload0n dX9_type_36 rfl ?_
  refine mOk.dup dX9_type_37 rfl ?_
  refine mOk.getIv dX9_type_38 fl_X9_82 (by first | assumption | rfl) e8 ?_
  refine mOk.iconst (x := nI 1) dX9_type_41 (by decide) ?_
  refine mOk.iadd dX9_type_42 ?_
  refine mOk.top ((nI_add _ _)) ?_
  refine mOk.putIt dX9_type_43 fl_X9_82 (by first | assumption | rfl) ?_
  refine mOk.aload0n dX9_type_46 rfl ?_
  refine mOk.getIv dX9_type_47 fl_X9_82 (by first | assumption | rfl) (wI_s (wI I 104 bs.length (nI k)) 97 8 (nI (bs.length + 1))) ?_
  refine mOk.iret dX9_type_50 rfl ?_
  have o : Of [8] [104] I (wI (wI I 104 bs.length (nI k)) 97 8 (nI (bs.length + 1))) := (Of.a (by decide) (by decide)).tr (Of.f (by decide))
  refine hQ _ ⟨h1.of o (by decide) (by decide), ⟨by rw [wI_s]; simp, by simp; omega, fun b hb => ?_, fun j hj => ?_⟩, h3.of o (by decide) (by decide), h4.of o (by decide) (by decide), h5.of o (by decide) (by decide), h6.of o (by decide)⟩ o
  · rw [List.mem_append, List.mem_singleton] at hb
    rcases hb with hb | rfl
    · exact h2.2.2.1 b hb
    · exact hk
  · rw [wI_c (by decide)]
    simp at hj
    rcases Nat.lt_or_ge j bs.length with z | z
    · rw [wI_j (by omega), h2.2.2.2 j z, List.getD_eq_getElem?_getD, List.getD_eq_getElem?_getD, List.getElem?_append_left z]
    · rw [show j = bs.length by omega, wI_s]
      simp
theorem M_clear (h : InvM I bs T tx pp hs im) (hQ : ∀ I', InvM I' [] T tx pp hs im → Of [8] [] I I' → Q (some (.int (nI bs.length))) (hS sw I' J)) : mCl mX9_clear 0 0 0 [.ref 97] (hS sw I J) Q := by
  obtain ⟨h1, h2, h3, h4, h5, h6⟩ := h
  refine mCl.of (by decide) rfl (Nat.le_of_ble_eq_true rfl) ?_
  show mOk _ _ _ _ _ [some (.ref 97), none] _ _ _ _ _
  refine mOk.aload0n dX9_clear_0 rfl ?_
  refine mOk.getIv dX9_clear_1 fl_X9_82 (by first | assumption | rfl) h2.1 ?_
  refine mOk.istore1n dX9_clear_4 rfl (by decide) rfl ?_
  refine mOk.aload0n dX9_clear_5 rfl ?_
  refine mOk.iconst (x := nI 0) dX9_clear_6 (by decide) ?_
  refine mOk.putIt dX9_clear_7 fl_X9_82 (by first | assumption | rfl) ?_
  have o : Of [8] [] I (wI I 97 8 (nI 0)) := Of.f (by decide)
  refine mOk.iload1n dX9_clear_10 rfl ?_
  refine mOk.iret dX9_clear_11 rfl ?_
  exact hQ _ ⟨h1.of o (by decide) (by decide), ⟨by rw [wI_s]; rfl, by simp, by simp, by simp⟩, h3.of o (by decide) (by decide), h4.of o (by decide) (by decide), h5.of o (by decide) (by decide), h6.of o (by decide)⟩ o
theorem l_mtables {I0 : Nat → Nat → Int32} (hQ : ∀ I', (∀ t, t < 4 → I' 106 t = nI 0) → (∀ i, i < 2 → I' 114 (74 * i) = 0) → Of [] [106, 114] I0 I' → Q (some (.int (I0 97 0))) (hS sw I' J)) :
    ∀ (m i : Nat) (I : Nat → Nat → Int32), i + m = 4 → (∀ t, t < i → I 106 t = nI 0) → Of [] [106, 114] I0 I → mOk mX9_tables 6 0 0 40 [some (.ref 97), some (.int (nI i))] [] (hS sw I J) 0 0 Q := by
  intro m
  induction m with
  | zero =>
    intro i I hi h0 ho
    refine mOk.iload1n dX9_tables_40 rfl ?_
    refine mOk.iconst (x := nI 4) dX9_tables_41 (by decide) ?_
    refine mOk.icge (tgt := 58) dX9_tables_42 (by decide) (fun c42 => ?_) (fun c42 => absurd ((nI_le' (by omega) (by omega)).mpr (by omega)) c42)
    refine mOk.aload0n dX9_tables_58 rfl ?_
    refine mOk.getR dX9_tables_59 fl_X9_59 (by first | assumption | rfl) (by first | assumption | rfl) ?_
    refine mOk.iconst (x := nI 0) dX9_tables_62 (by decide) ?_
    refine mOk.iconst (x := 0) dX9_tables_63 (by decide) ?_
    refine mOk.iastt (j := 0) dX9_tables_64 (by first | assumption | rfl) rfl (by omega) (by first | assumption | decide | omega) ?_
    refine mOk.aload0n dX9_tables_65 rfl ?_
    refine mOk.getR dX9_tables_66 fl_X9_59 (by first | assumption | rfl) (by first | assumption | rfl) ?_
    refine mOk.bipush (x := nI 74) dX9_tables_69 (by decide) ?_
    refine mOk.iconst (x := 0) dX9_tables_71 (by decide) ?_
    refine mOk.iastt (j := 74) dX9_tables_72 (by first | assumption | rfl) rfl (by omega) (by first | assumption | decide | omega) ?_
    have o : Of [] [106, 114] I (wI (wI I 114 0 0) 114 74 0) := (Of.a (by decide) (by decide)).tr (Of.a (by decide) (by decide))
    refine mOk.aload0n dX9_tables_73 rfl ?_
    refine mOk.getIv dX9_tables_74 fl_X9_62 (by first | assumption | rfl) ((o.2 0 (by decide)).trans (ho.2 0 (by decide))) ?_
    refine mOk.iret dX9_tables_77 rfl ?_
    refine hQ _ (fun t ht => ?_) (fun i hi => ?_) (ho.tr o)
    · rw [wI_c (by decide), wI_c (by decide)]
      exact h0 t (by omega)
    · rcases (show i = 0 ∨ i = 1 by omega) with rfl | rfl
      · rw [wI_j (by decide), wI_s]
      · rw [wI_s]
  | succ m ih =>
    intro i I hi h0 ho
    refine mOk.iload1n dX9_tables_40 rfl ?_
    refine mOk.iconst (x := nI 4) dX9_tables_41 (by decide) ?_
    refine mOk.icge (tgt := 58) dX9_tables_42 (by decide) (fun c42 => absurd c42 (mt (nI_le' (by omega) (by omega)).mp (by omega))) (fun c42 => ?_)
    refine mOk.aload0n dX9_tables_45 rfl ?_
    refine mOk.getR dX9_tables_46 fl_X9_34 (by first | assumption | rfl) (by first | assumption | rfl) ?_
    refine mOk.iload1n dX9_tables_49 rfl ?_
    refine mOk.iconst (x := nI 0) dX9_tables_50 (by decide) ?_
    refine mOk.iastt dX9_tables_51 (by first | assumption | rfl) rfl (by omega) (by first | assumption | decide | omega) ?_
    refine mOk.iinc1 dX9_tables_52 (mOk.inc1 rfl) (by decide) rfl ?_
    refine mOk.goto (tgt := 40) dX9_tables_55 (by decide) ?_
    refine ih (i + 1) _ (by omega) (fun t ht => ?_) (ho.tr (Of.a (by decide) (by decide)))
    rcases Nat.lt_or_ge t i with z | z
    · rw [wI_j (by omega)]
      exact h0 t z
    · rw [show t = i by omega, wI_s]
abbrev FT : List Nat := [0, 8, 9, 10, 14, 17]
abbrev ST : List Nat := [98, 99, 100, 101, 102, 103, 105, 106, 114]
theorem M_tables (h : InvM I bs T tx pp hs im) (hTO : TOk T)
    (hQ1 : ∀ T', pall bs 25 [] 0 = .inr T' → ∀ I', InvM I' [] T' (fun _ => []) [] [] (fun _ => none) → Of FT ST I I' → Q (some (.int (nI T'.length))) (hS sw I' J))
    (hQ0 : ∀ f, pall bs 25 [] 0 = .inl f → ∀ I', InvM I' bs T tx pp hs im → Of FT ST I I' → Q (some (.int (Int32.ofInt (-10) - nI f))) (hS sw I' J)) : mCl mX9_tables 6 0 0 [.ref 97] (hS sw I J) Q := by
  obtain ⟨h1, h2, h3, h4, h5, h6⟩ := id h
  refine mCl.of (by decide) rfl (Nat.le_of_ble_eq_true rfl) ?_
  show mOk _ _ _ _ _ [some (.ref 97), none] _ _ _ _ _
  refine mOk.aload0n dX9_tables_0 rfl ?_
  refine mOk.callV0 (M' := mX9_lays) dX9_tables_1 ml_X9_132 ke_X9_lays (by first | assumption | rfl) (by decide) (by decide) (by simp [Value.category]) (c_lays h1 ?_)
  intro I1 hB1 ho1
  refine mOk.aload0n dX9_tables_4 rfl ?_
  refine mOk.callV0 (M' := mX9_readsAll) dX9_tables_5 ml_X9_135 ke_X9_readsAll (by first | assumption | rfl) (by decide) (by decide) (by simp [Value.category]) (c_readsAll (h2.of ho1 (by decide) (by decide)) (fun T1 hp I2 hM2 hT1 ho2 => ?_) (fun f hf I2 hp2 hfl ho2 => ?_))
  · refine mOk.ifne (tgt := 23) dX9_tables_8 (by decide) (fun c8 => ?_) (fun c8 => absurd c8 ((by decide)))
    refine mOk.aload0n dX9_tables_23 rfl ?_
    refine mOk.iconst (x := nI 0) dX9_tables_24 (by decide) ?_
    refine mOk.putIt dX9_tables_25 fl_X9_82 (by first | assumption | rfl) ?_
    refine mOk.aload0n dX9_tables_28 rfl ?_
    refine mOk.iconst (x := nI 0) dX9_tables_29 (by decide) ?_
    refine mOk.putIt dX9_tables_30 fl_X9_141 (by first | assumption | rfl) ?_
    refine mOk.aload0n dX9_tables_33 rfl ?_
    refine mOk.iconst (x := nI 0) dX9_tables_34 (by decide) ?_
    refine mOk.putIt dX9_tables_35 fl_X9_144 (by first | assumption | rfl) ?_
    refine mOk.iconst (x := nI 0) dX9_tables_38 (by decide) ?_
    refine mOk.istore1n dX9_tables_39 rfl (by decide) rfl ?_
    have o3 : Of [8, 14, 17] [] I2 (wI (wI (wI I2 97 8 (nI 0)) 97 14 (nI 0)) 97 17 (nI 0)) := (Of.f (by decide)).tr ((Of.f (by decide)).tr (Of.f (by decide)))
    refine l_mtables (I0 := wI (wI (wI I2 97 8 (nI 0)) 97 14 (nI 0)) 97 17 (nI 0)) (fun I4 h106 h114 ho4 => ?_) 4 0 _ rfl (fun t ht => absurd ht (Nat.not_lt_zero t)) Of.rf
    rw [show wI (wI (wI I2 97 8 (nI 0)) 97 14 (nI 0)) 97 17 (nI 0) 97 0 = nI T1.length by rw [o3.2 0 (by decide)]; exact hM2.2.1]
    refine hQ1 T1 hp I4 ⟨(hM2.of o3 (by decide) (by decide)).of ho4 (by decide) (by decide), ⟨?_, by simp, by simp, by simp⟩, fun t ht => ⟨by simp, h106 t ht, fun k c hk => by simp at hk⟩, ⟨by simp, ?_, by simp⟩, ⟨by simp, ?_, fun k q hk => by simp at hk⟩, fun i hi => h114 i hi⟩ (((ho1.up (by decide) (by decide)).tr (ho2.up (by decide) (by decide))).tr ((o3.up (by decide) (by decide)).tr (ho4.up (by decide) (by decide))))
    · rw [ho4.2 8 (by decide), wI_j (by decide), wI_j (by decide), wI_s]
      rfl
    · rw [ho4.2 14 (by decide), wI_j (by decide), wI_s]
      rfl
    · rw [ho4.2 17 (by decide), wI_s]
      rfl
  · have hB2 : Bf I2 T := by
      unfold Bf
      rw [ho2.1 105 (by decide) (by decide)]
      exact hB1
    refine mOk.ifne (tgt := 23) dX9_tables_8 (by decide) (fun c8 => absurd (rfl) c8) (fun c8 => ?_)
    refine mOk.aload0n dX9_tables_11 rfl ?_
    refine mOk.callV0 (M' := mX9_takes) dX9_tables_12 ml_X9_138 ke_X9_takes (by first | assumption | rfl) (by decide) (by decide) (by simp [Value.category]) (c_takes hTO hB2 ?_)
    intro I3 hM3 ho3
    refine mOk.bipush (x := -10) dX9_tables_15 (by decide) ?_
    refine mOk.aload0n dX9_tables_17 rfl ?_
    refine mOk.getIv dX9_tables_18 fl_X9_85 (by first | assumption | rfl) ((ho3.2 9 (by decide)).trans hp2) ?_
    refine mOk.isub dX9_tables_21 ?_
    refine mOk.iret dX9_tables_22 rfl ?_
    have o : Of [0, 9, 10] [98, 99, 100, 101, 102, 103, 105] I I3 := ((ho1.up (by decide) (by decide)).tr (ho2.up (by decide) (by decide))).tr (ho3.up (by decide) (by decide))
    exact hQ0 f hf I3 ⟨hM3, h2.of o (by decide) (by decide), h3.of o (by decide) (by decide), h4.of o (by decide) (by decide), h5.of o (by decide) (by decide), h6.of o (by decide)⟩ (o.up (by decide) (by decide))
theorem c_isText_y {t : Nat} (ht : t < 4) (hQ : Q (some (.int 1)) (hS sw I J)) : mCl mX9_isText 1 0 0 [.int (nI t)] (hS sw I J) Q := by
  refine mCl.of (by decide) rfl (Nat.le_of_ble_eq_true rfl) ?_
  show mOk _ _ _ _ _ [some (.int (nI t))] _ _ _ _ _
  refine mOk.iload0n dX9_isText_0 rfl ?_
  refine mOk.iconst (x := nI 0) dX9_isText_1 (by decide) ?_
  refine mOk.iconst (x := nI 3) dX9_isText_2 (by decide) ?_
  refine mOk.callS3 (M' := mX9_in) dX9_isText_3 ml_X9_66 ke_X9_in rfl (by decide) (by decide) (by simp [Value.category]) (c_in_y (nI_neg' (by omega)) (mt (nI_lt' (by omega) (by omega)).mp (by omega)) ?_)
  refine mOk.zret dX9_isText_6 rfl (by decide) hQ
theorem c_isText_n {t : Int32} (ht : t < 0 ∨ nI 4 ≤ t) (hQ : Q (some (.int 0)) (hS sw I J)) : mCl mX9_isText 1 0 0 [.int t] (hS sw I J) Q := by
  refine mCl.of (by decide) rfl (Nat.le_of_ble_eq_true rfl) ?_
  show mOk _ _ _ _ _ [some (.int t)] _ _ _ _ _
  refine mOk.iload0n dX9_isText_0 rfl ?_
  refine mOk.iconst (x := nI 0) dX9_isText_1 (by decide) ?_
  refine mOk.iconst (x := nI 3) dX9_isText_2 (by decide) ?_
  refine mOk.callS3 (M' := mX9_in) dX9_isText_3 ml_X9_66 ke_X9_in rfl (by decide) (by decide) (by simp [Value.category]) (c_in_n (ht.imp id (i32_ltg (by omega))) ?_)
  refine mOk.zret dX9_isText_6 rfl (by decide) hQ
theorem c_misRule_y {t : Nat} (ht : t < 6) (hQ : Q (some (.int 1)) (hS sw I J)) : mCl mX9_isRule 1 0 0 [.int (nI t)] (hS sw I J) Q := by
  refine mCl.of (by decide) rfl (Nat.le_of_ble_eq_true rfl) ?_
  show mOk _ _ _ _ _ [some (.int (nI t))] _ _ _ _ _
  refine mOk.iload0n dX9_isRule_0 rfl ?_
  refine mOk.iconst (x := nI 0) dX9_isRule_1 (by decide) ?_
  refine mOk.iconst (x := nI 5) dX9_isRule_2 (by decide) ?_
  refine mOk.callS3 (M' := mX9_in) dX9_isRule_3 ml_X9_66 ke_X9_in rfl (by decide) (by decide) (by simp [Value.category]) (c_in_y (nI_neg' (by omega)) (mt (nI_lt' (by omega) (by omega)).mp (by omega)) ?_)
  refine mOk.zret dX9_isRule_6 rfl (by decide) hQ
theorem c_misRule_n {t : Int32} (ht : t < 0 ∨ nI 6 ≤ t) (hQ : Q (some (.int 0)) (hS sw I J)) : mCl mX9_isRule 1 0 0 [.int t] (hS sw I J) Q := by
  refine mCl.of (by decide) rfl (Nat.le_of_ble_eq_true rfl) ?_
  show mOk _ _ _ _ _ [some (.int t)] _ _ _ _ _
  refine mOk.iload0n dX9_isRule_0 rfl ?_
  refine mOk.iconst (x := nI 0) dX9_isRule_1 (by decide) ?_
  refine mOk.iconst (x := nI 5) dX9_isRule_2 (by decide) ?_
  refine mOk.callS3 (M' := mX9_in) dX9_isRule_3 ml_X9_66 ke_X9_in rfl (by decide) (by decide) (by simp [Value.category]) (c_in_n (ht.imp id (i32_ltg (by omega))) ?_)
  refine mOk.zret dX9_isRule_6 rfl (by decide) hQ
/-- the notes go down by one -/
theorem l_shift {I0 : Nat → Nat → Int32} {t : Nat} {l3 : Option Value} (hk : ∀ I', (∀ j, j < 162 → I' 109 j = I0 109 (j + 18)) → Of [] [109] I0 I' → mOk mX9_notes 0 0 0 39 [some (.ref 97), some (.int (nI t)), some (.int (nI 162)), l3] [] (hS sw I' J) 0 0 Q) :
    ∀ (m k : Nat) (I : Nat → Nat → Int32), k + m = 162 → (∀ j, j < k → I 109 j = I0 109 (j + 18)) → (∀ j, k ≤ j → I 109 j = I0 109 j) → Of [] [109] I0 I → mOk mX9_notes 0 0 0 11 [some (.ref 97), some (.int (nI t)), some (.int (nI k)), l3] [] (hS sw I J) 0 0 Q := by
  intro m
  induction m with
  | zero =>
    intro k I hm h1 h2 ho
    refine mOk.iload2n dX9_notes_11 rfl ?_
    refine mOk.sipush (x := nI 162) dX9_notes_12 (by decide) ?_
    refine mOk.icge (tgt := 39) dX9_notes_15 (by decide) (fun c15 => ?_) (fun c15 => absurd ((nI_le' (by omega) (by omega)).mpr (by omega)) c15)
    have e : k = 162 := by omega
    subst e
    exact hk I h1 ho
  | succ m ih =>
    intro k I hm h1 h2 ho
    refine mOk.iload2n dX9_notes_11 rfl ?_
    refine mOk.sipush (x := nI 162) dX9_notes_12 (by decide) ?_
    refine mOk.icge (tgt := 39) dX9_notes_15 (by decide) (fun c15 => absurd c15 (mt (nI_le' (by omega) (by omega)).mp (by omega))) (fun c15 => ?_)
    refine mOk.aload0n dX9_notes_18 rfl ?_
    refine mOk.getR dX9_notes_19 fl_X9_43 (by first | assumption | rfl) (by first | assumption | rfl) ?_
    refine mOk.iload2n dX9_notes_22 rfl ?_
    refine mOk.aload0n dX9_notes_23 rfl ?_
    refine mOk.getR dX9_notes_24 fl_X9_43 (by first | assumption | rfl) (by first | assumption | rfl) ?_
    refine mOk.iload2n dX9_notes_27 rfl ?_
    refine mOk.bipush (x := nI 18) dX9_notes_28 (by decide) ?_
    refine mOk.iadd dX9_notes_30 ?_
    refine mOk.top ((nI_add _ _)) ?_
    refine mOk.ialdv dX9_notes_31 (by first | assumption | rfl) rfl (by omega) (by first | assumption | decide | omega) (h2 (k + 18) (by omega)) ?_
    refine mOk.iastt dX9_notes_32 (by first | assumption | rfl) rfl (by omega) (by first | assumption | decide | omega) ?_
    refine mOk.iinc2 dX9_notes_33 (mOk.inc1 rfl) (by decide) rfl ?_
    refine mOk.goto (tgt := 11) dX9_notes_36 (by decide) ?_
    refine ih (k + 1) _ (by omega) (fun j hj => ?_) (fun j hj => ?_) (ho.tr (Of.a (by decide) (by decide)))
    · rcases Nat.lt_or_ge j k with z | z
      · rw [wI_j (by omega)]
        exact h1 j z
      · rw [show j = k by omega, wI_s]
    · rw [wI_j (by omega)]
      exact h2 j (by omega)
/-- a text's cells come into a note -/
theorem l_note {I0 : Nat → Nat → Int32} {t n : Nat} (ht : t < 4) (hn : n < 10) (h17 : I0 97 17 = nI n) (hQ : ∀ I', (∀ j, j < 16 → I' 109 (18 * n + 2 + j) = I0 107 (16 * t + j)) → (∀ j, j < 18 * n + 2 → I' 109 j = I0 109 j) → I' 97 17 = nI (n + 1) → Of [17] [109] I0 I' → Q none (hS sw I' J)) :
    ∀ (m k : Nat) (I : Nat → Nat → Int32), k + m = 16 → (∀ j, j < k → I 109 (18 * n + 2 + j) = I0 107 (16 * t + j)) → (∀ j, j < 18 * n + 2 → I 109 j = I0 109 j) → Of [] [109] I0 I → mOk mX9_notes 0 0 0 80 [some (.ref 97), some (.int (nI t)), some (.int (nI (18 * n))), some (.int (nI k))] [] (hS sw I J) 0 0 Q := by
  intro m
  induction m with
  | zero =>
    intro k I hm h1 h2 ho
    refine mOk.iload3n dX9_notes_80 rfl ?_
    refine mOk.bipush (x := nI 16) dX9_notes_81 (by decide) ?_
    refine mOk.icge (tgt := 113) dX9_notes_83 (by decide) (fun c83 => ?_) (fun c83 => absurd ((nI_le' (by omega) (by omega)).mpr (by omega)) c83)
    refine mOk.aload0n dX9_notes_113 rfl ?_
    refine mOk.dup dX9_notes_114 rfl ?_
    refine mOk.getIv dX9_notes_115 fl_X9_144 (by first | assumption | rfl) ((ho.2 17 (by decide)).trans h17) ?_
    refine mOk.iconst (x := nI 1) dX9_notes_118 (by decide) ?_
    refine mOk.iadd dX9_notes_119 ?_
    refine mOk.top ((nI_add _ _)) ?_
    refine mOk.putIt dX9_notes_120 fl_X9_144 (by first | assumption | rfl) ?_
    refine mOk.vret dX9_notes_123 rfl (by decide) ?_
    refine hQ _ (fun j hj => ?_) (fun j hj => ?_) (wI_s _ _ _ _) ((ho.up (by decide) (by decide)).tr (Of.f (by decide)))
    · rw [wI_c (by decide)]
      exact h1 j (by omega)
    · rw [wI_c (by decide)]
      exact h2 j hj
  | succ m ih =>
    intro k I hm h1 h2 ho
    refine mOk.iload3n dX9_notes_80 rfl ?_
    refine mOk.bipush (x := nI 16) dX9_notes_81 (by decide) ?_
    refine mOk.icge (tgt := 113) dX9_notes_83 (by decide) (fun c83 => absurd c83 (mt (nI_le' (by omega) (by omega)).mp (by omega))) (fun c83 => ?_)
    refine mOk.aload0n dX9_notes_86 rfl ?_
    refine mOk.getR dX9_notes_87 fl_X9_43 (by first | assumption | rfl) (by first | assumption | rfl) ?_
    refine mOk.iload2n dX9_notes_90 rfl ?_
    refine mOk.iconst (x := nI 2) dX9_notes_91 (by decide) ?_
    refine mOk.iadd dX9_notes_92 ?_
    refine mOk.top ((nI_add _ _)) ?_
    refine mOk.iload3n dX9_notes_93 rfl ?_
    refine mOk.iadd dX9_notes_94 ?_
    refine mOk.top ((nI_add _ _)) ?_
    refine mOk.aload0n dX9_notes_95 rfl ?_
    refine mOk.getR dX9_notes_96 fl_X9_37 (by first | assumption | rfl) (by first | assumption | rfl) ?_
    refine mOk.bipush (x := nI 16) dX9_notes_99 (by decide) ?_
    refine mOk.iload1n dX9_notes_101 rfl ?_
    refine mOk.imul dX9_notes_102 ?_
    refine mOk.top ((pk_mul _ _)) ?_
    refine mOk.iload3n dX9_notes_103 rfl ?_
    refine mOk.iadd dX9_notes_104 ?_
    refine mOk.top ((nI_add _ _)) ?_
    refine mOk.ialdv dX9_notes_105 (by first | assumption | rfl) rfl (by omega) (by first | assumption | decide | omega) (congrFun (ho.1 107 (by decide) (by decide)) (16 * t + k)) ?_
    refine mOk.iastt dX9_notes_106 (by first | assumption | rfl) rfl (by omega) (by first | assumption | decide | omega) ?_
    refine mOk.iinc3 dX9_notes_107 (mOk.inc1 rfl) (by decide) rfl ?_
    refine mOk.goto (tgt := 80) dX9_notes_110 (by decide) ?_
    refine ih (k + 1) _ (by omega) (fun j hj => ?_) (fun j hj => ?_) (ho.tr (Of.a (by decide) (by decide)))
    · rcases Nat.lt_or_ge j k with z | z
      · rw [wI_j (by omega)]
        exact h1 j z
      · rw [show j = k by omega, wI_s]
    · rw [wI_j (by omega)]
      exact h2 j hj
theorem l_notes2 {t : Nat} {l2 l3 : Option Value} (ht : t < 4) (hX : MX I tx) (hH : MHy I hs) (h9 : hs.length < 10) (hs2 : mi_s [none, none, l2] 3 = true) (hQ : ∀ I', MHy I' ((t, tx t) :: hs) → Of [17] [109] I I' → Q none (hS sw I' J)) : mOk mX9_notes 0 0 0 49 [some (.ref 97), some (.int (nI t)), l2, l3] [] (hS sw I J) 0 0 Q := by
  obtain ⟨x1, x2, x3⟩ := hX t ht
  obtain ⟨g1, g2, g3⟩ := hH
  refine mOk.bipush (x := nI 18) dX9_notes_49 (by decide) ?_
  refine mOk.aload0n dX9_notes_51 rfl ?_
  refine mOk.getIv dX9_notes_52 fl_X9_144 (by first | assumption | rfl) g2 ?_
  refine mOk.imul dX9_notes_55 ?_
  refine mOk.top ((pk_mul _ _)) ?_
  refine mOk.istore2n dX9_notes_56 rfl (by decide) rfl ?_
  refine mOk.aload0n dX9_notes_57 rfl ?_
  refine mOk.getR dX9_notes_58 fl_X9_43 (by first | assumption | rfl) (by first | assumption | rfl) ?_
  refine mOk.iload2n dX9_notes_61 rfl ?_
  refine mOk.iload1n dX9_notes_62 rfl ?_
  refine mOk.iastt dX9_notes_63 (by first | assumption | rfl) rfl (by omega) (by first | assumption | decide | omega) ?_
  have e106 : wI I 109 (18 * hs.length) (nI t) 106 t = nI (tx t).length := by rw [wI_c (by decide)]; exact x2
  refine mOk.aload0n dX9_notes_64 rfl ?_
  refine mOk.getR dX9_notes_65 fl_X9_43 (by first | assumption | rfl) (by first | assumption | rfl) ?_
  refine mOk.iload2n dX9_notes_68 rfl ?_
  refine mOk.iconst (x := nI 1) dX9_notes_69 (by decide) ?_
  refine mOk.iadd dX9_notes_70 ?_
  refine mOk.top ((nI_add _ _)) ?_
  refine mOk.aload0n dX9_notes_71 rfl ?_
  refine mOk.getR dX9_notes_72 fl_X9_34 (by first | assumption | rfl) (by first | assumption | rfl) ?_
  refine mOk.iload1n dX9_notes_75 rfl ?_
  refine mOk.ialdv dX9_notes_76 (by first | assumption | rfl) rfl (by omega) (by first | assumption | decide | omega) e106 ?_
  refine mOk.iastt dX9_notes_77 (by first | assumption | rfl) rfl (by omega) (by first | assumption | decide | omega) ?_
  refine mOk.iconst (x := nI 0) dX9_notes_78 (by decide) ?_
  refine mOk.istore3n dX9_notes_79 rfl (by decide) rfl ?_
  generalize hI2 : wI (wI I 109 (18 * hs.length) (nI t)) 109 (18 * hs.length + 1) (nI (tx t).length) = I2
  have ho2 : Of [17] [109] I I2 := by rw [← hI2]; exact (Of.a (by decide) (by decide)).tr (Of.a (by decide) (by decide))
  have e2 : ∀ j, j < 18 * hs.length → I2 109 j = I 109 j := fun j hj => by rw [← hI2, wI_j (by omega), wI_j (by omega)]
  have e0 : I2 109 (18 * hs.length) = nI t := by rw [← hI2, wI_j (by omega), wI_s]
  have e1 : I2 109 (18 * hs.length + 1) = nI (tx t).length := by rw [← hI2, wI_s]
  refine l_note (I0 := I2) (n := hs.length) ht h9 (by rw [← hI2, wI_c (by decide), wI_c (by decide)]; exact g2) (fun I' f1 f2 f3 f4 => ?_) 16 0 I2 rfl (fun j hj => absurd hj (Nat.not_lt_zero j)) (fun j hj => rfl) Of.rf
  refine hQ I' ⟨by simp; omega, by rw [f3]; simp, fun k q hk => ?_⟩ (ho2.tr f4)
  cases k with
  | zero =>
    simp at hk
    subst hk
    rw [show ((t, tx t) :: hs).length - 1 - 0 = hs.length by simp]
    refine ⟨x1, by rw [f2 _ (by omega)]; exact e0, by rw [f2 _ (by omega)]; exact e1, fun i c hi => ?_⟩
    have hil := (List.getElem?_eq_some_iff.mp hi).1
    have hil2 : i < (tx t).length := hil
    rw [f1 i (by omega), ← hI2, wI_c (by decide), wI_c (by decide)]
    exact x3 i c hi
  | succ k =>
    have hk' : hs[k]? = some q := by simpa using hk
    have hkl := (List.getElem?_eq_some_iff.mp hk').1
    obtain ⟨y1, y2, y3, y4⟩ := g3 k q hk'
    rw [show ((t, tx t) :: hs).length - 1 - (k + 1) = hs.length - 1 - k by simp; omega]
    refine ⟨y1, by rw [f2 _ (by omega), e2 _ (by omega)]; exact y2, by rw [f2 _ (by omega), e2 _ (by omega)]; exact y3, fun i c hi => ?_⟩
    have hil := (List.getElem?_eq_some_iff.mp hi).1
    rw [f2 _ (by omega), e2 _ (by omega)]
    exact y4 i c hi
theorem c_notes {t : Nat} (ht : t < 4) (hX : MX I tx) (hH : MHy I hs) (hQ : ∀ I', MHy I' (((t, tx t) :: hs).take 10) → Of [17] [109] I I' → Q none (hS sw I' J)) : mCl mX9_notes 0 0 0 [.ref 97, .int (nI t)] (hS sw I J) Q := by
  obtain ⟨g1, g2, g3⟩ := id hH
  rw [List.take_succ_cons] at hQ
  refine mCl.of (by decide) rfl (Nat.le_of_ble_eq_true rfl) ?_
  show mOk _ _ _ _ _ [some (.ref 97), some (.int (nI t)), none, none] _ _ _ _ _
  by_cases z : hs.length = 10
  · refine mOk.aload0n dX9_notes_0 rfl ?_
    refine mOk.getIv dX9_notes_1 fl_X9_144 (by first | assumption | rfl) g2 ?_
    refine mOk.bipush (x := nI 10) dX9_notes_4 (by decide) ?_
    refine mOk.icne (tgt := 49) dX9_notes_6 (by decide) (fun c6 => absurd ((by rw [z])) c6) (fun c6 => ?_)
    refine mOk.iconst (x := nI 0) dX9_notes_9 (by decide) ?_
    refine mOk.istore2n dX9_notes_10 rfl (by decide) rfl ?_
    refine l_shift (I0 := I) (fun I1 hs1 ho1 => ?_) 162 0 I rfl (fun j hj => absurd hj (Nat.not_lt_zero j)) (fun j hj => rfl) Of.rf
    refine mOk.aload0n dX9_notes_39 rfl ?_
    refine mOk.dup dX9_notes_40 rfl ?_
    refine mOk.getIv dX9_notes_41 fl_X9_144 (by first | assumption | rfl) ((ho1.2 17 (by decide)).trans g2) ?_
    refine mOk.iconst (x := nI 1) dX9_notes_44 (by decide) ?_
    refine mOk.isub dX9_notes_45 ?_
    refine mOk.top ((pk_sub (by omega))) ?_
    refine mOk.putIt dX9_notes_46 fl_X9_144 (by first | assumption | rfl) ?_
    have o2 : Of [17] [109] I (wI I1 97 17 (nI (hs.length - 1))) := (ho1.up (by decide) (by decide)).tr (Of.f (by decide))
    have hl9 : (hs.take 9).length = 9 := by rw [List.length_take]; omega
    refine l_notes2 (tx := tx) (hs := hs.take 9) ht (hX.of o2 (by decide) (by decide)) ⟨by omega, by rw [wI_s, hl9, z], fun k q hk => ?_⟩ (by omega) rfl (fun I' f1 f2 => hQ I' f1 (o2.tr f2))
    have hkl := (List.getElem?_eq_some_iff.mp hk).1
    rw [List.getElem?_take_of_lt (by omega)] at hk
    obtain ⟨y1, y2, y3, y4⟩ := g3 k q hk
    rw [hl9, wI_c (by decide)]
    rw [z] at y2 y3 y4
    refine ⟨y1, ?_, ?_, fun i c hi => ?_⟩
    · rw [hs1 _ (by omega), show 18 * (9 - 1 - k) + 18 = 18 * (10 - 1 - k) by omega]
      exact y2
    · rw [hs1 _ (by omega), show 18 * (9 - 1 - k) + 1 + 18 = 18 * (10 - 1 - k) + 1 by omega]
      exact y3
    · have hil := (List.getElem?_eq_some_iff.mp hi).1
      rw [hs1 _ (by omega), show 18 * (9 - 1 - k) + 2 + i + 18 = 18 * (10 - 1 - k) + 2 + i by omega]
      exact y4 i c hi
  · rw [List.take_of_length_le (by omega)] at hQ
    refine mOk.aload0n dX9_notes_0 rfl ?_
    refine mOk.getIv dX9_notes_1 fl_X9_144 (by first | assumption | rfl) g2 ?_
    refine mOk.bipush (x := nI 10) dX9_notes_4 (by decide) ?_
    refine mOk.icne (tgt := 49) dX9_notes_6 (by decide) (fun c6 => ?_) (fun c6 => absurd c6 (mt (nI_eq' (by omega) (by omega)).mp z))
    exact l_notes2 ht hX hH (by omega) rfl hQ
end MODEL6
