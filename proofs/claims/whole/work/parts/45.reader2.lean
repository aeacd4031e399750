/-! ===== Reader: codes ===== -/
noncomputable def cif {α : Type} (P : Prop) (a b : α) : α := @ite α P (Classical.propDecidable P) a b
theorem cif_pos {α : Type} {P : Prop} {a b : α} (h : P) : cif P a b = a := @if_pos P (Classical.propDecidable P) h α a b
theorem cif_neg {α : Type} {P : Prop} {a b : α} (h : ¬ P) : cif P a b = b := @if_neg P (Classical.propDecidable P) h α a b
abbrev Q4 : Type := Int32 × Int32 × Int32 × Int32
/-- two numbers behind the letter: A, B -/
noncomputable def p2 (bs : List Nat) (T : List CR) (kd : Int32) (e : Nat) : Nat ⊕ (Q4 × Nat) :=
  cif (tkK bs (skp bs e) = 2 ∧ mF T (nI (tkV bs (skp bs e))))
    (cif (tkK bs (skp bs (tkE bs (skp bs e))) = 2 ∧ mS T kd (nI (tkV bs (skp bs e))) (nI (tkV bs (skp bs (tkE bs (skp bs e))))) ∧ (kd = 1 → pairC T (nI (tkV bs (skp bs e))) (nI (tkV bs (skp bs (tkE bs (skp bs e))))) = -9))
      (.inr ((kd, 0, nI (tkV bs (skp bs e)), nI (tkV bs (skp bs (tkE bs (skp bs e))))), tkE bs (skp bs (tkE bs (skp bs e)))))
      (.inl (skp bs (tkE bs (skp bs e)))))
    (.inl (skp bs e))
/-- a code up to its ; -/
noncomputable def phd (bs : List Nat) (T : List CR) (p : Nat) : Nat ⊕ (Q4 × Nat) :=
  if tkK bs p = 1 ∧ T.length < 24 then
    (if tkV bs p = 99 then (if tkK bs (skp bs (tkE bs p)) = 2 ∧ tkV bs (skp bs (tkE bs p)) ≤ 9 then .inr ((0, nI (tkV bs (skp bs (tkE bs p))), -9, -9), tkE bs (skp bs (tkE bs p))) else .inl (skp bs (tkE bs p)))
    else if tkV bs p = 112 then (if (prs T).length < 7 then p2 bs T 1 (tkE bs p) else .inl p)
    else if tkV bs p = 115 then (if tkK bs (skp bs (tkE bs p)) = 2 ∧ tkV bs (skp bs (tkE bs p)) < T.length then .inr ((3, tC T (nI (tkV bs (skp bs (tkE bs p)))), nI (tkV bs (skp bs (tkE bs p))), -9), tkE bs (skp bs (tkE bs p))) else .inl (skp bs (tkE bs p)))
    else if tkV bs p = 120 then p2 bs T 2 (tkE bs p)
    else .inl p)
  else .inl p
def addQ (T : List CR) (q : Q4) : CR := addR T q.1 q.2.1 q.2.2.1 q.2.2.2
noncomputable def pcd (bs : List Nat) (T : List CR) (p : Nat) : Nat ⊕ (CR × Nat) := match phd bs T p with
  | .inl f => .inl f
  | .inr (q, e) => if tkK bs (skp bs e) = 3 then .inr (addQ T q, tkE bs (skp bs e)) else .inl (skp bs e)
noncomputable def pall (bs : List Nat) : Nat → List CR → Nat → Nat ⊕ List CR
  | 0, _, p => .inl p
  | m + 1, T, p => if bs.length ≤ skp bs p then .inr T else match pcd bs T (skp bs p) with
    | .inl f => .inl f
    | .inr (q, e) => pall bs m (T ++ [q]) e
theorem nI_lt100 {bs : List Nat} {p : Nat} (h : tkK bs p = 2) : tkV bs p ≤ 99 := by
  unfold tkK at h
  unfold tkV
  split at h
  · omega
  · split at h
    · omega
    · next zl =>
      rw [if_neg zl]
      split at h
      · split at h
        · omega
        · next z => omega
      · split at h <;> omega
theorem okC_of_C {T : List CR} {a : Int32} (hT : T.length < 100000) (h : tC T a = 0) : okC T a := by
  rcases ixc a hT with z | z
  · unfold tC at h
    rw [tG_out hT z] at h
    exact absurd h (by decide)
  · exact z
theorem okC_of_K {T : List CR} {a : Int32} (hT : T.length < 100000) (h : tK T a = 0) : okC T a := by
  rcases ixc a hT with z | z
  · unfold tK at h
    rw [tG_out hT z] at h
    exact absurd h (by decide)
  · exact z
theorem p2_ok {bs : List Nat} {T : List CR} (hT : TOk T) {kd : Int32} (hkd : kd = 1 ∨ kd = 2) (h7 : kd = 1 → (prs T).length < 7) {e : Nat} {q : Q4} {e' : Nat} (h : p2 bs T kd e = .inr (q, e')) : okR T (addQ T q) := by
  have hl := hT.1
  unfold p2 at h
  by_cases z1 : tkK bs (skp bs e) = 2 ∧ mF T (nI (tkV bs (skp bs e)))
  · rw [cif_pos z1] at h
    by_cases z2 : tkK bs (skp bs (tkE bs (skp bs e))) = 2 ∧ mS T kd (nI (tkV bs (skp bs e))) (nI (tkV bs (skp bs (tkE bs (skp bs e))))) ∧ (kd = 1 → pairC T (nI (tkV bs (skp bs e))) (nI (tkV bs (skp bs (tkE bs (skp bs e))))) = -9)
    · rw [cif_pos z2] at h
      cases h
      exact Or.inr (Or.inl ⟨kd, _, _, hkd, okC_of_C (by omega) z1.2.1.1, okC_of_K (by omega) z2.2.1.1, z1.2, z2.2.1, fun w => ⟨z2.2.2 w, h7 w⟩, rfl⟩)
    · rw [cif_neg z2] at h
      cases h
  · rw [cif_neg z1] at h
    cases h
theorem phd_ok {bs : List Nat} {T : List CR} (hT : TOk T) {p : Nat} {q : Q4} {e' : Nat} (h : phd bs T p = .inr (q, e')) : okR T (addQ T q) ∧ T.length < 24 := by
  unfold phd at h
  split at h
  · next hz =>
    refine ⟨?_, hz.2⟩
    split at h
    · split at h
      · next w => cases h; exact Or.inl ⟨_, w.2, rfl⟩
      · cases h
    · split at h
      · split at h
        · next w => exact p2_ok hT (Or.inl rfl) (fun _ => w) h
        · cases h
      · split at h
        · split at h
          · next w => cases h; exact Or.inr (Or.inr ⟨_, ⟨_, w.2, rfl⟩, rfl⟩)
          · cases h
        · split at h
          · exact p2_ok hT (Or.inr rfl) (fun w => absurd w (by decide)) h
          · cases h
  · cases h
theorem okR_le4 {T : List CR} (hT : TOk T) {q : CR} (hl : T.length < 24) (h : okR T q) : q.2.2.2.2.length ≤ 4 := by
  have := (TOk.app hT hl h).all (nI T.length) (okC_app.mpr (Or.inr rfl))
  have h4 := this.2.2.2.1
  rw [tP_new hl] at h4
  exact h4
theorem okR_7 {T : List CR} {q : CR} (h : okR T q) (h1 : q.1 = 1) : (prs T).length < 7 := by
  rcases h with ⟨k, hk, rfl⟩ | ⟨kd, a, b, hkd, ha, hb, hmf, hms, hpr, rfl⟩ | ⟨a, ha, rfl⟩
  · exact absurd (show (0 : Int32) = 1 from h1) (by decide)
  · exact (hpr h1).2
  · exact absurd (show (3 : Int32) = 1 from h1) (by decide)
section READER2
variable {sw : Bool} {I : Nat → Nat → Int32} {J : Nat → Nat → Int64} {Q : Option Value → mi_H → Prop} {bs : List Nat} {pl sx tk va kd cl fi se : Int32} {cb : Nat} {T : List CR}
theorem cS_1 (h : cb = 4 ∨ cb = 13) : ∀ a ∈ cS cb, a ∉ [1] := by
  intro a ha z
  simp [cS] at ha z
  omega
theorem c_readPlain {e : Nat} (he : e ≤ bs.length) (h : Fl I (nI e) sx tk va kd cl fi se) (hT : Ty I bs)
    (hQ1 : (tkK bs (skp bs e) = 2 ∧ tkV bs (skp bs e) ≤ 9) → ∀ I', Tk I' bs (skp bs e) 0 (nI (tkV bs (skp bs e))) (-9) (-9) → Ty I' bs → Off [1] I I' → Q (some (.int 1)) (hS sw I' J))
    (hQ0 : ¬ (tkK bs (skp bs e) = 2 ∧ tkV bs (skp bs e) ≤ 9) → ∀ I' k c f g, Tk I' bs (skp bs e) k c f g → Ty I' bs → Off [1] I I' → Q (some (.int 0)) (hS sw I' J)) : mCl mX4_readPlain 4 0 0 [.ref 1] (hS sw I J) Q := by
  refine mCl.of (by decide) rfl (Nat.le_of_ble_eq_true rfl) ?_
  show mOk _ _ _ _ _ [some (.ref 1)] _ _ _ _ _
  refine mOk.aload0n dX4_readPlain_0 rfl ?_
  refine mOk.callV0 (M' := mX4_step) dX4_readPlain_1 ml_X4_29 ke_X4_step (by first | assumption | rfl) (by decide) (by decide) (by simp [Value.category]) (c_step he h hT ?_)
  rintro I1 ⟨hp, va1, h1, hv1⟩ hT1 ho1
  refine mOk.aload0n dX4_readPlain_4 rfl ?_
  refine mOk.iconst (x := 0) dX4_readPlain_5 (by decide) ?_
  refine mOk.putIt dX4_readPlain_6 fl_X4_42 (by first | assumption | rfl) ?_
  have h2 := h1.w_kd (x := 0)
  refine mOk.aload0n dX4_readPlain_9 rfl ?_
  refine mOk.aload0n dX4_readPlain_10 rfl ?_
  refine mOk.getIv dX4_readPlain_11 fl_X4_62 (by first | assumption | rfl) h2.va ?_
  refine mOk.putIt dX4_readPlain_14 fl_X4_45 (by first | assumption | rfl) ?_
  have h3 := h2.w_cl (x := va1)
  refine mOk.aload0n dX4_readPlain_17 rfl ?_
  refine mOk.bipush (x := -9) dX4_readPlain_18 (by decide) ?_
  refine mOk.putIt dX4_readPlain_20 fl_X4_48 (by first | assumption | rfl) ?_
  have h4 := h3.w_fi (x := -9)
  refine mOk.aload0n dX4_readPlain_23 rfl ?_
  refine mOk.bipush (x := -9) dX4_readPlain_24 (by decide) ?_
  refine mOk.putIt dX4_readPlain_26 fl_X4_51 (by first | assumption | rfl) ?_
  have h5 := h4.w_se (x := -9)
  generalize hI5 : wI (wI (wI (wI I1 1 5 0) 1 6 va1) 1 7 (-9)) 1 8 (-9) = I5 at h5 ⊢
  have ho5 : Off [1] I1 I5 := by rw [← hI5]; exact (Off.w (a := 1) (by simp)).tr ((Off.w (a := 1) (by simp)).tr ((Off.w (a := 1) (by simp)).tr (Off.w (by simp))))
  have hT5 := hT1.off ho5 (by decide) (by decide)
  have hk4 : tkK bs (skp bs e) ≤ 4 := by unfold tkK; split <;> (try omega) <;> split <;> (try omega) <;> split <;> (try omega) <;> split <;> omega
  refine mOk.aload0n dX4_readPlain_29 rfl ?_
  refine mOk.getIv dX4_readPlain_30 fl_X4_32 (by first | assumption | rfl) h5.tk ?_
  refine mOk.iconst (x := nI 2) dX4_readPlain_33 (by decide) ?_
  refine mOk.icne (tgt := 50) dX4_readPlain_34 (by decide) (fun c34 => ?_) (fun c34 => ?_)
  · refine mOk.iconst (x := 0) dX4_readPlain_50 (by decide) ?_
    refine mOk.zret dX4_readPlain_51 rfl (by decide) ?_
    exact hQ0 (fun z => c34 (by rw [z.1])) I5 _ _ _ _ ⟨hp, va1, h5, hv1⟩ hT5 (ho1.tr ho5)
  · have hk := (nI_eq' (by omega) (by omega)).mp c34
    have hv := hv1 (Or.inr hk)
    have h99 := nI_lt100 hk
    subst hv
    refine mOk.aload0n dX4_readPlain_37 rfl ?_
    refine mOk.getIv dX4_readPlain_38 fl_X4_62 (by first | assumption | rfl) h5.va ?_
    refine mOk.bipush (x := nI 9) dX4_readPlain_41 (by decide) ?_
    refine mOk.icgt (tgt := 50) dX4_readPlain_43 (by decide) (fun c43 => ?_) (fun c43 => ?_)
    · have := (nI_lt' (by omega) (by omega)).mp c43
      refine mOk.iconst (x := 0) dX4_readPlain_50 (by decide) ?_
      refine mOk.zret dX4_readPlain_51 rfl (by decide) ?_
      exact hQ0 (fun z => by omega) I5 _ _ _ _ ⟨hp, _, h5, hv1⟩ hT5 (ho1.tr ho5)
    · have := mt (nI_lt' (by omega) (by omega)).mpr c43
      refine mOk.iconst (x := 1) dX4_readPlain_46 (by decide) ?_
      refine mOk.goto (tgt := 51) dX4_readPlain_47 (by decide) ?_
      refine mOk.zret dX4_readPlain_51 rfl (by decide) ?_
      exact hQ1 ⟨hk, by omega⟩ I5 ⟨hp, _, h5, hv1⟩ hT5 (ho1.tr ho5)
theorem c_readSingle {e : Nat} (he : e ≤ bs.length) (hc : Cd I cb T) (h : Fl I (nI e) sx tk va kd cl fi se) (hT : Ty I bs)
    (hQ1 : (tkK bs (skp bs e) = 2 ∧ tkV bs (skp bs e) < T.length) → ∀ I', Tk I' bs (skp bs e) 3 (tC T (nI (tkV bs (skp bs e)))) (nI (tkV bs (skp bs e))) (-9) → Ty I' bs → Off [1] I I' → Q (some (.int 1)) (hS sw I' J))
    (hQ0 : ¬ (tkK bs (skp bs e) = 2 ∧ tkV bs (skp bs e) < T.length) → ∀ I' k c f g, Tk I' bs (skp bs e) k c f g → Ty I' bs → Off [1] I I' → Q (some (.int 0)) (hS sw I' J)) : mCl mX4_readSingle 4 0 0 [.ref 1, .ref cb] (hS sw I J) Q := by
  obtain ⟨k0, -⟩ := cdK hc.1
  have hl := hc.2.1
  refine mCl.of (by decide) rfl (Nat.le_of_ble_eq_true rfl) ?_
  show mOk _ _ _ _ _ [some (.ref 1), some (.ref cb)] _ _ _ _ _
  refine mOk.aload0n dX4_readSingle_0 rfl ?_
  refine mOk.callV0 (M' := mX4_step) dX4_readSingle_1 ml_X4_29 ke_X4_step (by first | assumption | rfl) (by decide) (by decide) (by simp [Value.category]) (c_step he h hT ?_)
  rintro I1 ⟨hp, va1, h1, hv1⟩ hT1 ho1
  refine mOk.aload0n dX4_readSingle_4 rfl ?_
  refine mOk.iconst (x := 3) dX4_readSingle_5 (by decide) ?_
  refine mOk.putIt dX4_readSingle_6 fl_X4_42 (by first | assumption | rfl) ?_
  have h2 := h1.w_kd (x := 3)
  have o2 : Off [1] I1 (wI I1 1 5 3) := Off.w (by simp)
  have hc2 := hc.off (ho1.tr o2) (cS_1 hc.1)
  refine mOk.aload0n dX4_readSingle_9 rfl ?_
  refine mOk.aload1n dX4_readSingle_10 rfl ?_
  refine mOk.aload0n dX4_readSingle_11 rfl ?_
  refine mOk.getIv dX4_readSingle_12 fl_X4_62 (by first | assumption | rfl) h2.va ?_
  refine mOk.callV1 (M' := mX1_classOf) dX4_readSingle_15 ml_X4_78 ke_X1_classOf (by first | assumption | rfl) (by decide) (by decide) (by simp [Value.category]) (c_classOf hc2 ?_)
  refine mOk.putIt dX4_readSingle_18 fl_X4_45 (by first | assumption | rfl) ?_
  have h3 := h2.w_cl (x := tC T va1)
  refine mOk.aload0n dX4_readSingle_21 rfl ?_
  refine mOk.aload0n dX4_readSingle_22 rfl ?_
  refine mOk.getIv dX4_readSingle_23 fl_X4_62 (by first | assumption | rfl) h3.va ?_
  refine mOk.putIt dX4_readSingle_26 fl_X4_48 (by first | assumption | rfl) ?_
  have h4 := h3.w_fi (x := va1)
  refine mOk.aload0n dX4_readSingle_29 rfl ?_
  refine mOk.bipush (x := -9) dX4_readSingle_30 (by decide) ?_
  refine mOk.putIt dX4_readSingle_32 fl_X4_51 (by first | assumption | rfl) ?_
  have h5 := h4.w_se (x := -9)
  generalize hI5 : wI (wI (wI (wI I1 1 5 3) 1 6 (tC T va1)) 1 7 va1) 1 8 (-9) = I5 at h5 ⊢
  have ho5 : Off [1] I1 I5 := by rw [← hI5]; exact (Off.w (a := 1) (by simp)).tr ((Off.w (a := 1) (by simp)).tr ((Off.w (a := 1) (by simp)).tr (Off.w (by simp))))
  have hT5 := hT1.off ho5 (by decide) (by decide)
  have hc5 := hc.off (ho1.tr ho5) (cS_1 hc.1)
  have hk4 : tkK bs (skp bs e) ≤ 4 := by unfold tkK; split <;> (try omega) <;> split <;> (try omega) <;> split <;> (try omega) <;> split <;> omega
  refine mOk.aload0n dX4_readSingle_35 rfl ?_
  refine mOk.getIv dX4_readSingle_36 fl_X4_32 (by first | assumption | rfl) h5.tk ?_
  refine mOk.iconst (x := nI 2) dX4_readSingle_39 (by decide) ?_
  refine mOk.icne (tgt := 58) dX4_readSingle_40 (by decide) (fun c40 => ?_) (fun c40 => ?_)
  · refine mOk.iconst (x := 0) dX4_readSingle_58 (by decide) ?_
    refine mOk.zret dX4_readSingle_59 rfl (by decide) ?_
    exact hQ0 (fun z => c40 (by rw [z.1])) I5 _ _ _ _ ⟨hp, va1, h5, hv1⟩ hT5 (ho1.tr ho5)
  · have hk := (nI_eq' (by omega) (by omega)).mp c40
    have hv := hv1 (Or.inr hk)
    have h99 := nI_lt100 hk
    subst hv
    by_cases z : tkV bs (skp bs e) < T.length
    · refine mOk.aload1n dX4_readSingle_43 rfl ?_
      refine mOk.aload0n dX4_readSingle_44 rfl ?_
      refine mOk.getIv dX4_readSingle_45 fl_X4_62 (by first | assumption | rfl) h5.va ?_
      refine mOk.callV1 (M' := mX1_holds) dX4_readSingle_48 ml_X4_82 ke_X1_holds (by first | assumption | rfl) (by decide) (by decide) (by simp [Value.category]) (c_holds_in hc5 z ?_)
      refine mOk.ifeq (tgt := 58) dX4_readSingle_51 (by decide) (fun c51 => absurd c51 ((by decide))) (fun c51 => ?_)
      refine mOk.iconst (x := 1) dX4_readSingle_54 (by decide) ?_
      refine mOk.goto (tgt := 59) dX4_readSingle_55 (by decide) ?_
      refine mOk.zret dX4_readSingle_59 rfl (by decide) ?_
      exact hQ1 ⟨hk, z⟩ I5 ⟨hp, _, h5, hv1⟩ hT5 (ho1.tr ho5)
    · refine mOk.aload1n dX4_readSingle_43 rfl ?_
      refine mOk.aload0n dX4_readSingle_44 rfl ?_
      refine mOk.getIv dX4_readSingle_45 fl_X4_62 (by first | assumption | rfl) h5.va ?_
      refine mOk.callV1 (M' := mX1_holds) dX4_readSingle_48 ml_X4_82 ke_X1_holds (by first | assumption | rfl) (by decide) (by decide) (by simp [Value.category]) (c_holds_out hc5 (Or.inr ((nI_le' (by omega) (by omega)).mpr (by omega))) ?_)
      refine mOk.ifeq (tgt := 58) dX4_readSingle_51 (by decide) (fun c51 => ?_) (fun c51 => absurd (rfl) c51)
      refine mOk.iconst (x := 0) dX4_readSingle_58 (by decide) ?_
      refine mOk.zret dX4_readSingle_59 rfl (by decide) ?_
      exact hQ0 (fun w => z w.2) I5 _ _ _ _ ⟨hp, _, h5, hv1⟩ hT5 (ho1.tr ho5)
theorem c_readTwo {e : Nat} (he : e ≤ bs.length) (hTO : TOk T) (hc : Cd I cb T) (h : Fl I (nI e) sx tk va kd cl fi se) (hT : Ty I bs) {k2 : Int32}
    (hQ1 : ∀ q s, p2 bs T k2 e = .inr (q, tkE bs s) → ∀ I', Tk I' bs s q.1 q.2.1 q.2.2.1 q.2.2.2 → Ty I' bs → Off [1] I I' → Q (some (.int 1)) (hS sw I' J))
    (hQ0 : ∀ s, p2 bs T k2 e = .inl s → ∀ I' k c f g, Tk I' bs s k c f g → Ty I' bs → Off [1] I I' → Q (some (.int 0)) (hS sw I' J)) : mCl mX4_readTwo 4 0 0 [.ref 1, .ref cb, .int k2] (hS sw I J) Q := by
  obtain ⟨k0, -⟩ := cdK hc.1
  have hl := hc.2.1
  have hk4 : ∀ p, tkK bs p ≤ 4 := by intro p; unfold tkK; split <;> (try omega) <;> split <;> (try omega) <;> split <;> (try omega) <;> split <;> omega
  refine mCl.of (by decide) rfl (Nat.le_of_ble_eq_true rfl) ?_
  show mOk _ _ _ _ _ [some (.ref 1), some (.ref cb), some (.int k2)] _ _ _ _ _
  refine mOk.aload0n dX4_readTwo_0 rfl ?_
  refine mOk.callV0 (M' := mX4_step) dX4_readTwo_1 ml_X4_29 ke_X4_step (by first | assumption | rfl) (by decide) (by decide) (by simp [Value.category]) (c_step he h hT ?_)
  rintro I1 ⟨hp, va1, h1, hv1⟩ hT1 ho1
  have hc1 := hc.off ho1 (cS_1 hc.1)
  have hk41 := hk4 (skp bs e)
  refine mOk.aload0n dX4_readTwo_4 rfl ?_
  refine mOk.getIv dX4_readTwo_5 fl_X4_32 (by first | assumption | rfl) h1.tk ?_
  refine mOk.iconst (x := nI 2) dX4_readTwo_8 (by decide) ?_
  refine mOk.icne (tgt := 23) dX4_readTwo_9 (by decide) (fun c9 => ?_) (fun c9 => ?_)
  · have z1 : ¬ (tkK bs (skp bs e) = 2 ∧ mF T (nI (tkV bs (skp bs e)))) := fun z => c9 (by rw [z.1])
    refine mOk.iconst (x := 0) dX4_readTwo_23 (by decide) ?_
    refine mOk.zret dX4_readTwo_24 rfl (by decide) ?_
    exact hQ0 _ (by unfold p2; rw [cif_neg z1]) I1 _ _ _ _ ⟨hp, va1, h1, hv1⟩ hT1 ho1
  · have hk := (nI_eq' (by omega) (by omega)).mp c9
    have hv := hv1 (Or.inr hk)
    subst hv
    refine mOk.aload1n dX4_readTwo_12 rfl ?_
    refine mOk.aload0n dX4_readTwo_13 rfl ?_
    refine mOk.getIv dX4_readTwo_14 fl_X4_62 (by first | assumption | rfl) h1.va ?_
    refine mOk.callV1 (M' := mX1_mayBeFirst) dX4_readTwo_17 ml_X4_86 ke_X1_mayBeFirst (by first | assumption | rfl) (by decide) (by decide) (by simp [Value.category]) (c_mayFirst hc1 (fun hm => ?_) (fun hm => ?_))
    · have z1 : tkK bs (skp bs e) = 2 ∧ mF T (nI (tkV bs (skp bs e))) := ⟨hk, hm⟩
      have ha0 := (hTO.all _ (okC_of_C (by omega) hm.1.1)).2.2.1
      refine mOk.ifne (tgt := 25) dX4_readTwo_20 (by decide) (fun c20 => ?_) (fun c20 => absurd c20 ((by decide)))
      refine mOk.aload0n dX4_readTwo_25 rfl ?_
      refine mOk.iload2n dX4_readTwo_26 rfl ?_
      refine mOk.putIt dX4_readTwo_27 fl_X4_42 (by first | assumption | rfl) ?_
      have h2 := h1.w_kd (x := k2)
      refine mOk.aload0n dX4_readTwo_30 rfl ?_
      refine mOk.iconst (x := 0) dX4_readTwo_31 (by decide) ?_
      refine mOk.putIt dX4_readTwo_32 fl_X4_45 (by first | assumption | rfl) ?_
      have h3 := h2.w_cl (x := 0)
      refine mOk.aload0n dX4_readTwo_35 rfl ?_
      refine mOk.aload0n dX4_readTwo_36 rfl ?_
      refine mOk.getIv dX4_readTwo_37 fl_X4_62 (by first | assumption | rfl) h3.va ?_
      refine mOk.putIt dX4_readTwo_40 fl_X4_48 (by first | assumption | rfl) ?_
      have h4 := h3.w_fi (x := nI (tkV bs (skp bs e)))
      generalize hI4 : wI (wI (wI I1 1 5 k2) 1 6 0) 1 7 (nI (tkV bs (skp bs e))) = I4 at h4 ⊢
      have ho4 : Off [1] I1 I4 := by rw [← hI4]; exact (Off.w (a := 1) (by simp)).tr ((Off.w (a := 1) (by simp)).tr (Off.w (by simp)))
      have hT4 := hT1.off ho4 (by decide) (by decide)
      refine mOk.aload0n dX4_readTwo_43 rfl ?_
      refine mOk.callV0 (M' := mX4_step) dX4_readTwo_44 ml_X4_29 ke_X4_step (by first | assumption | rfl) (by decide) (by decide) (by simp [Value.category]) (c_step (tkE_le hp) h4 hT4 ?_)
      rintro I5 ⟨hp5, va5, h5, hv5⟩ hT5 ho5
      refine mOk.aload0n dX4_readTwo_47 rfl ?_
      refine mOk.aload0n dX4_readTwo_48 rfl ?_
      refine mOk.getIv dX4_readTwo_49 fl_X4_62 (by first | assumption | rfl) h5.va ?_
      refine mOk.putIt dX4_readTwo_52 fl_X4_51 (by first | assumption | rfl) ?_
      have h6 := h5.w_se (x := va5)
      have o6 : Off [1] I5 (wI I5 1 8 va5) := Off.w (by simp)
      have ho6 := (ho1.tr ho4).tr (ho5.tr o6)
      have hT6 := hT5.off o6 (by decide) (by decide)
      have hc6 := hc.off ho6 (cS_1 hc.1)
      have hk42 := hk4 (skp bs (tkE bs (skp bs e)))
      have bad : ¬ (tkK bs (skp bs (tkE bs (skp bs e))) = 2 ∧ mS T k2 (nI (tkV bs (skp bs e))) (nI (tkV bs (skp bs (tkE bs (skp bs e))))) ∧ (k2 = 1 → pairC T (nI (tkV bs (skp bs e))) (nI (tkV bs (skp bs (tkE bs (skp bs e))))) = -9)) → Q (some (.int 0)) (hS sw (wI I5 1 8 va5) J) := fun z2 =>
        hQ0 _ (by unfold p2; rw [cif_pos z1, cif_neg z2]) _ _ _ _ _ ⟨hp5, va5, h6, hv5⟩ hT6 ho6
      refine mOk.aload0n dX4_readTwo_55 rfl ?_
      refine mOk.getIv dX4_readTwo_56 fl_X4_32 (by first | assumption | rfl) h6.tk ?_
      refine mOk.iconst (x := nI 2) dX4_readTwo_59 (by decide) ?_
      refine mOk.icne (tgt := 82) dX4_readTwo_60 (by decide) (fun c60 => ?_) (fun c60 => ?_)
      · refine mOk.iconst (x := 0) dX4_readTwo_82 (by decide) ?_
        refine mOk.zret dX4_readTwo_83 rfl (by decide) ?_
        exact bad (fun z => c60 (by rw [z.1]))
      · have hk5 := (nI_eq' (by omega) (by omega)).mp c60
        have hv := hv5 (Or.inr hk5)
        subst hv
        have good : mS T k2 (nI (tkV bs (skp bs e))) (nI (tkV bs (skp bs (tkE bs (skp bs e))))) → (k2 = 1 → pairC T (nI (tkV bs (skp bs e))) (nI (tkV bs (skp bs (tkE bs (skp bs e))))) = -9) → Q (some (.int 1)) (hS sw (wI I5 1 8 (nI (tkV bs (skp bs (tkE bs (skp bs e)))))) J) := fun g1 g2 =>
          hQ1 (k2, 0, nI (tkV bs (skp bs e)), nI (tkV bs (skp bs (tkE bs (skp bs e))))) (skp bs (tkE bs (skp bs e))) (by unfold p2; rw [cif_pos z1, cif_pos ⟨hk5, g1, g2⟩]) _ ⟨hp5, _, h6, hv5⟩ hT6 ho6
        refine mOk.aload1n dX4_readTwo_63 rfl ?_
        refine mOk.aload0n dX4_readTwo_64 rfl ?_
        refine mOk.getIv dX4_readTwo_65 fl_X4_42 (by first | assumption | rfl) h6.kd ?_
        refine mOk.aload0n dX4_readTwo_68 rfl ?_
        refine mOk.getIv dX4_readTwo_69 fl_X4_48 (by first | assumption | rfl) h6.fi ?_
        refine mOk.aload0n dX4_readTwo_72 rfl ?_
        refine mOk.getIv dX4_readTwo_73 fl_X4_51 (by first | assumption | rfl) h6.se ?_
        refine mOk.callV3 (M' := mX1_mayBeSecond) dX4_readTwo_76 ml_X4_89 ke_X1_mayBeSecond (by first | assumption | rfl) (by decide) (by decide) (by simp [Value.category]) (c_maySecond hc6 ha0 (fun hm2 => ?_) (fun hm2 => ?_))
        · refine mOk.ifne (tgt := 84) dX4_readTwo_79 (by decide) (fun c79 => ?_) (fun c79 => absurd c79 ((by decide)))
          refine mOk.aload0n dX4_readTwo_84 rfl ?_
          refine mOk.getIv dX4_readTwo_85 fl_X4_42 (by first | assumption | rfl) h6.kd ?_
          refine mOk.iconst (x := 1) dX4_readTwo_88 (by decide) ?_
          refine mOk.icne (tgt := 109) dX4_readTwo_89 (by decide) (fun c89 => ?_) (fun c89 => ?_)
          · refine mOk.iconst (x := 1) dX4_readTwo_109 (by decide) ?_
            refine mOk.goto (tgt := 114) dX4_readTwo_110 (by decide) ?_
            refine mOk.zret dX4_readTwo_114 rfl (by decide) ?_
            exact good hm2 (fun z => absurd z c89)
          · refine mOk.aload1n dX4_readTwo_92 rfl ?_
            refine mOk.aload0n dX4_readTwo_93 rfl ?_
            refine mOk.getIv dX4_readTwo_94 fl_X4_48 (by first | assumption | rfl) h6.fi ?_
            refine mOk.aload0n dX4_readTwo_97 rfl ?_
            refine mOk.getIv dX4_readTwo_98 fl_X4_51 (by first | assumption | rfl) h6.se ?_
            refine mOk.callV2 (M' := mX1_pairOf) dX4_readTwo_101 ml_X4_93 ke_X1_pairOf (by first | assumption | rfl) (by decide) (by decide) (by simp [Value.category]) (c_pairOf hc6 ?_)
            refine mOk.bipush (x := -9) dX4_readTwo_104 (by decide) ?_
            refine mOk.icne (tgt := 113) dX4_readTwo_106 (by decide) (fun c106 => ?_) (fun c106 => ?_)
            · refine mOk.iconst (x := 0) dX4_readTwo_113 (by decide) ?_
              refine mOk.zret dX4_readTwo_114 rfl (by decide) ?_
              exact bad (fun z => c106 (z.2.2 c89))
            · refine mOk.iconst (x := 1) dX4_readTwo_109 (by decide) ?_
              refine mOk.goto (tgt := 114) dX4_readTwo_110 (by decide) ?_
              refine mOk.zret dX4_readTwo_114 rfl (by decide) ?_
              exact good hm2 (fun _ => c106)
        · refine mOk.ifne (tgt := 84) dX4_readTwo_79 (by decide) (fun c79 => absurd (rfl) c79) (fun c79 => ?_)
          refine mOk.iconst (x := 0) dX4_readTwo_82 (by decide) ?_
          refine mOk.zret dX4_readTwo_83 rfl (by decide) ?_
          exact bad (fun z => hm2 z.2.1)
    · have z1 : ¬ (tkK bs (skp bs e) = 2 ∧ mF T (nI (tkV bs (skp bs e)))) := fun z => hm z.2
      refine mOk.ifne (tgt := 25) dX4_readTwo_20 (by decide) (fun c20 => absurd (rfl) c20) (fun c20 => ?_)
      refine mOk.iconst (x := 0) dX4_readTwo_23 (by decide) ?_
      refine mOk.zret dX4_readTwo_24 rfl (by decide) ?_
      exact hQ0 _ (by unfold p2; rw [cif_neg z1]) I1 _ _ _ _ ⟨hp, _, h1, hv1⟩ hT1 ho1
end READER2
