/-! ===== History ===== -/
/-- where the k-th latest lies -/
def hx10 (L k : Nat) : Nat := (L + 10 - k) % 10
def hS10 : List Nat := [61, 63, 64, 65, 66, 67, 68, 69, 70, 71, 72, 73, 74, 75, 76, 77, 78, 79, 80, 81, 82, 83]
def Hy (I : Nat → Nat → Int32) (hs : List (Nat × List Int32)) : Prop := ∃ L : Nat, L < 10 ∧ I 61 2 = nI hs.length ∧ I 61 3 = nI L ∧ hs.length ≤ 10 ∧ (∀ i, i < 10 → ∃ ws, Rw I (64 + 2 * i) (65 + 2 * i) 16 ws) ∧
  ∀ k q, hs[k]? = some q → I 63 (hx10 L k) = nI q.1 ∧ Rw I (64 + 2 * hx10 L k) (65 + 2 * hx10 L k) 16 q.2
theorem hyK {i : Nat} (h : i < 10) (sw : Bool) : PQ sw 62 i = some (64 + 2 * i) ∧ KK[64 + 2 * i]? = some (5, 2) := by
  rcases (show i = 0 ∨ i = 1 ∨ i = 2 ∨ i = 3 ∨ i = 4 ∨ i = 5 ∨ i = 6 ∨ i = 7 ∨ i = 8 ∨ i = 9 by omega) with rfl | rfl | rfl | rfl | rfl | rfl | rfl | rfl | rfl | rfl <;> exact ⟨rfl, rfl⟩
theorem hS10_in {i : Nat} (h : i < 10) : 64 + 2 * i ∈ hS10 ∧ 65 + 2 * i ∈ hS10 := by
  rcases (show i = 0 ∨ i = 1 ∨ i = 2 ∨ i = 3 ∨ i = 4 ∨ i = 5 ∨ i = 6 ∨ i = 7 ∨ i = 8 ∨ i = 9 by omega) with rfl | rfl | rfl | rfl | rfl | rfl | rfl | rfl | rfl | rfl <;> exact ⟨by decide, by decide⟩
theorem Hy.off {S : List Nat} {I I' : Nat → Nat → Int32} {hs : List (Nat × List Int32)} (h : Hy I hs) (ho : Off S I I') (hs' : ∀ a ∈ hS10, a ∉ S) : Hy I' hs := by
  obtain ⟨L, h1, h2, h3, h4, h5, h6⟩ := h
  have e61 := ho 61 (hs' 61 (by decide))
  have e63 := ho 63 (hs' 63 (by decide))
  refine ⟨L, h1, by rw [e61]; exact h2, by rw [e61]; exact h3, h4, fun i hi => ?_, fun k q hk => ?_⟩
  · obtain ⟨ws, hw⟩ := h5 i hi
    exact ⟨ws, hw.off ho (hs' _ (hS10_in hi).1) (hs' _ (hS10_in hi).2)⟩
  · obtain ⟨g1, g2⟩ := h6 k q hk
    have hi : hx10 L k < 10 := Nat.mod_lt _ (by omega)
    exact ⟨by rw [e63]; exact g1, g2.off ho (hs' _ (hS10_in hi).1) (hs' _ (hS10_in hi).2)⟩
section HISTORY
variable {sw : Bool} {I : Nat → Nat → Int32} {J : Nat → Nat → Int64} {hs : List (Nat × List Int32)} {Q : Option Value → mi_H → Prop}
theorem c_known (h : Hy I hs) (hQ : Q (some (.int (nI hs.length))) (hS sw I J)) : mCl mX2_known 0 0 0 [.ref 61] (hS sw I J) Q := by
  obtain ⟨L, h1, h2, h3, h4, h5, h6⟩ := h
  refine mCl.of (by decide) rfl (Nat.le_of_ble_eq_true rfl) ?_
  show mOk _ _ _ _ _ [some (.ref 61)] _ _ _ _ _
  refine mOk.aload0n dX2_known_0 rfl ?_
  refine mOk.getIv dX2_known_1 fl_X2_24 (by first | assumption | rfl) h2 ?_
  refine mOk.iret dX2_known_4 rfl hQ
theorem c_forget (h : Hy I hs) (hQ : ∀ I', Hy I' [] → Off hS10 I I' → Q none (hS sw I' J)) : mCl mX2_forget 0 0 0 [.ref 61] (hS sw I J) Q := by
  obtain ⟨L, h1, h2, h3, h4, h5, h6⟩ := h
  refine mCl.of (by decide) rfl (Nat.le_of_ble_eq_true rfl) ?_
  show mOk _ _ _ _ _ [some (.ref 61)] _ _ _ _ _
  refine mOk.aload0n dX2_forget_0 rfl ?_
  refine mOk.iconst (x := nI 0) dX2_forget_1 (by decide) ?_
  refine mOk.putIt dX2_forget_2 fl_X2_24 (by first | assumption | rfl) ?_
  refine mOk.vret dX2_forget_5 rfl (by decide) ?_
  refine hQ _ ⟨L, h1, wI_s _ _ _ _, by rw [wI_j (by decide)]; exact h3, Nat.zero_le _, fun i hi => ?_, fun k q hk => by simp at hk⟩ (Off.w (by decide))
  obtain ⟨ws, hw⟩ := h5 i hi
  exact ⟨ws, hw.off (S := [61]) (Off.w (by simp)) (by simp; omega) (by simp; omega)⟩
theorem c_latestText_none (h : Hy I []) (hQ : Q (some (.int (-9))) (hS sw I J)) : mCl mX2_latestText 0 0 0 [.ref 61] (hS sw I J) Q := by
  obtain ⟨L, h1, h2, h3, h4, h5, h6⟩ := h
  refine mCl.of (by decide) rfl (Nat.le_of_ble_eq_true rfl) ?_
  show mOk _ _ _ _ _ [some (.ref 61)] _ _ _ _ _
  refine mOk.aload0n dX2_latestText_0 rfl ?_
  refine mOk.getIv dX2_latestText_1 fl_X2_24 (by first | assumption | rfl) h2 ?_
  refine mOk.ifle (tgt := 35) dX2_latestText_4 (by decide) (fun c4 => ?_) (fun c4 => absurd ((by decide)) c4)
  refine mOk.bipush (x := -9) dX2_latestText_35 (by decide) ?_
  refine mOk.iret dX2_latestText_37 rfl hQ
theorem c_latestText {q : Nat × List Int32} (h : Hy I (q :: hs)) (hQ : Q (some (.int (nI q.1))) (hS sw I J)) : mCl mX2_latestText 0 0 0 [.ref 61] (hS sw I J) Q := by
  obtain ⟨L, h1, h2, h3, h4, h5, h6⟩ := h
  obtain ⟨g1, g2⟩ := h6 0 q rfl
  have e : hx10 L 0 = L := by unfold hx10; omega
  rw [e] at g1
  simp only [List.length_cons] at h2 h4
  refine mCl.of (by decide) rfl (Nat.le_of_ble_eq_true rfl) ?_
  show mOk _ _ _ _ _ [some (.ref 61)] _ _ _ _ _
  refine mOk.aload0n dX2_latestText_0 rfl ?_
  refine mOk.getIv dX2_latestText_1 fl_X2_24 (by first | assumption | rfl) h2 ?_
  refine mOk.ifle (tgt := 35) dX2_latestText_4 (by decide) (fun c4 => absurd c4 (nI_nle (by omega) (by omega))) (fun c4 => ?_)
  refine mOk.aload0n dX2_latestText_7 rfl ?_
  refine mOk.getIv dX2_latestText_8 fl_X2_28 (by first | assumption | rfl) h3 ?_
  refine mOk.iflt (tgt := 35) dX2_latestText_11 (by decide) (fun c11 => absurd c11 (nI_neg' (by omega))) (fun c11 => ?_)
  refine mOk.aload0n dX2_latestText_14 rfl ?_
  refine mOk.getIv dX2_latestText_15 fl_X2_28 (by first | assumption | rfl) h3 ?_
  refine mOk.bipush (x := nI 10) dX2_latestText_18 (by decide) ?_
  refine mOk.icge (tgt := 35) dX2_latestText_20 (by decide) (fun c20 => absurd c20 (mt (nI_le' (by omega) (by omega)).mp (by omega))) (fun c20 => ?_)
  refine mOk.aload0n dX2_latestText_23 rfl ?_
  refine mOk.getR dX2_latestText_24 fl_X2_17 (by first | assumption | rfl) (by first | assumption | rfl) ?_
  refine mOk.aload0n dX2_latestText_27 rfl ?_
  refine mOk.getIv dX2_latestText_28 fl_X2_28 (by first | assumption | rfl) h3 ?_
  refine mOk.ialdv dX2_latestText_31 (by first | assumption | rfl) rfl (by omega) (by first | assumption | decide | omega) g1 ?_
  refine mOk.goto (tgt := 37) dX2_latestText_32 (by decide) ?_
  refine mOk.iret dX2_latestText_37 rfl hQ
theorem c_giveBack {q : Nat × List Int32} {r ra : Nat} {xs : List Int32} (h : Hy I (q :: hs)) (hx : Rw I r ra 16 xs) (hr1 : r ∉ hS10) (hr2 : ra ∉ hS10) (hQ : ∀ I', Hy I' hs → Rw I' r ra 16 q.2 → Off (r :: ra :: hS10) I I' → Q none (hS sw I' J)) : mCl mX2_giveBack 4 0 0 [.ref 61, .ref r] (hS sw I J) Q := by
  have h' := h
  obtain ⟨L, h1, h2, h3, h4, h5, h6⟩ := h'
  obtain ⟨g1, g2⟩ := h6 0 q rfl
  have e : hx10 L 0 = L := by unfold hx10; omega
  rw [e] at g1 g2
  obtain ⟨s1, s2⟩ := hS10_in h1
  obtain ⟨q1, q2⟩ := hyK h1 sw
  simp only [List.length_cons] at h2 h4
  obtain ⟨r0, -⟩ := id hx.1
  refine mCl.of (by decide) rfl (Nat.le_of_ble_eq_true rfl) ?_
  show mOk _ _ _ _ _ [some (.ref 61), some (.ref r)] _ _ _ _ _
  refine mOk.aload0n dX2_giveBack_0 rfl ?_
  refine mOk.getIv dX2_giveBack_1 fl_X2_24 (by first | assumption | rfl) h2 ?_
  refine mOk.ifle (tgt := 23) dX2_giveBack_4 (by decide) (fun c4 => absurd c4 (nI_nle (by omega) (by omega))) (fun c4 => ?_)
  refine mOk.aload0n dX2_giveBack_7 rfl ?_
  refine mOk.getIv dX2_giveBack_8 fl_X2_28 (by first | assumption | rfl) h3 ?_
  refine mOk.iflt (tgt := 23) dX2_giveBack_11 (by decide) (fun c11 => absurd c11 (nI_neg' (by omega))) (fun c11 => ?_)
  refine mOk.aload0n dX2_giveBack_14 rfl ?_
  refine mOk.getIv dX2_giveBack_15 fl_X2_28 (by first | assumption | rfl) h3 ?_
  refine mOk.bipush (x := nI 10) dX2_giveBack_18 (by decide) ?_
  refine mOk.iclt (tgt := 24) dX2_giveBack_20 (by decide) (fun c20 => ?_) (fun c20 => absurd ((nI_lt' (by omega) (by omega)).mpr (by omega)) c20)
  refine mOk.aload1n dX2_giveBack_24 rfl ?_
  refine mOk.aload0n dX2_giveBack_25 rfl ?_
  refine mOk.getR dX2_giveBack_26 fl_X2_11 (by first | assumption | rfl) (by first | assumption | rfl) ?_
  refine mOk.aload0n dX2_giveBack_29 rfl ?_
  refine mOk.getIv dX2_giveBack_30 fl_X2_28 (by first | assumption | rfl) h3 ?_
  refine mOk.aald dX2_giveBack_33 (by first | assumption | rfl) (by decide) rfl (by omega) (by decide) q1 ?_
  refine mOk.callV1 (M' := mX5_become) dX2_giveBack_34 ml_X2_31 ke_X5_become (by first | assumption | rfl) (by decide) (by decide) (by simp [Value.category]) (c_become hx g2 g2.2.1 (fun z => hr1 (z ▸ s1)) (fun z => hr2 (z ▸ s1)) (fun z => hr1 (z ▸ s2)) (fun z => hr2 (z ▸ s2)) ?_)
  intro I1 hx1 ho1
  have hy1 : ∀ a ∈ hS10, I1 a = I a := fun a ha => ho1 a (by simp; exact ⟨fun z => hr1 (z ▸ ha), fun z => hr2 (z ▸ ha)⟩)
  have k1 : I1 61 3 = nI L := by rw [hy1 61 (by decide)]; exact h3
  have k2 : I1 61 2 = nI (hs.length + 1) := by rw [hy1 61 (by decide)]; exact h2
  have fin : ∀ (x : Int32) (L' : Nat), L' < 10 → x = nI L' → (∀ k, k < 10 → hx10 L' k = hx10 L (k + 1)) → mOk mX2_giveBack 4 0 0 56 [some (.ref 61), some (.ref r)] [.int x, .ref 61] (hS sw I1 J) 0 0 Q := by
    intro x L' hL' ex hk'
    refine mOk.putIt dX2_giveBack_56 fl_X2_28 (by first | assumption | rfl) ?_
    refine mOk.aload0n dX2_giveBack_59 rfl ?_
    refine mOk.dup dX2_giveBack_60 rfl ?_
    refine mOk.getIv dX2_giveBack_61 fl_X2_24 (by first | assumption | rfl) (show wI I1 61 3 x 61 2 = nI (hs.length + 1) from (wI_j (by decide)).trans k2) ?_
    refine mOk.iconst (x := nI 1) dX2_giveBack_64 (by decide) ?_
    refine mOk.isub dX2_giveBack_65 ?_
    refine mOk.top (nI_pred hs.length) ?_
    refine mOk.putIt dX2_giveBack_66 fl_X2_24 (by first | assumption | rfl) ?_
    refine mOk.vret dX2_giveBack_69 rfl (by decide) ?_
    have hw : Off [61] I1 (wI (wI I1 61 3 x) 61 2 (nI hs.length)) := (Off.w (a := 61) (by simp)).tr (Off.w (by simp))
    have r61 : r ≠ 61 := fun z => hr1 (z ▸ by decide)
    have ra61 : ra ≠ 61 := fun z => hr2 (z ▸ by decide)
    refine hQ _ ⟨L', hL', wI_s _ _ _ _, by rw [wI_j (by decide), wI_s]; exact ex, by omega, fun i hi => ?_, fun k p hk => ?_⟩ (hx1.off hw (by simp [r61]) (by simp [ra61])) ((ho1.up (by intro a ha; simp at ha ⊢; omega)).tr (hw.up (by intro a ha; simp at ha; subst ha; simp [hS10])))
    · obtain ⟨ws, hw'⟩ := h5 i hi
      obtain ⟨t1, t2⟩ := hS10_in hi
      exact ⟨ws, (hw'.off ho1 (by simp; exact ⟨fun z => hr1 (z ▸ t1), fun z => hr2 (z ▸ t1)⟩) (by simp; exact ⟨fun z => hr1 (z ▸ t2), fun z => hr2 (z ▸ t2)⟩)).off hw (by simp; omega) (by simp; omega)⟩
    · have hkl : k < hs.length := (List.getElem?_eq_some_iff.mp hk).1
      obtain ⟨m1, m2⟩ := h6 (k + 1) p (by simpa using hk)
      rw [hk' k (by omega)]
      have hi : hx10 L (k + 1) < 10 := Nat.mod_lt _ (by omega)
      obtain ⟨t1, t2⟩ := hS10_in hi
      refine ⟨by rw [wI_c (by decide), wI_c (by decide), hy1 63 (by decide)]; exact m1, (m2.off ho1 (by simp; exact ⟨fun z => hr1 (z ▸ t1), fun z => hr2 (z ▸ t1)⟩) (by simp; exact ⟨fun z => hr1 (z ▸ t2), fun z => hr2 (z ▸ t2)⟩)).off hw (by simp; omega) (by simp; omega)⟩
  refine mOk.aload0n dX2_giveBack_37 rfl ?_
  refine mOk.aload0n dX2_giveBack_38 rfl ?_
  refine mOk.getIv dX2_giveBack_39 fl_X2_28 (by first | assumption | rfl) k1 ?_
  refine mOk.ifle (tgt := 54) dX2_giveBack_42 (by decide) (fun c42 => ?_) (fun c42 => ?_)
  · have hL0 : L = 0 := by
      rcases Nat.eq_zero_or_pos L with z | z
      · exact z
      · exact absurd c42 (nI_nle z (by omega))
    refine mOk.bipush (x := nI 9) dX2_giveBack_54 (by decide) ?_
    exact fin _ 9 (by omega) rfl (fun k hk => by unfold hx10; omega)
  · have hL0 : 0 < L := by
      rcases Nat.eq_zero_or_pos L with z | z
      · exact absurd (by rw [z]; decide) c42
      · exact z
    refine mOk.aload0n dX2_giveBack_45 rfl ?_
    refine mOk.getIv dX2_giveBack_46 fl_X2_28 (by first | assumption | rfl) k1 ?_
    refine mOk.iconst (x := nI 1) dX2_giveBack_49 (by decide) ?_
    refine mOk.isub dX2_giveBack_50 ?_
    refine mOk.top (pk_sub (a := L) (b := 1) (by omega)) ?_
    refine mOk.goto (tgt := 56) dX2_giveBack_51 (by decide) ?_
    exact fin _ (L - 1) (by omega) rfl (fun k hk => by unfold hx10; omega)
theorem c_remember {t : Nat} {r ra : Nat} {xs : List Int32} (h : Hy I hs) (hx : Rw I r ra 16 xs) (hr1 : r ∉ hS10) (hr2 : ra ∉ hS10) (hQ : ∀ I', Hy I' (((t, xs) :: hs).take 10) → Off hS10 I I' → Q none (hS sw I' J)) : mCl mX2_remember 4 0 0 [.ref 61, .int (nI t), .ref r] (hS sw I J) Q := by
  obtain ⟨L, h1, h2, h3, h4, h5, h6⟩ := h
  have key : ∀ (L' : Nat), L' < 10 → (∀ k, k < 10 → hx10 L' (k + 1) = hx10 L k) → mOk mX2_remember 4 0 0 28 [some (.ref 61), some (.int (nI t)), some (.ref r), none] [.int (nI L')] (hS sw I J) 0 0 Q := by
    intro L' hL' hk'
    obtain ⟨q1, q2⟩ := hyK hL' sw
    obtain ⟨s1, s2⟩ := hS10_in hL'
    obtain ⟨ws, hw⟩ := h5 L' hL'
    have r63 : r ≠ 63 := fun z => hr1 (z ▸ by decide)
    have ra63 : ra ≠ 63 := fun z => hr2 (z ▸ by decide)
    have o63 : Off [63] I (wI I 63 L' (nI t)) := Off.w (by simp)
    refine mOk.istore3n dX2_remember_28 rfl (by decide) rfl ?_
    refine mOk.aload0n dX2_remember_29 rfl ?_
    refine mOk.getR dX2_remember_30 fl_X2_17 (by first | assumption | rfl) (by first | assumption | rfl) ?_
    refine mOk.iload3n dX2_remember_33 rfl ?_
    refine mOk.iload1n dX2_remember_34 rfl ?_
    refine mOk.iastt dX2_remember_35 (by first | assumption | rfl) rfl (by omega) (by first | assumption | decide | omega) ?_
    refine mOk.aload0n dX2_remember_36 rfl ?_
    refine mOk.getR dX2_remember_37 fl_X2_11 (by first | assumption | rfl) (by first | assumption | rfl) ?_
    refine mOk.iload3n dX2_remember_40 rfl ?_
    refine mOk.aald dX2_remember_41 (by first | assumption | rfl) (by decide) rfl (by omega) (by decide) q1 ?_
    refine mOk.aload2n dX2_remember_42 rfl ?_
    refine mOk.callV1 (M' := mX5_become) dX2_remember_43 ml_X2_31 ke_X5_become (by first | assumption | rfl) (by decide) (by decide) (by simp [Value.category]) (c_become (hw.off o63 (by simp; omega) (by simp; omega)) (hx.off o63 (by simp [r63]) (by simp [ra63])) hx.2.1 (fun z => hr1 (z.symm ▸ s1)) (fun z => hr1 (z.symm ▸ s2)) (fun z => hr2 (z.symm ▸ s1)) (fun z => hr2 (z.symm ▸ s2)) ?_)
    intro I1 hx1 ho1
    have k2 : I1 61 2 = nI hs.length := by rw [ho1 61 (by simp; omega), wI_c (by decide)]; exact h2
    refine mOk.aload0n dX2_remember_46 rfl ?_
    refine mOk.iload3n dX2_remember_47 rfl ?_
    refine mOk.putIt dX2_remember_48 fl_X2_28 (by first | assumption | rfl) ?_
    refine mOk.aload0n dX2_remember_51 rfl ?_
    refine mOk.aload0n dX2_remember_52 rfl ?_
    refine mOk.getIv dX2_remember_53 fl_X2_24 (by first | assumption | rfl) (show wI I1 61 3 (nI L') 61 2 = nI hs.length from (wI_j (by decide)).trans k2) ?_
    refine mOk.iconst (x := nI 1) dX2_remember_56 (by decide) ?_
    refine mOk.iadd dX2_remember_57 ?_
    refine mOk.top (nI_1 hs.length) ?_
    refine mOk.bipush (x := nI 10) dX2_remember_58 (by decide) ?_
    refine mOk.mmin dX2_remember_60 ml_X2_35 (by decide) (by decide) (by simp [Value.category]) ?_
    refine mOk.top (min_nI (a := hs.length + 1) (b := 10) (by omega) (by omega)) ?_
    refine mOk.putIt dX2_remember_63 fl_X2_24 (by first | assumption | rfl) ?_
    refine mOk.vret dX2_remember_66 rfl (by decide) ?_
    have hw2 : Off [61] I1 (wI (wI I1 61 3 (nI L')) 61 2 (nI (min (hs.length + 1) 10))) := (Off.w (a := 61) (by simp)).tr (Off.w (by simp))
    have rest : ∀ i, i < 10 → i ≠ L' → ∀ zs, Rw I (64 + 2 * i) (65 + 2 * i) 16 zs → Rw (wI (wI I1 61 3 (nI L')) 61 2 (nI (min (hs.length + 1) 10))) (64 + 2 * i) (65 + 2 * i) 16 zs := fun i hi hne zs hz => ((hz.off o63 (by simp; omega) (by simp; omega)).off ho1 (by simp; omega) (by simp; omega)).off hw2 (by simp; omega) (by simp; omega)
    have e0 : hx10 L' 0 = L' := by unfold hx10; omega
    have i63 : ∀ j, wI (wI I1 61 3 (nI L')) 61 2 (nI (min (hs.length + 1) 10)) 63 j = wI I 63 L' (nI t) 63 j := fun j => by rw [wI_c (by decide), wI_c (by decide), ho1 63 (by simp; omega)]
    refine hQ _ ⟨L', hL', ?_, by rw [wI_j (by decide), wI_s], by simp; omega, fun i hi => ?_, fun k p hk => ?_⟩ ?_
    · rw [wI_s, List.length_take, List.length_cons, Nat.min_comm]
    · by_cases z : i = L'
      · subst z
        exact ⟨xs, hx1.off hw2 (by simp; omega) (by simp; omega)⟩
      · obtain ⟨zs, hz⟩ := h5 i hi
        exact ⟨zs, rest i hi z zs hz⟩
    · rw [List.getElem?_take] at hk
      split at hk
      · next hk10 =>
        cases k with
        | zero =>
          simp at hk
          subst hk
          rw [e0, i63, wI_s]
          exact ⟨rfl, hx1.off hw2 (by simp; omega) (by simp; omega)⟩
        | succ k =>
          rw [List.getElem?_cons_succ] at hk
          obtain ⟨m1, m2⟩ := h6 k p hk
          rw [hk' k (by omega)]
          have hi : hx10 L k < 10 := Nat.mod_lt _ (by omega)
          have hne : hx10 L k ≠ L' := by
            intro z
            have w := hk' k (by omega)
            rw [z] at w
            unfold hx10 at w
            omega
          rw [i63, wI_j hne]
          exact ⟨m1, rest _ hi hne _ m2⟩
      · cases hk
    · refine Off.tr (o63.up (by decide)) (Off.tr (ho1.up ?_) (hw2.up (by decide)))
      intro a ha
      simp only [List.mem_cons, List.not_mem_nil, or_false] at ha
      rcases ha with rfl | rfl
      · exact s1
      · exact s2
  refine mCl.of (by decide) rfl (Nat.le_of_ble_eq_true rfl) ?_
  show mOk _ _ _ _ _ [some (.ref 61), some (.int (nI t)), some (.ref r), none] _ _ _ _ _
  refine mOk.aload0n dX2_remember_0 rfl ?_
  refine mOk.getIv dX2_remember_1 fl_X2_28 (by first | assumption | rfl) h3 ?_
  refine mOk.iflt (tgt := 27) dX2_remember_4 (by decide) (fun c4 => absurd c4 (nI_neg' (by omega))) (fun c4 => ?_)
  refine mOk.aload0n dX2_remember_7 rfl ?_
  refine mOk.getIv dX2_remember_8 fl_X2_28 (by first | assumption | rfl) h3 ?_
  refine mOk.iconst (x := nI 1) dX2_remember_11 (by decide) ?_
  refine mOk.iadd dX2_remember_12 ?_
  refine mOk.top (nI_1 L) ?_
  refine mOk.bipush (x := nI 10) dX2_remember_13 (by decide) ?_
  refine mOk.icge (tgt := 27) dX2_remember_15 (by decide) (fun c15 => ?_) (fun c15 => ?_)
  · have := (nI_le' (by omega) (by omega)).mp c15
    refine mOk.iconst (x := nI 0) dX2_remember_27 (by decide) ?_
    exact key 0 (by omega) (fun k hk => by unfold hx10; omega)
  · have := mt (nI_le' (by omega) (by omega)).mpr c15
    refine mOk.aload0n dX2_remember_18 rfl ?_
    refine mOk.getIv dX2_remember_19 fl_X2_28 (by first | assumption | rfl) h3 ?_
    refine mOk.iconst (x := nI 1) dX2_remember_22 (by decide) ?_
    refine mOk.iadd dX2_remember_23 ?_
    refine mOk.top (nI_1 L) ?_
    refine mOk.goto (tgt := 28) dX2_remember_24 (by decide) ?_
    exact key (L + 1) (by omega) (fun k hk => by unfold hx10; omega)
end HISTORY
