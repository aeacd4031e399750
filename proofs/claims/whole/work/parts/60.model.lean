/-! ===== the reference: its cells, codes ===== -/
/-- fields F of its object and the arrays S may have changed -/
def Of (F S : List Nat) (I I' : Nat → Nat → Int32) : Prop := (∀ a, a ≠ 97 → a ∉ S → I' a = I a) ∧ ∀ f, f ∉ F → I' 97 f = I 97 f
theorem Of.rf {F S : List Nat} {I : Nat → Nat → Int32} : Of F S I I := ⟨fun _ _ _ => rfl, fun _ _ => rfl⟩
theorem Of.tr {F S : List Nat} {I I' I'' : Nat → Nat → Int32} (h1 : Of F S I I') (h2 : Of F S I' I'') : Of F S I I'' := ⟨fun a x y => (h2.1 a x y).trans (h1.1 a x y), fun f x => (h2.2 f x).trans (h1.2 f x)⟩
theorem Of.up {F S F' S' : List Nat} {I I' : Nat → Nat → Int32} (h : Of F S I I') (hF : ∀ f ∈ F, f ∈ F') (hS : ∀ a ∈ S, a ∈ S') : Of F' S' I I' := ⟨fun a x y => h.1 a x (fun z => y (hS a z)), fun f x => h.2 f (fun z => x (hF f z))⟩
theorem Of.f {F S : List Nat} {I : Nat → Nat → Int32} {f : Nat} {x : Int32} (h : f ∈ F) : Of F S I (wI I 97 f x) := ⟨fun a h1 _ => wI_c h1, fun g hg => wI_j (fun z => hg (z ▸ h))⟩
theorem Of.a {F S : List Nat} {I : Nat → Nat → Int32} {a i : Nat} {x : Int32} (h : a ∈ S) (h' : a ≠ 97) : Of F S I (wI I a i x) := ⟨fun b _ hb => wI_c (fun z => hb (z ▸ h)), fun g _ => by rw [wI_c (Ne.symm h')]⟩
theorem Of.fr {F S : List Nat} {I I' : Nat → Nat → Int32} (h : Of F S I I') (hS : ∀ a ∈ S, 97 ≤ a) : ∀ a, a < 97 → I' a = I a := fun a ha => h.1 a (by omega) (fun z => by have := hS a z; omega)
def Md (I : Nat → Nat → Int32) (T : List CR) : Prop := T.length ≤ 24 ∧ I 97 0 = nI T.length ∧ ∀ j q, T[j]? = some q → I 98 j = q.1 ∧ I 99 j = q.2.1 ∧ I 100 j = q.2.2.1 ∧ I 101 j = q.2.2.2.1 ∧ I 102 j = nI q.2.2.2.2.length ∧ q.2.2.2.2.length ≤ 4 ∧ ∀ k p, q.2.2.2.2[k]? = some p → I 103 (4 * j + k) = p
theorem Md.of {F S : List Nat} {I I' : Nat → Nat → Int32} {T : List CR} (h : Md I T) (ho : Of F S I I') (hF : 0 ∉ F) (hS : ∀ a ∈ [98, 99, 100, 101, 102, 103], a ∉ S) : Md I' T := by
  obtain ⟨h1, h2, h3⟩ := h
  refine ⟨h1, by rw [ho.2 0 hF]; exact h2, ?_⟩
  rw [ho.1 98 (by decide) (hS 98 (by decide)), ho.1 99 (by decide) (hS 99 (by decide)), ho.1 100 (by decide) (hS 100 (by decide)), ho.1 101 (by decide) (hS 101 (by decide)), ho.1 102 (by decide) (hS 102 (by decide)), ho.1 103 (by decide) (hS 103 (by decide))]
  exact h3
section MODEL
variable {sw : Bool} {I : Nat → Nat → Int32} {J : Nat → Nat → Int64} {Q : Option Value → mi_H → Prop} {T : List CR}
theorem Md.K (h : Md I T) {c : Int32} {j : Nat} (e : c = nI j) (hj : j < T.length) : I 98 j = tK T c := by
  subst e
  have := h.1
  obtain ⟨q, h1, h2⟩ := tG_at hj (by omega)
  unfold tK
  rw [h2]
  exact (h.2.2 j q h1).1
theorem Md.C (h : Md I T) {c : Int32} {j : Nat} (e : c = nI j) (hj : j < T.length) : I 99 j = tC T c := by
  subst e
  have := h.1
  obtain ⟨q, h1, h2⟩ := tG_at hj (by omega)
  unfold tC
  rw [h2]
  exact (h.2.2 j q h1).2.1
theorem Md.F (h : Md I T) {c : Int32} {j : Nat} (e : c = nI j) (hj : j < T.length) : I 100 j = tF T c := by
  subst e
  have := h.1
  obtain ⟨q, h1, h2⟩ := tG_at hj (by omega)
  unfold tF
  rw [h2]
  exact (h.2.2 j q h1).2.2.1
theorem Md.S (h : Md I T) {c : Int32} {j : Nat} (e : c = nI j) (hj : j < T.length) : I 101 j = tS T c := by
  subst e
  have := h.1
  obtain ⟨q, h1, h2⟩ := tG_at hj (by omega)
  unfold tS
  rw [h2]
  exact (h.2.2 j q h1).2.2.2.1
theorem Md.P (h : Md I T) {c : Int32} {j : Nat} (e : c = nI j) (hj : j < T.length) : I 102 j = nI (tP T c).length := by
  subst e
  have := h.1
  obtain ⟨q, h1, h2⟩ := tG_at hj (by omega)
  unfold tP
  rw [h2]
  exact (h.2.2 j q h1).2.2.2.2.1
theorem Md.P4 (h : Md I T) (c : Int32) : (tP T c).length ≤ 4 := by
  unfold tP
  cases hz : tG T c with
  | none => simp
  | some q =>
    unfold tG at hz
    split at hz
    · cases hz
    · exact (h.2.2 _ q hz).2.2.2.2.2.1
theorem Md.p (h : Md I T) {c : Int32} {j k : Nat} (e : c = nI j) (hj : j < T.length) (hk : k < (tP T c).length) : I 103 (4 * j + k) = (tP T c).getD k (-9) := by
  subst e
  have := h.1
  obtain ⟨q, h1, h2⟩ := tG_at hj (by omega)
  unfold tP at hk ⊢
  rw [h2] at hk ⊢
  exact (h.2.2 j q h1).2.2.2.2.2.2 k _ (getD_at hk _)
theorem c_in_y {v lo hi : Int32} (h1 : ¬ v < lo) (h2 : ¬ hi < v) (hQ : Q (some (.int 1)) (hS sw I J)) : mCl mX9_in 0 0 0 [.int v, .int lo, .int hi] (hS sw I J) Q := by
  refine mCl.of (by decide) rfl (Nat.le_of_ble_eq_true rfl) ?_
  show mOk _ _ _ _ _ [some (.int v), some (.int lo), some (.int hi)] _ _ _ _ _
  refine mOk.iload0n dX9_in_0 rfl ?_
  refine mOk.iload1n dX9_in_1 rfl ?_
  refine mOk.iclt (tgt := 14) dX9_in_2 (by decide) (fun c2 => absurd c2 (h1)) (fun c2 => ?_)
  refine mOk.iload0n dX9_in_5 rfl ?_
  refine mOk.iload2n dX9_in_6 rfl ?_
  refine mOk.icgt (tgt := 14) dX9_in_7 (by decide) (fun c7 => absurd c7 (h2)) (fun c7 => ?_)
  refine mOk.iconst (x := 1) dX9_in_10 (by decide) ?_
  refine mOk.goto (tgt := 15) dX9_in_11 (by decide) ?_
  refine mOk.zret dX9_in_15 rfl (by decide) hQ
theorem c_in_n {v lo hi : Int32} (h : v < lo ∨ hi < v) (hQ : Q (some (.int 0)) (hS sw I J)) : mCl mX9_in 0 0 0 [.int v, .int lo, .int hi] (hS sw I J) Q := by
  refine mCl.of (by decide) rfl (Nat.le_of_ble_eq_true rfl) ?_
  show mOk _ _ _ _ _ [some (.int v), some (.int lo), some (.int hi)] _ _ _ _ _
  refine mOk.iload0n dX9_in_0 rfl ?_
  refine mOk.iload1n dX9_in_1 rfl ?_
  refine mOk.iclt (tgt := 14) dX9_in_2 (by decide) (fun c2 => ?_) (fun c2 => ?_)
  · refine mOk.iconst (x := 0) dX9_in_14 (by decide) ?_
    refine mOk.zret dX9_in_15 rfl (by decide) hQ
  · refine mOk.iload0n dX9_in_5 rfl ?_
    refine mOk.iload2n dX9_in_6 rfl ?_
    refine mOk.icgt (tgt := 14) dX9_in_7 (by decide) (fun c7 => ?_) (fun c7 => absurd ((h.resolve_left c2)) c7)
    refine mOk.iconst (x := 0) dX9_in_14 (by decide) ?_
    refine mOk.zret dX9_in_15 rfl (by decide) hQ
/-- from 0 up to n - 1 -/
theorem lt_pred {v : Int32} {n : Nat} (hn : n < 100000) (h : nI n ≤ v) : nI n - nI 1 < v := by
  rw [Int32.le_iff_toInt_le, nI_toInt (by omega)] at h
  rw [Int32.lt_iff_toInt_lt, pk_sub_toInt (by omega) (by omega)]
  omega
theorem nlt_pred {j n : Nat} (hn : n < 100000) (h : j < n) : ¬ nI n - nI 1 < nI j := by
  rw [Int32.lt_iff_toInt_lt, pk_sub_toInt (by omega) (by omega), nI_toInt (by omega)]
  omega
theorem c_isCode_y (h : Md I T) {j : Nat} (hj : j < T.length) (hQ : Q (some (.int 1)) (hS sw I J)) : mCl mX9_isCode 1 0 0 [.ref 97, .int (nI j)] (hS sw I J) Q := by
  have hl := h.1
  refine mCl.of (by decide) rfl (Nat.le_of_ble_eq_true rfl) ?_
  show mOk _ _ _ _ _ [some (.ref 97), some (.int (nI j))] _ _ _ _ _
  refine mOk.iload1n dX9_isCode_0 rfl ?_
  refine mOk.iconst (x := nI 0) dX9_isCode_1 (by decide) ?_
  refine mOk.aload0n dX9_isCode_2 rfl ?_
  refine mOk.getIv dX9_isCode_3 fl_X9_62 (by first | assumption | rfl) h.2.1 ?_
  refine mOk.iconst (x := nI 1) dX9_isCode_6 (by decide) ?_
  refine mOk.isub dX9_isCode_7 ?_
  refine mOk.callS3 (M' := mX9_in) dX9_isCode_8 ml_X9_66 ke_X9_in rfl (by decide) (by decide) (by simp [Value.category]) (c_in_y (nI_neg' (by omega)) (nlt_pred (by omega) hj) ?_)
  refine mOk.zret dX9_isCode_11 rfl (by decide) hQ
theorem c_isCode_n (h : Md I T) {c : Int32} (hc : c < 0 ∨ nI T.length ≤ c) (hQ : Q (some (.int 0)) (hS sw I J)) : mCl mX9_isCode 1 0 0 [.ref 97, .int c] (hS sw I J) Q := by
  have hl := h.1
  refine mCl.of (by decide) rfl (Nat.le_of_ble_eq_true rfl) ?_
  show mOk _ _ _ _ _ [some (.ref 97), some (.int c)] _ _ _ _ _
  refine mOk.iload1n dX9_isCode_0 rfl ?_
  refine mOk.iconst (x := nI 0) dX9_isCode_1 (by decide) ?_
  refine mOk.aload0n dX9_isCode_2 rfl ?_
  refine mOk.getIv dX9_isCode_3 fl_X9_62 (by first | assumption | rfl) h.2.1 ?_
  refine mOk.iconst (x := nI 1) dX9_isCode_6 (by decide) ?_
  refine mOk.isub dX9_isCode_7 ?_
  refine mOk.callS3 (M' := mX9_in) dX9_isCode_8 ml_X9_66 ke_X9_in rfl (by decide) (by decide) (by simp [Value.category]) (c_in_n (hc.imp id (lt_pred (by omega))) ?_)
  refine mOk.zret dX9_isCode_11 rfl (by decide) hQ
theorem l_sortMany (h : Md I T) {kd : Int32} (hQ : Q (some (.int (nI (cntK T kd)))) (hS sw I J)) :
    ∀ (m i : Nat), i + m = T.length → mOk mX9_sortMany 0 0 0 4 [some (.ref 97), some (.int kd), some (.int (nI (cntK (T.take i) kd))), some (.int (nI i))] [] (hS sw I J) 0 0 Q := by
  have hl := h.1
  intro m
  induction m with
  | zero =>
    intro i hi
    rw [List.take_of_length_le (by omega)]
    refine mOk.iload3n dX9_sortMany_4 rfl ?_
    refine mOk.aload0n dX9_sortMany_5 rfl ?_
    refine mOk.getIv dX9_sortMany_6 fl_X9_62 (by first | assumption | rfl) h.2.1 ?_
    refine mOk.icge (tgt := 36) dX9_sortMany_9 (by decide) (fun c9 => ?_) (fun c9 => absurd ((nI_le' (by omega) (by omega)).mpr (by omega)) c9)
    refine mOk.iload2n dX9_sortMany_36 rfl ?_
    refine mOk.iret dX9_sortMany_37 rfl hQ
  | succ m ih =>
    intro i hi
    have hil : i < T.length := by omega
    obtain ⟨q, hq, -⟩ := tG_at hil (by omega)
    have hcn : cntK (T.take (i + 1)) kd = cntK (T.take i) kd + (if q.1 = kd then 1 else 0) := by
      unfold cntK
      rw [take_T hq, List.countP_append, List.countP_singleton]
      simp
    refine mOk.iload3n dX9_sortMany_4 rfl ?_
    refine mOk.aload0n dX9_sortMany_5 rfl ?_
    refine mOk.getIv dX9_sortMany_6 fl_X9_62 (by first | assumption | rfl) h.2.1 ?_
    refine mOk.icge (tgt := 36) dX9_sortMany_9 (by decide) (fun c9 => absurd c9 (mt (nI_le' (by omega) (by omega)).mp (by omega))) (fun c9 => ?_)
    refine mOk.iload2n dX9_sortMany_12 rfl ?_
    refine mOk.aload0n dX9_sortMany_13 rfl ?_
    refine mOk.getR dX9_sortMany_14 fl_X9_7 (by first | assumption | rfl) (by first | assumption | rfl) ?_
    refine mOk.iload3n dX9_sortMany_17 rfl ?_
    refine mOk.ialdv dX9_sortMany_18 (by first | assumption | rfl) rfl (by omega) (by first | assumption | decide | omega) (h.2.2 i q hq).1 ?_
    refine mOk.iload1n dX9_sortMany_19 rfl ?_
    refine mOk.icne (tgt := 27) dX9_sortMany_20 (by decide) (fun c20 => ?_) (fun c20 => ?_)
    · refine mOk.iconst (x := nI 0) dX9_sortMany_27 (by decide) ?_
      refine mOk.iadd dX9_sortMany_28 ?_
      refine mOk.top ((nI_add _ _)) ?_
      refine mOk.istore2n dX9_sortMany_29 rfl (by decide) rfl ?_
      refine mOk.iinc3 dX9_sortMany_30 (mOk.inc1 rfl) (by decide) rfl ?_
      refine mOk.goto (tgt := 4) dX9_sortMany_33 (by decide) ?_
      rw [if_neg c20] at hcn
      rw [← hcn]
      exact ih (i + 1) (by omega)
    · refine mOk.iconst (x := nI 1) dX9_sortMany_23 (by decide) ?_
      refine mOk.goto (tgt := 28) dX9_sortMany_24 (by decide) ?_
      refine mOk.iadd dX9_sortMany_28 ?_
      refine mOk.top ((nI_add _ _)) ?_
      refine mOk.istore2n dX9_sortMany_29 rfl (by decide) rfl ?_
      refine mOk.iinc3 dX9_sortMany_30 (mOk.inc1 rfl) (by decide) rfl ?_
      refine mOk.goto (tgt := 4) dX9_sortMany_33 (by decide) ?_
      rw [if_pos c20] at hcn
      rw [← hcn]
      exact ih (i + 1) (by omega)
theorem c_sortMany (h : Md I T) {kd : Int32} (hQ : Q (some (.int (nI (cntK T kd)))) (hS sw I J)) : mCl mX9_sortMany 0 0 0 [.ref 97, .int kd] (hS sw I J) Q := by
  refine mCl.of (by decide) rfl (Nat.le_of_ble_eq_true rfl) ?_
  show mOk _ _ _ _ _ [some (.ref 97), some (.int kd), none, none] _ _ _ _ _
  refine mOk.iconst (x := nI 0) dX9_sortMany_0 (by decide) ?_
  refine mOk.istore2n dX9_sortMany_1 rfl (by decide) rfl ?_
  refine mOk.iconst (x := nI 0) dX9_sortMany_2 (by decide) ?_
  refine mOk.istore3n dX9_sortMany_3 rfl (by decide) rfl ?_
  exact l_sortMany h hQ T.length 0 (Nat.zero_add _)
theorem l_marks (h : Md I T) (hT : TOk T) (hQ : Q (some (.int (nI (cntM T)))) (hS sw I J)) :
    ∀ (m i : Nat), i + m = T.length → mOk mX9_marks 0 0 0 4 [some (.ref 97), some (.int (nI (cntM (T.take i)))), some (.int (nI i))] [] (hS sw I J) 0 0 Q := by
  have hl := h.1
  intro m
  induction m with
  | zero =>
    intro i hi
    rw [List.take_of_length_le (by omega)]
    refine mOk.iload2n dX9_marks_4 rfl ?_
    refine mOk.aload0n dX9_marks_5 rfl ?_
    refine mOk.getIv dX9_marks_6 fl_X9_62 (by first | assumption | rfl) h.2.1 ?_
    refine mOk.icge (tgt := 35) dX9_marks_9 (by decide) (fun c9 => ?_) (fun c9 => absurd ((nI_le' (by omega) (by omega)).mpr (by omega)) c9)
    refine mOk.iload1n dX9_marks_35 rfl ?_
    refine mOk.iret dX9_marks_36 rfl hQ
  | succ m ih =>
    intro i hi
    have hil : i < T.length := by omega
    obtain ⟨q, hq, hg⟩ := tG_at hil (by omega)
    have hc0 := hT.c0 ⟨i, hil, rfl⟩
    have hc1 : tC T (nI i) = q.2.1 := by unfold tC; rw [hg]
    rw [hc1] at hc0
    have hcn : cntM (T.take (i + 1)) = cntM (T.take i) + (if q.2.1 = 0 then 0 else 1) := by
      unfold cntM
      rw [take_T hq, List.countP_append, List.countP_singleton]
      by_cases z : q.2.1 = 0 <;> simp [z]
    refine mOk.iload2n dX9_marks_4 rfl ?_
    refine mOk.aload0n dX9_marks_5 rfl ?_
    refine mOk.getIv dX9_marks_6 fl_X9_62 (by first | assumption | rfl) h.2.1 ?_
    refine mOk.icge (tgt := 35) dX9_marks_9 (by decide) (fun c9 => absurd c9 (mt (nI_le' (by omega) (by omega)).mp (by omega))) (fun c9 => ?_)
    refine mOk.iload1n dX9_marks_12 rfl ?_
    refine mOk.aload0n dX9_marks_13 rfl ?_
    refine mOk.getR dX9_marks_14 fl_X9_13 (by first | assumption | rfl) (by first | assumption | rfl) ?_
    refine mOk.iload2n dX9_marks_17 rfl ?_
    refine mOk.ialdv dX9_marks_18 (by first | assumption | rfl) rfl (by omega) (by first | assumption | decide | omega) (h.2.2 i q hq).2.1 ?_
    refine mOk.ifle (tgt := 26) dX9_marks_19 (by decide) (fun c19 => ?_) (fun c19 => ?_)
    · have z : q.2.1 = 0 := by
        rw [← Int32.toInt_inj]
        rw [Int32.le_iff_toInt_le] at hc0 c19
        exact Int.le_antisymm c19 hc0
      refine mOk.iconst (x := nI 0) dX9_marks_26 (by decide) ?_
      refine mOk.iadd dX9_marks_27 ?_
      refine mOk.top ((nI_add _ _)) ?_
      refine mOk.istore1n dX9_marks_28 rfl (by decide) rfl ?_
      refine mOk.iinc2 dX9_marks_29 (mOk.inc1 rfl) (by decide) rfl ?_
      refine mOk.goto (tgt := 4) dX9_marks_32 (by decide) ?_
      rw [if_pos z] at hcn
      rw [← hcn]
      exact ih (i + 1) (by omega)
    · have z : ¬ q.2.1 = 0 := fun z => c19 (by rw [z]; decide)
      refine mOk.iconst (x := nI 1) dX9_marks_22 (by decide) ?_
      refine mOk.goto (tgt := 27) dX9_marks_23 (by decide) ?_
      refine mOk.iadd dX9_marks_27 ?_
      refine mOk.top ((nI_add _ _)) ?_
      refine mOk.istore1n dX9_marks_28 rfl (by decide) rfl ?_
      refine mOk.iinc2 dX9_marks_29 (mOk.inc1 rfl) (by decide) rfl ?_
      refine mOk.goto (tgt := 4) dX9_marks_32 (by decide) ?_
      rw [if_neg z] at hcn
      rw [← hcn]
      exact ih (i + 1) (by omega)
theorem c_marks (h : Md I T) (hT : TOk T) (hQ : Q (some (.int (nI (cntM T)))) (hS sw I J)) : mCl mX9_marks 0 0 0 [.ref 97] (hS sw I J) Q := by
  refine mCl.of (by decide) rfl (Nat.le_of_ble_eq_true rfl) ?_
  show mOk _ _ _ _ _ [some (.ref 97), none, none] _ _ _ _ _
  refine mOk.iconst (x := nI 0) dX9_marks_0 (by decide) ?_
  refine mOk.istore1n dX9_marks_1 rfl (by decide) rfl ?_
  refine mOk.iconst (x := nI 0) dX9_marks_2 (by decide) ?_
  refine mOk.istore2n dX9_marks_3 rfl (by decide) rfl ?_
  exact l_marks h hT hQ T.length 0 (Nat.zero_add _)
/-- the latest pair of those up to i -/
def lpr (T : List CR) (a b : Int32) (i : Nat) (pr : Int32) : Prop := (pr = -9 ∧ ∀ j, j < i → ¬ (tK T (nI j) = 1 ∧ tF T (nI j) = a ∧ tS T (nI j) = b)) ∨ ∃ j, j < i ∧ (tK T (nI j) = 1 ∧ tF T (nI j) = a ∧ tS T (nI j) = b) ∧ pr = nI j
theorem lpr_end (hT : TOk T) {a b pr : Int32} (h : lpr T a b T.length pr) : pr = pairC T a b := by
  have hl := hT.1
  rcases h with ⟨rfl, h⟩ | ⟨j, hj, ⟨h1, h2, h3⟩, rfl⟩
  · refine ((pairC_none (by omega)).mpr ?_).symm
    rintro c ⟨j, hj, rfl⟩ hk hab
    exact h j hj ⟨hk, hab⟩
  · rcases pairC_or (T := T) (by omega) a b with z | ⟨z1, z2, z3, z4⟩
    · exact absurd ⟨h2, h3⟩ ((pairC_none (by omega)).mp z (nI j) ⟨j, hj, rfl⟩ h1)
    · exact hT.uniq _ _ ⟨j, hj, rfl⟩ z1 h1 z2 (h2.trans z3.symm) (h3.trans z4.symm)
theorem l_mpairOf (h : Md I T) (hT : TOk T) {a b : Int32} (hQ : Q (some (.int (pairC T a b))) (hS sw I J)) :
    ∀ (m i : Nat) (pr : Int32), i + m = T.length → lpr T a b i pr → mOk mX9_pairOf 0 0 0 6 [some (.ref 97), some (.int a), some (.int b), some (.int pr), some (.int (nI i))] [] (hS sw I J) 0 0 Q := by
  have hl := h.1
  intro m
  induction m with
  | zero =>
    intro i pr hi hp
    rw [show i = T.length by omega] at hp
    rw [← lpr_end hT hp] at hQ
    refine mOk.iload4 dX9_pairOf_6 ?_
    refine mOk.aload0n dX9_pairOf_8 rfl ?_
    refine mOk.getIv dX9_pairOf_9 fl_X9_62 (by first | assumption | rfl) h.2.1 ?_
    refine mOk.icge (tgt := 61) dX9_pairOf_12 (by decide) (fun c12 => ?_) (fun c12 => absurd ((nI_le' (by omega) (by omega)).mpr (by omega)) c12)
    refine mOk.iload3n dX9_pairOf_61 rfl ?_
    refine mOk.iret dX9_pairOf_62 rfl hQ
  | succ m ih =>
    intro i pr hi hp
    have hil : i < T.length := by omega
    have nxt : ∀ pr', lpr T a b (i + 1) pr' → mOk mX9_pairOf 0 0 0 54 [some (.ref 97), some (.int a), some (.int b), some (.int pr), some (.int (nI i))] [.int pr'] (hS sw I J) 0 0 Q := by
      intro pr' hp'
      refine mOk.istore3n dX9_pairOf_54 rfl (by decide) rfl ?_
      refine mOk.iinc4 dX9_pairOf_55 (mOk.inc1 rfl) (by decide) rfl ?_
      refine mOk.goto (tgt := 6) dX9_pairOf_58 (by decide) ?_
      exact ih (i + 1) pr' (by omega) hp'
    have no : ¬ (tK T (nI i) = 1 ∧ tF T (nI i) = a ∧ tS T (nI i) = b) → mOk mX9_pairOf 0 0 0 53 [some (.ref 97), some (.int a), some (.int b), some (.int pr), some (.int (nI i))] [] (hS sw I J) 0 0 Q := by
      intro z
      refine mOk.iload3n dX9_pairOf_53 rfl ?_
      refine nxt pr ?_
      rcases hp with ⟨h1, h2⟩ | ⟨j, hj, h3⟩
      · refine Or.inl ⟨h1, fun j hj => ?_⟩
        rcases Nat.lt_or_ge j i with w | w
        · exact h2 j w
        · rw [show j = i by omega]
          exact z
      · exact Or.inr ⟨j, by omega, h3⟩
    refine mOk.iload4 dX9_pairOf_6 ?_
    refine mOk.aload0n dX9_pairOf_8 rfl ?_
    refine mOk.getIv dX9_pairOf_9 fl_X9_62 (by first | assumption | rfl) h.2.1 ?_
    refine mOk.icge (tgt := 61) dX9_pairOf_12 (by decide) (fun c12 => absurd c12 (mt (nI_le' (by omega) (by omega)).mp (by omega))) (fun c12 => ?_)
    refine mOk.aload0n dX9_pairOf_15 rfl ?_
    refine mOk.getR dX9_pairOf_16 fl_X9_7 (by first | assumption | rfl) (by first | assumption | rfl) ?_
    refine mOk.iload4 dX9_pairOf_19 ?_
    refine mOk.ialdv dX9_pairOf_21 (by first | assumption | rfl) rfl (by omega) (by first | assumption | decide | omega) (h.K rfl hil) ?_
    refine mOk.iconst (x := 1) dX9_pairOf_22 (by decide) ?_
    refine mOk.icne (tgt := 53) dX9_pairOf_23 (by decide) (fun c23 => ?_) (fun c23 => ?_)
    · exact no (fun z => c23 z.1)
    · refine mOk.aload0n dX9_pairOf_26 rfl ?_
      refine mOk.getR dX9_pairOf_27 fl_X9_16 (by first | assumption | rfl) (by first | assumption | rfl) ?_
      refine mOk.iload4 dX9_pairOf_30 ?_
      refine mOk.ialdv dX9_pairOf_32 (by first | assumption | rfl) rfl (by omega) (by first | assumption | decide | omega) (h.F rfl hil) ?_
      refine mOk.iload1n dX9_pairOf_33 rfl ?_
      refine mOk.icne (tgt := 53) dX9_pairOf_34 (by decide) (fun c34 => ?_) (fun c34 => ?_)
      · exact no (fun z => c34 z.2.1)
      · refine mOk.aload0n dX9_pairOf_37 rfl ?_
        refine mOk.getR dX9_pairOf_38 fl_X9_19 (by first | assumption | rfl) (by first | assumption | rfl) ?_
        refine mOk.iload4 dX9_pairOf_41 ?_
        refine mOk.ialdv dX9_pairOf_43 (by first | assumption | rfl) rfl (by omega) (by first | assumption | decide | omega) (h.S rfl hil) ?_
        refine mOk.iload2n dX9_pairOf_44 rfl ?_
        refine mOk.icne (tgt := 53) dX9_pairOf_45 (by decide) (fun c45 => ?_) (fun c45 => ?_)
        · exact no (fun z => c45 z.2.2)
        · refine mOk.iload4 dX9_pairOf_48 ?_
          refine mOk.goto (tgt := 54) dX9_pairOf_50 (by decide) ?_
          exact nxt (nI i) (Or.inr ⟨i, by omega, ⟨c23, c34, c45⟩, rfl⟩)
theorem c_mpairOf (h : Md I T) (hT : TOk T) {a b : Int32} (hQ : Q (some (.int (pairC T a b))) (hS sw I J)) : mCl mX9_pairOf 0 0 0 [.ref 97, .int a, .int b] (hS sw I J) Q := by
  refine mCl.of (by decide) rfl (Nat.le_of_ble_eq_true rfl) ?_
  show mOk _ _ _ _ _ [some (.ref 97), some (.int a), some (.int b), none, none] _ _ _ _ _
  refine mOk.bipush (x := -9) dX9_pairOf_0 (by decide) ?_
  refine mOk.istore3n dX9_pairOf_2 rfl (by decide) rfl ?_
  refine mOk.iconst (x := nI 0) dX9_pairOf_3 (by decide) ?_
  refine mOk.istore4 dX9_pairOf_4 (by decide) rfl ?_
  exact l_mpairOf h hT hQ T.length 0 (-9) (Nat.zero_add _) (Or.inl ⟨rfl, fun j hj => absurd hj (Nat.not_lt_zero j)⟩)
/-- a code that comes -/
def Pm (I : Nat → Nat → Int32) (T : List CR) (q : CR) : Prop := Md I T ∧ T.length < 24 ∧ I 98 T.length = q.1 ∧ I 99 T.length = q.2.1 ∧ I 100 T.length = q.2.2.1 ∧ I 101 T.length = q.2.2.2.1 ∧ I 102 T.length = nI q.2.2.2.2.length ∧ q.2.2.2.2.length ≤ 4 ∧ ∀ k p, q.2.2.2.2[k]? = some p → I 103 (4 * T.length + k) = p
theorem Md.eq {I' : Nat → Nat → Int32} (h : Md I T) (h0 : I' 97 0 = I 97 0) (h1 : ∀ a j, 98 ≤ a → a ≤ 102 → j < T.length → I' a j = I a j) (h6 : ∀ j, j < 4 * T.length → I' 103 j = I 103 j) : Md I' T := by
  obtain ⟨a1, a2, a3⟩ := h
  refine ⟨a1, h0.trans a2, fun j q hq => ?_⟩
  have hj : j < T.length := (List.getElem?_eq_some_iff.mp hq).1
  obtain ⟨b1, b2, b3, b4, b5, b6, b7⟩ := a3 j q hq
  refine ⟨(h1 98 j (by omega) (by omega) hj).trans b1, (h1 99 j (by omega) (by omega) hj).trans b2, (h1 100 j (by omega) (by omega) hj).trans b3, (h1 101 j (by omega) (by omega) hj).trans b4, (h1 102 j (by omega) (by omega) hj).trans b5, b6, fun k p hk => (h6 _ ?_).trans (b7 k p hk)⟩
  have : k < q.2.2.2.2.length := (List.getElem?_eq_some_iff.mp hk).1
  omega
theorem c_comesPiece {q : CR} (hx : Pm I T q) (h4 : q.2.2.2.2.length < 4) {p : Int32} (hQ : ∀ I', Pm I' T (q.1, q.2.1, q.2.2.1, q.2.2.2.1, q.2.2.2.2 ++ [p]) → Of [] [102, 103] I I' → Q none (hS sw I' J)) : mCl mX9_comesPiece 0 0 0 [.ref 97, .int (nI T.length), .int p] (hS sw I J) Q := by
  obtain ⟨hc, hn, e1, e2, e3, e4, e5, e6, e7⟩ := hx
  refine mCl.of (by decide) rfl (Nat.le_of_ble_eq_true rfl) ?_
  show mOk _ _ _ _ _ [some (.ref 97), some (.int (nI T.length)), some (.int p)] _ _ _ _ _
  refine mOk.aload0n dX9_comesPiece_0 rfl ?_
  refine mOk.getR dX9_comesPiece_1 fl_X9_25 (by first | assumption | rfl) (by first | assumption | rfl) ?_
  refine mOk.iconst (x := nI 4) dX9_comesPiece_4 (by decide) ?_
  refine mOk.iload1n dX9_comesPiece_5 rfl ?_
  refine mOk.imul dX9_comesPiece_6 ?_
  refine mOk.top ((pk_mul _ _)) ?_
  refine mOk.aload0n dX9_comesPiece_7 rfl ?_
  refine mOk.getR dX9_comesPiece_8 fl_X9_22 (by first | assumption | rfl) (by first | assumption | rfl) ?_
  refine mOk.iload1n dX9_comesPiece_11 rfl ?_
  refine mOk.ialdv dX9_comesPiece_12 (by first | assumption | rfl) rfl (by omega) (by first | assumption | decide | omega) e5 ?_
  refine mOk.iadd dX9_comesPiece_13 ?_
  refine mOk.top ((nI_add _ _)) ?_
  refine mOk.iload2n dX9_comesPiece_14 rfl ?_
  refine mOk.iastt dX9_comesPiece_15 (by first | assumption | rfl) rfl (by omega) (by first | assumption | decide | omega) ?_
  have e5' : wI I 103 (4 * T.length + q.2.2.2.2.length) p 102 T.length = nI q.2.2.2.2.length := by rw [wI_c (by decide)]; exact e5
  refine mOk.aload0n dX9_comesPiece_16 rfl ?_
  refine mOk.getR dX9_comesPiece_17 fl_X9_22 (by first | assumption | rfl) (by first | assumption | rfl) ?_
  refine mOk.iload1n dX9_comesPiece_20 rfl ?_
  refine mOk.dup2 dX9_comesPiece_21 rfl rfl ?_
  refine mOk.ialdv dX9_comesPiece_22 (by first | assumption | rfl) rfl (by omega) (by first | assumption | decide | omega) e5' ?_
  refine mOk.iconst (x := nI 1) dX9_comesPiece_23 (by decide) ?_
  refine mOk.iadd dX9_comesPiece_24 ?_
  refine mOk.top ((nI_add _ _)) ?_
  refine mOk.iastt dX9_comesPiece_25 (by first | assumption | rfl) rfl (by omega) (by first | assumption | decide | omega) ?_
  refine mOk.vret dX9_comesPiece_26 rfl (by decide) ?_
  refine hQ _ ⟨hc.eq ?_ (fun a j h1 h2 h3 => ?_) (fun j hj => ?_), hn, ?_, ?_, ?_, ?_, ?_, ?_, ?_⟩ ((Of.a (by decide) (by decide)).tr (Of.a (by decide) (by decide)))
  · rw [wI_c (by decide), wI_c (by decide)]
  · rw [wI_o (by omega), wI_c (by omega)]
  · rw [wI_c (by decide), wI_j (by omega)]
  · rw [wI_c (by decide), wI_c (by decide)]; exact e1
  · rw [wI_c (by decide), wI_c (by decide)]; exact e2
  · rw [wI_c (by decide), wI_c (by decide)]; exact e3
  · rw [wI_c (by decide), wI_c (by decide)]; exact e4
  · rw [wI_s]; simp
  · simp; omega
  · intro k p' hk
    rw [wI_c (by decide)]
    rcases Nat.lt_or_ge k q.2.2.2.2.length with z | z
    · rw [wI_j (by omega)]
      have hk2 : (q.2.2.2.2 ++ [p])[k]? = some p' := hk
      rw [List.getElem?_append_left z] at hk2
      exact e7 k p' hk2
    · have hk2 : (q.2.2.2.2 ++ [p])[k]? = some p' := hk
      rw [List.getElem?_append_right z] at hk2
      have hz : k - q.2.2.2.2.length < 1 := (List.getElem?_eq_some_iff.mp hk2).1
      rw [show k = q.2.2.2.2.length by omega, wI_s]
      rw [show k - q.2.2.2.2.length = 0 by omega] at hk2
      simpa using hk2
theorem okR_is {kd cl a b : Int32} (hT : TOk T) (h : okR T (addR T kd cl a b)) : (kd = 0 ∧ a = -9 ∧ b = -9) ∨ ((kd = 1 ∨ kd = 2) ∧ okC T a ∧ okC T b ∧ tP T b = [b]) ∨ (kd = 3 ∧ okC T a ∧ b = -9) := by
  rcases h with ⟨c, hc, e⟩ | ⟨kd', a', b', hkd, ha, hb, hmf, hms, hpr, e⟩ | ⟨a', ha, e⟩
  · obtain ⟨e1, e2, e3, e4, -⟩ := (by simpa [addR] using e : kd = 0 ∧ cl = nI c ∧ a = -9 ∧ b = -9 ∧ _)
    exact Or.inl ⟨e1, e3, e4⟩
  · obtain ⟨e1, e2, e3, e4, -⟩ := (by simpa [addR] using e : kd = kd' ∧ cl = 0 ∧ a = a' ∧ b = b' ∧ _)
    subst e1 e3 e4
    exact Or.inr (Or.inl ⟨hkd, ha, hb, (hT.all b hb).2.2.2.2.2.1 hms.1⟩)
  · obtain ⟨e1, e2, e3, e4, -⟩ := (by simpa [addR] using e : kd = 3 ∧ cl = tC T a' ∧ a = a' ∧ b = -9 ∧ _)
    subst e1 e3
    exact Or.inr (Or.inr ⟨rfl, ha, e4⟩)
end MODEL
