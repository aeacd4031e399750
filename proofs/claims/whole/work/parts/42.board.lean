/-! ===== Board, Images, History ===== -/
def bS (bb : Nat) : List Nat := [bb + 2, bb + 3, bb + 4, bb + 5, bb + 6, bb + 7, bb + 8, bb + 9, bb + 10, bb + 11]
def Bd (I : Nat → Nat → Int32) (bb : Nat) (tx : Nat → List Int32) (pp : List Nat) : Prop := (bb = 22 ∨ bb = 37 ∨ bb = 49) ∧ (∀ t, t < 4 → Rw I (bb + 4 + 2 * t) (bb + 5 + 2 * t) 16 (tx t)) ∧ Rw I (bb + 2) (bb + 3) 4 (pp.map nI)
theorem bdK {bb : Nat} (h : bb = 22 ∨ bb = 37 ∨ bb = 49) : KK[bb]? = some (0, 2) ∧ KK[bb + 1]? = some (14, 4) ∧ KK[bb + 2]? = some (5, 2) := by
  rcases h with rfl | rfl | rfl <;> exact ⟨rfl, rfl, rfl⟩
theorem bdP {bb : Nat} (h : bb = 22 ∨ bb = 37 ∨ bb = 49) (sw : Bool) : PQ sw bb 0 = some (bb + 1) ∧ PQ sw bb 1 = some (bb + 2) := by
  rcases h with rfl | rfl | rfl <;> exact ⟨rfl, rfl⟩
theorem bdT {bb t : Nat} (h : bb = 22 ∨ bb = 37 ∨ bb = 49) (ht : t < 4) (sw : Bool) : PQ sw (bb + 1) t = some (bb + 4 + 2 * t) ∧ KK[bb + 4 + 2 * t]? = some (5, 2) := by
  rcases h with rfl | rfl | rfl <;> rcases (show t = 0 ∨ t = 1 ∨ t = 2 ∨ t = 3 by omega) with rfl | rfl | rfl | rfl <;> exact ⟨rfl, rfl⟩
theorem Bd.off {S : List Nat} {I I' : Nat → Nat → Int32} {bb : Nat} {tx : Nat → List Int32} {pp : List Nat} (h : Bd I bb tx pp) (ho : Off S I I') (hs : ∀ a ∈ bS bb, a ∉ S) : Bd I' bb tx pp := by
  refine ⟨h.1, fun t ht => (h.2.1 t ht).off ho (hs _ ?_) (hs _ ?_), h.2.2.off ho (hs _ (by simp [bS])) (hs _ (by simp [bS]))⟩
  · rcases (show t = 0 ∨ t = 1 ∨ t = 2 ∨ t = 3 by omega) with rfl | rfl | rfl | rfl <;> simp [bS]
  · rcases (show t = 0 ∨ t = 1 ∨ t = 2 ∨ t = 3 by omega) with rfl | rfl | rfl | rfl <;> simp [bS]
def tot (tx : Nat → List Int32) : Nat → Nat
  | 0 => 0
  | n + 1 => tot tx n + (tx n).length
def mix (t : Nat) (a b : Nat → List Int32) : Nat → List Int32 := fun i => if i < t then a i else b i
theorem mix_lt {t i : Nat} {a b : Nat → List Int32} (h : i < t) : mix t a b i = a i := if_pos h
theorem mix_ge {t i : Nat} {a b : Nat → List Int32} (h : ¬ i < t) : mix t a b i = b i := if_neg h
theorem mix_0 {a b : Nat → List Int32} : mix 0 a b = b := by funext i; exact mix_ge (Nat.not_lt_zero i)
section BOARD
variable {sw : Bool} {I : Nat → Nat → Int32} {J : Nat → Nat → Int64} {bb : Nat} {tx : Nat → List Int32} {pp : List Nat} {Q : Option Value → mi_H → Prop}
theorem c_text_in (hb : bb = 22 ∨ bb = 37 ∨ bb = 49) {t : Nat} (ht : t < 4) (hQ : Q (some (.ref (bb + 4 + 2 * t))) (hS sw I J)) : mCl mX0_text 0 0 0 [.ref bb, .int (nI t)] (hS sw I J) Q := by
  obtain ⟨k0, k1, k2⟩ := bdK hb
  obtain ⟨p0, p1⟩ := bdP hb sw
  refine mCl.of (by decide) rfl (Nat.le_of_ble_eq_true rfl) ?_
  show mOk _ _ _ _ _ [some (.ref bb), some (.int (nI t))] _ _ _ _ _
  refine mOk.iload1n dX0_text_0 rfl ?_
  refine mOk.iflt (tgt := 18) dX0_text_1 (by decide) (fun c1 => absurd c1 (nI_neg' (by omega))) (fun c1 => ?_)
  refine mOk.iload1n dX0_text_4 rfl ?_
  refine mOk.iconst (x := nI 4) dX0_text_5 (by decide) ?_
  refine mOk.icge (tgt := 18) dX0_text_6 (by decide) (fun c6 => absurd c6 (mt (nI_le' (by omega) (by omega)).mp (by omega))) (fun c6 => ?_)
  refine mOk.aload0n dX0_text_9 rfl ?_
  refine mOk.getR dX0_text_10 fl_X0_11 (by first | assumption | rfl) (by first | assumption | rfl) ?_
  refine mOk.iload1n dX0_text_13 rfl ?_
  refine mOk.aald dX0_text_14 (by first | assumption | rfl) (by decide) rfl (by omega) (by decide) (bdT hb ht sw).1 ?_
  refine mOk.goto (tgt := 19) dX0_text_15 (by decide) ?_
  refine mOk.aret dX0_text_19 rfl hQ
theorem c_text_out (hb : bb = 22 ∨ bb = 37 ∨ bb = 49) {t : Int32} (ht : t < 0 ∨ nI 4 ≤ t) (hQ : Q (some .null) (hS sw I J)) : mCl mX0_text 0 0 0 [.ref bb, .int t] (hS sw I J) Q := by
  obtain ⟨k0, k1, k2⟩ := bdK hb
  refine mCl.of (by decide) rfl (Nat.le_of_ble_eq_true rfl) ?_
  show mOk _ _ _ _ _ [some (.ref bb), some (.int t)] _ _ _ _ _
  refine mOk.iload1n dX0_text_0 rfl ?_
  refine mOk.iflt (tgt := 18) dX0_text_1 (by decide) (fun c1 => ?_) (fun c1 => ?_)
  · refine mOk.anull dX0_text_18 ?_
    refine mOk.aretN dX0_text_19 rfl hQ
  refine mOk.iload1n dX0_text_4 rfl ?_
  refine mOk.iconst (x := nI 4) dX0_text_5 (by decide) ?_
  refine mOk.icge (tgt := 18) dX0_text_6 (by decide) (fun c6 => ?_) (fun c6 => ?_)
  · refine mOk.anull dX0_text_18 ?_
    refine mOk.aretN dX0_text_19 rfl hQ
  · exact absurd ht (fun z => z.elim c1 c6)
theorem c_pipe (hb : bb = 22 ∨ bb = 37 ∨ bb = 49) (hQ : Q (some (.ref (bb + 2))) (hS sw I J)) : mCl mX0_pipe 0 0 0 [.ref bb] (hS sw I J) Q := by
  obtain ⟨k0, k1, k2⟩ := bdK hb
  obtain ⟨p0, p1⟩ := bdP hb sw
  refine mCl.of (by decide) rfl (Nat.le_of_ble_eq_true rfl) ?_
  show mOk _ _ _ _ _ [some (.ref bb)] _ _ _ _ _
  refine mOk.aload0n dX0_pipe_0 rfl ?_
  refine mOk.getR dX0_pipe_1 fl_X0_20 (by first | assumption | rfl) (by first | assumption | rfl) ?_
  refine mOk.aret dX0_pipe_4 rfl hQ
theorem l_total (h : Bd I bb tx pp) (hQ : Q (some (.int (nI (tot tx 4)))) (hS sw I J)) : ∀ (m t : Nat), t + m = 4 → mOk mX0_total 1 0 0 4 [some (.ref bb), some (.int (nI (tot tx t))), some (.int (nI t))] [] (hS sw I J) 0 0 Q := by
  obtain ⟨k0, k1, k2⟩ := bdK h.1
  obtain ⟨p0, p1⟩ := bdP h.1 sw
  intro m
  induction m with
  | zero =>
    intro t ht
    refine mOk.iload2n dX0_total_4 rfl ?_
    refine mOk.iconst (x := nI 4) dX0_total_5 (by decide) ?_
    refine mOk.icge (tgt := 27) dX0_total_6 (by decide) (fun c6 => ?_) (fun c6 => absurd ((nI_le' (by omega) (by omega)).mpr (by omega)) c6)
    refine mOk.iload1n dX0_total_27 rfl ?_
    refine mOk.iret dX0_total_28 rfl ?_
    rw [show t = 4 by omega]
    exact hQ
  | succ m ih =>
    intro t ht
    obtain ⟨q1, q2⟩ := bdT h.1 (show t < 4 by omega) sw
    refine mOk.iload2n dX0_total_4 rfl ?_
    refine mOk.iconst (x := nI 4) dX0_total_5 (by decide) ?_
    refine mOk.icge (tgt := 27) dX0_total_6 (by decide) (fun c6 => absurd c6 (mt (nI_le' (by omega) (by omega)).mp (by omega))) (fun c6 => ?_)
    refine mOk.iload1n dX0_total_9 rfl ?_
    refine mOk.aload0n dX0_total_10 rfl ?_
    refine mOk.getR dX0_total_11 fl_X0_11 (by first | assumption | rfl) (by first | assumption | rfl) ?_
    refine mOk.iload2n dX0_total_14 rfl ?_
    refine mOk.aald dX0_total_15 (by first | assumption | rfl) (by decide) rfl (by omega) (by decide) (by first | assumption | rfl) ?_
    refine mOk.callV0 (M' := mX5_length) dX0_total_16 ml_X0_24 ke_X5_length (by first | assumption | rfl) (by decide) (by decide) (by simp [Value.category]) (c_length (h.2.1 t (by omega)) ?_)
    refine mOk.iadd dX0_total_19 ?_
    refine mOk.top (nI_add _ _) ?_
    refine mOk.istore1n dX0_total_20 rfl (by decide) rfl ?_
    refine mOk.iinc2 dX0_total_21 (mOk.inc1 rfl) (by decide) rfl ?_
    refine mOk.goto (tgt := 4) dX0_total_24 (by decide) ?_
    exact ih (t + 1) (by omega)
theorem c_total (h : Bd I bb tx pp) (hQ : Q (some (.int (nI (tot tx 4)))) (hS sw I J)) : mCl mX0_total 1 0 0 [.ref bb] (hS sw I J) Q := by
  refine mCl.of (by decide) rfl (Nat.le_of_ble_eq_true rfl) ?_
  show mOk _ _ _ _ _ [some (.ref bb), none, none] _ _ _ _ _
  refine mOk.iconst (x := nI 0) dX0_total_0 (by decide) ?_
  refine mOk.istore1n dX0_total_1 rfl (by decide) rfl ?_
  refine mOk.iconst (x := nI 0) dX0_total_2 (by decide) ?_
  refine mOk.istore2n dX0_total_3 rfl (by decide) rfl ?_
  exact l_total h hQ 4 0 rfl
theorem l_bempty {I0 : Nat → Nat → Int32} (hQ : ∀ I', Bd I' bb (fun _ => []) [] → Off (bS bb) I0 I' → Q none (hS sw I' J)) : ∀ (m t : Nat) (I : Nat → Nat → Int32), t + m = 4 → Bd I bb (mix t (fun _ => []) tx) pp → Off (bS bb) I0 I → mOk mX0_empty 1 0 0 2 [some (.ref bb), some (.int (nI t))] [] (hS sw I J) 0 0 Q := by
  intro m
  induction m with
  | zero =>
    intro t I ht h ho
    obtain ⟨k0, k1, k2⟩ := bdK h.1
    obtain ⟨p0, p1⟩ := bdP h.1 sw
    refine mOk.iload1n dX0_empty_2 rfl ?_
    refine mOk.iconst (x := nI 4) dX0_empty_3 (by decide) ?_
    refine mOk.icge (tgt := 22) dX0_empty_4 (by decide) (fun c4 => ?_) (fun c4 => absurd ((nI_le' (by omega) (by omega)).mpr (by omega)) c4)
    refine mOk.aload0n dX0_empty_22 rfl ?_
    refine mOk.getR dX0_empty_23 fl_X0_20 (by first | assumption | rfl) (by first | assumption | rfl) ?_
    refine mOk.callV0 (M' := mX5_empty) dX0_empty_26 ml_X0_28 ke_X5_empty (by first | assumption | rfl) (by decide) (by decide) (by simp [Value.category]) (c_rempty h.2.2 ?_)
    intro I' hp ho'
    refine mOk.vret dX0_empty_29 rfl (by decide) ?_
    refine hQ I' ⟨h.1, fun i hi => ?_, hp⟩ (ho.tr (ho'.up (by intro a ha; simp [bS] at ha ⊢; omega)))
    have := h.2.1 i hi
    rw [mix_lt (by omega)] at this
    exact this.off ho' (by simp; omega) (by simp; omega)
  | succ m ih =>
    intro t I ht h ho
    obtain ⟨k0, k1, k2⟩ := bdK h.1
    obtain ⟨p0, p1⟩ := bdP h.1 sw
    obtain ⟨q1, q2⟩ := bdT h.1 (show t < 4 by omega) sw
    refine mOk.iload1n dX0_empty_2 rfl ?_
    refine mOk.iconst (x := nI 4) dX0_empty_3 (by decide) ?_
    refine mOk.icge (tgt := 22) dX0_empty_4 (by decide) (fun c4 => absurd c4 (mt (nI_le' (by omega) (by omega)).mp (by omega))) (fun c4 => ?_)
    refine mOk.aload0n dX0_empty_7 rfl ?_
    refine mOk.getR dX0_empty_8 fl_X0_11 (by first | assumption | rfl) (by first | assumption | rfl) ?_
    refine mOk.iload1n dX0_empty_11 rfl ?_
    refine mOk.aald dX0_empty_12 (by first | assumption | rfl) (by decide) rfl (by omega) (by decide) (by first | assumption | rfl) ?_
    refine mOk.callV0 (M' := mX5_empty) dX0_empty_13 ml_X0_28 ke_X5_empty (by first | assumption | rfl) (by decide) (by decide) (by simp [Value.category]) (c_rempty (h.2.1 t (by omega)) ?_)
    intro I' hp ho'
    refine mOk.iinc1 dX0_empty_16 (mOk.inc1 rfl) (by decide) rfl ?_
    refine mOk.goto (tgt := 2) dX0_empty_19 (by decide) ?_
    refine ih (t + 1) I' (by omega) ⟨h.1, fun i hi => ?_, h.2.2.off ho' (by simp; omega) (by simp; omega)⟩ (ho.tr (ho'.up (by intro a ha; simp [bS] at ha ⊢; omega)))
    by_cases e : i = t
    · subst e
      rw [mix_lt (by omega)]
      exact hp
    · have := (h.2.1 i hi).off ho' (by simp; omega) (by simp; omega)
      by_cases z : i < t
      · rw [mix_lt z] at this
        rw [mix_lt (by omega)]
        exact this
      · rw [mix_ge z] at this
        rw [mix_ge (by omega)]
        exact this
theorem c_bempty (h : Bd I bb tx pp) (hQ : ∀ I', Bd I' bb (fun _ => []) [] → Off (bS bb) I I' → Q none (hS sw I' J)) : mCl mX0_empty 1 0 0 [.ref bb] (hS sw I J) Q := by
  refine mCl.of (by decide) rfl (Nat.le_of_ble_eq_true rfl) ?_
  show mOk _ _ _ _ _ [some (.ref bb), none] _ _ _ _ _
  refine mOk.iconst (x := nI 0) dX0_empty_0 (by decide) ?_
  refine mOk.istore1n dX0_empty_1 rfl (by decide) rfl ?_
  exact l_bempty (tx := tx) hQ 4 0 I rfl (by rw [mix_0]; exact h) Off.rf
theorem l_bbecome {I0 : Nat → Nat → Int32} {bo : Nat} {ty : Nat → List Int32} {pq : List Nat} (hne : bb ≠ bo) (hQ : ∀ I', Bd I' bb ty pq → Off (bS bb) I0 I' → Q none (hS sw I' J)) : ∀ (m t : Nat) (I : Nat → Nat → Int32), t + m = 4 → Bd I bo ty pq → Bd I bb (mix t ty tx) pp → Off (bS bb) I0 I → mOk mX0_become 4 0 0 2 [some (.ref bb), some (.ref bo), some (.int (nI t))] [] (hS sw I J) 0 0 Q := by
  intro m
  induction m with
  | zero =>
    intro t I ht hy h ho
    obtain ⟨k0, k1, k2⟩ := bdK h.1
    obtain ⟨p0, p1⟩ := bdP h.1 sw
    obtain ⟨kk0, kk1, kk2⟩ := bdK hy.1
    obtain ⟨pp0, pp1⟩ := bdP hy.1 sw
    have h1 := h.1
    have h2 := hy.1
    refine mOk.iload2n dX0_become_2 rfl ?_
    refine mOk.iconst (x := nI 4) dX0_become_3 (by decide) ?_
    refine mOk.icge (tgt := 28) dX0_become_4 (by decide) (fun c4 => ?_) (fun c4 => absurd ((nI_le' (by omega) (by omega)).mpr (by omega)) c4)
    refine mOk.aload0n dX0_become_28 rfl ?_
    refine mOk.getR dX0_become_29 fl_X0_20 (by first | assumption | rfl) (by first | assumption | rfl) ?_
    refine mOk.aload1n dX0_become_32 rfl ?_
    refine mOk.getR dX0_become_33 fl_X0_20 (by first | assumption | rfl) (by first | assumption | rfl) ?_
    refine mOk.callV1 (M' := mX5_become) dX0_become_36 ml_X0_31 ke_X5_become (by first | assumption | rfl) (by decide) (by decide) (by simp [Value.category]) (c_become h.2.2 hy.2.2 hy.2.2.2.1 (by omega) (by omega) (by omega) (by omega) ?_)
    intro I' hp ho'
    refine mOk.vret dX0_become_39 rfl (by decide) ?_
    refine hQ I' ⟨h.1, fun i hi => ?_, hp⟩ (ho.tr (ho'.up (by intro a ha; simp [bS] at ha ⊢; omega)))
    have := h.2.1 i hi
    rw [mix_lt (by omega)] at this
    exact this.off ho' (by simp; omega) (by simp; omega)
  | succ m ih =>
    intro t I ht hy h ho
    obtain ⟨k0, k1, k2⟩ := bdK h.1
    obtain ⟨p0, p1⟩ := bdP h.1 sw
    obtain ⟨q1, q2⟩ := bdT h.1 (show t < 4 by omega) sw
    obtain ⟨kk0, kk1, kk2⟩ := bdK hy.1
    obtain ⟨pp0, pp1⟩ := bdP hy.1 sw
    obtain ⟨qq1, qq2⟩ := bdT hy.1 (show t < 4 by omega) sw
    have h1 := h.1
    have h2 := hy.1
    refine mOk.iload2n dX0_become_2 rfl ?_
    refine mOk.iconst (x := nI 4) dX0_become_3 (by decide) ?_
    refine mOk.icge (tgt := 28) dX0_become_4 (by decide) (fun c4 => absurd c4 (mt (nI_le' (by omega) (by omega)).mp (by omega))) (fun c4 => ?_)
    refine mOk.aload0n dX0_become_7 rfl ?_
    refine mOk.getR dX0_become_8 fl_X0_11 (by first | assumption | rfl) (by first | assumption | rfl) ?_
    refine mOk.iload2n dX0_become_11 rfl ?_
    refine mOk.aald dX0_become_12 (by first | assumption | rfl) (by decide) rfl (by omega) (by decide) (by first | assumption | rfl) ?_
    refine mOk.aload1n dX0_become_13 rfl ?_
    refine mOk.getR dX0_become_14 fl_X0_11 (by first | assumption | rfl) (by first | assumption | rfl) ?_
    refine mOk.iload2n dX0_become_17 rfl ?_
    refine mOk.aald dX0_become_18 (by first | assumption | rfl) (by decide) rfl (by omega) (by decide) (by first | assumption | rfl) ?_
    refine mOk.callV1 (M' := mX5_become) dX0_become_19 ml_X0_31 ke_X5_become (by first | assumption | rfl) (by decide) (by decide) (by simp [Value.category]) (c_become (h.2.1 t (by omega)) (hy.2.1 t (by omega)) (hy.2.1 t (by omega)).2.1 (by omega) (by omega) (by omega) (by omega) ?_)
    intro I' hp ho'
    refine mOk.iinc2 dX0_become_22 (mOk.inc1 rfl) (by decide) rfl ?_
    refine mOk.goto (tgt := 2) dX0_become_25 (by decide) ?_
    refine ih (t + 1) I' (by omega) (hy.off ho' (by intro a ha z; simp [bS] at ha z; omega)) ⟨h.1, fun i hi => ?_, h.2.2.off ho' (by simp; omega) (by simp; omega)⟩ (ho.tr (ho'.up (by intro a ha; simp [bS] at ha ⊢; omega)))
    by_cases e : i = t
    · subst e
      rw [mix_lt (by omega)]
      exact hp
    · have := (h.2.1 i hi).off ho' (by simp; omega) (by simp; omega)
      by_cases z : i < t
      · rw [mix_lt z] at this
        rw [mix_lt (by omega)]
        exact this
      · rw [mix_ge z] at this
        rw [mix_ge (by omega)]
        exact this
theorem c_bbecome {bo : Nat} {ty : Nat → List Int32} {pq : List Nat} (h : Bd I bb tx pp) (hy : Bd I bo ty pq) (hne : bb ≠ bo) (hQ : ∀ I', Bd I' bb ty pq → Off (bS bb) I I' → Q none (hS sw I' J)) : mCl mX0_become 4 0 0 [.ref bb, .ref bo] (hS sw I J) Q := by
  refine mCl.of (by decide) rfl (Nat.le_of_ble_eq_true rfl) ?_
  show mOk _ _ _ _ _ [some (.ref bb), some (.ref bo), none] _ _ _ _ _
  refine mOk.iconst (x := nI 0) dX0_become_0 (by decide) ?_
  refine mOk.istore2n dX0_become_1 rfl (by decide) rfl ?_
  exact l_bbecome (tx := tx) (pp := pp) hne hQ 4 0 I rfl hy (by rw [mix_0]; exact h) Off.rf
/-! images -/
theorem imK {i : Nat} (h : i < 2) (sw : Bool) : PQ sw 35 i = some (37 + 12 * i) ∧ KK[37 + 12 * i]? = some (0, 2) := by
  rcases (show i = 0 ∨ i = 1 by omega) with rfl | rfl <;> exact ⟨rfl, rfl⟩
theorem c_image_in {i : Nat} (hi : i < 2) (hQ : Q (some (.ref (37 + 12 * i))) (hS sw I J)) : mCl mX3_image 0 0 0 [.ref 34, .int (nI i)] (hS sw I J) Q := by
  obtain ⟨q1, q2⟩ := imK hi sw
  refine mCl.of (by decide) rfl (Nat.le_of_ble_eq_true rfl) ?_
  show mOk _ _ _ _ _ [some (.ref 34), some (.int (nI i))] _ _ _ _ _
  refine mOk.iload1n dX3_image_0 rfl ?_
  refine mOk.iflt (tgt := 18) dX3_image_1 (by decide) (fun c1 => absurd c1 (nI_neg' (by omega))) (fun c1 => ?_)
  refine mOk.iload1n dX3_image_4 rfl ?_
  refine mOk.iconst (x := nI 2) dX3_image_5 (by decide) ?_
  refine mOk.icge (tgt := 18) dX3_image_6 (by decide) (fun c6 => absurd c6 (mt (nI_le' (by omega) (by omega)).mp (by omega))) (fun c6 => ?_)
  refine mOk.aload0n dX3_image_9 rfl ?_
  refine mOk.getR dX3_image_10 fl_X3_11 (by first | assumption | rfl) (by first | assumption | rfl) ?_
  refine mOk.iload1n dX3_image_13 rfl ?_
  refine mOk.aald dX3_image_14 (by first | assumption | rfl) (by decide) rfl (by omega) (by decide) q1 ?_
  refine mOk.goto (tgt := 19) dX3_image_15 (by decide) ?_
  refine mOk.aret dX3_image_19 rfl hQ
theorem c_image_out {i : Int32} (hi : i < 0 ∨ nI 2 ≤ i) (hQ : Q (some .null) (hS sw I J)) : mCl mX3_image 0 0 0 [.ref 34, .int i] (hS sw I J) Q := by
  refine mCl.of (by decide) rfl (Nat.le_of_ble_eq_true rfl) ?_
  show mOk _ _ _ _ _ [some (.ref 34), some (.int i)] _ _ _ _ _
  refine mOk.iload1n dX3_image_0 rfl ?_
  refine mOk.iflt (tgt := 18) dX3_image_1 (by decide) (fun c1 => ?_) (fun c1 => ?_)
  · refine mOk.anull dX3_image_18 ?_
    refine mOk.aretN dX3_image_19 rfl hQ
  refine mOk.iload1n dX3_image_4 rfl ?_
  refine mOk.iconst (x := nI 2) dX3_image_5 (by decide) ?_
  refine mOk.icge (tgt := 18) dX3_image_6 (by decide) (fun c6 => ?_) (fun c6 => ?_)
  · refine mOk.anull dX3_image_18 ?_
    refine mOk.aretN dX3_image_19 rfl hQ
  · exact absurd hi (fun z => z.elim c1 c6)
theorem c_isKept {i : Nat} (hi : i < 2) {b : Bool} (hk : I 36 i = if b then 1 else 0) (hQ : Q (some (.int (if b then 1 else 0))) (hS sw I J)) : mCl mX3_isKept 0 0 0 [.ref 34, .int (nI i)] (hS sw I J) Q := by
  refine mCl.of (by decide) rfl (Nat.le_of_ble_eq_true rfl) ?_
  show mOk _ _ _ _ _ [some (.ref 34), some (.int (nI i))] _ _ _ _ _
  refine mOk.iload1n dX3_isKept_0 rfl ?_
  refine mOk.iflt (tgt := 22) dX3_isKept_1 (by decide) (fun c1 => absurd c1 (nI_neg' (by omega))) (fun c1 => ?_)
  refine mOk.iload1n dX3_isKept_4 rfl ?_
  refine mOk.iconst (x := nI 2) dX3_isKept_5 (by decide) ?_
  refine mOk.icge (tgt := 22) dX3_isKept_6 (by decide) (fun c6 => absurd c6 (mt (nI_le' (by omega) (by omega)).mp (by omega))) (fun c6 => ?_)
  refine mOk.aload0n dX3_isKept_9 rfl ?_
  refine mOk.getR dX3_isKept_10 fl_X3_17 (by first | assumption | rfl) (by first | assumption | rfl) ?_
  refine mOk.iload1n dX3_isKept_13 rfl ?_
  refine mOk.zaldv dX3_isKept_14 (by first | assumption | rfl) rfl (by omega) (by first | assumption | decide | omega) hk ?_
  cases b with
  | false =>
    refine mOk.ifeq (tgt := 22) dX3_isKept_15 (by decide) (fun c15 => ?_) (fun c15 => absurd (rfl) c15)
    refine mOk.iconst (x := 0) dX3_isKept_22 (by decide) ?_
    refine mOk.zret dX3_isKept_23 rfl (by decide) hQ
  | true =>
    refine mOk.ifeq (tgt := 22) dX3_isKept_15 (by decide) (fun c15 => absurd c15 ((by decide))) (fun c15 => ?_)
    refine mOk.iconst (x := 1) dX3_isKept_18 (by decide) ?_
    refine mOk.goto (tgt := 23) dX3_isKept_19 (by decide) ?_
    refine mOk.zret dX3_isKept_23 rfl (by decide) hQ
theorem c_take_out {i : Int32} {bb : Nat} (hi : i < 0 ∨ nI 2 ≤ i) (hQ : Q (some (.int 0)) (hS sw I J)) : mCl mX3_take 5 0 0 [.ref 34, .int i, .ref bb] (hS sw I J) Q := by
  refine mCl.of (by decide) rfl (Nat.le_of_ble_eq_true rfl) ?_
  show mOk _ _ _ _ _ [some (.ref 34), some (.int i), some (.ref bb)] _ _ _ _ _
  refine mOk.iload1n dX3_take_0 rfl ?_
  refine mOk.iflt (tgt := 9) dX3_take_1 (by decide) (fun c1 => ?_) (fun c1 => ?_)
  · refine mOk.iconst (x := 0) dX3_take_9 (by decide) ?_
    refine mOk.zret dX3_take_10 rfl (by decide) hQ
  refine mOk.iload1n dX3_take_4 rfl ?_
  refine mOk.iconst (x := nI 2) dX3_take_5 (by decide) ?_
  refine mOk.iclt (tgt := 11) dX3_take_6 (by decide) (fun c6 => ?_) (fun c6 => ?_)
  · exact absurd hi (fun z => z.elim c1 (fun w => Int32_nlt w c6))
  · refine mOk.iconst (x := 0) dX3_take_9 (by decide) ?_
    refine mOk.zret dX3_take_10 rfl (by decide) hQ
theorem c_take_in {i : Nat} (hi : i < 2) {ty : Nat → List Int32} {pq : List Nat} (h : Bd I 22 tx pp) (hy : Bd I (37 + 12 * i) ty pq) (hQ : ∀ I', Bd I' (37 + 12 * i) tx pp → I' 36 i = 1 → (∀ j, j ≠ i → I' 36 j = I 36 j) → Off (36 :: bS (37 + 12 * i)) I I' → Q (some (.int 1)) (hS sw I' J)) : mCl mX3_take 5 0 0 [.ref 34, .int (nI i), .ref 22] (hS sw I J) Q := by
  obtain ⟨q1, q2⟩ := imK hi sw
  refine mCl.of (by decide) rfl (Nat.le_of_ble_eq_true rfl) ?_
  show mOk _ _ _ _ _ [some (.ref 34), some (.int (nI i)), some (.ref 22)] _ _ _ _ _
  refine mOk.iload1n dX3_take_0 rfl ?_
  refine mOk.iflt (tgt := 9) dX3_take_1 (by decide) (fun c1 => absurd c1 (nI_neg' (by omega))) (fun c1 => ?_)
  refine mOk.iload1n dX3_take_4 rfl ?_
  refine mOk.iconst (x := nI 2) dX3_take_5 (by decide) ?_
  refine mOk.iclt (tgt := 11) dX3_take_6 (by decide) (fun c6 => ?_) (fun c6 => absurd ((nI_lt' (by omega) (by omega)).mpr hi) c6)
  refine mOk.aload0n dX3_take_11 rfl ?_
  refine mOk.getR dX3_take_12 fl_X3_11 (by first | assumption | rfl) (by first | assumption | rfl) ?_
  refine mOk.iload1n dX3_take_15 rfl ?_
  refine mOk.aald dX3_take_16 (by first | assumption | rfl) (by decide) rfl (by omega) (by decide) q1 ?_
  refine mOk.aload2n dX3_take_17 rfl ?_
  refine mOk.callV1 (M' := mX0_become) dX3_take_18 ml_X3_22 ke_X0_become (by first | assumption | rfl) (by decide) (by decide) (by simp [Value.category]) (c_bbecome hy h (by omega) ?_)
  intro I' hb ho
  refine mOk.aload0n dX3_take_21 rfl ?_
  refine mOk.getR dX3_take_22 fl_X3_17 (by first | assumption | rfl) (by first | assumption | rfl) ?_
  refine mOk.iload1n dX3_take_25 rfl ?_
  refine mOk.iconst (x := 1) dX3_take_26 (by decide) ?_
  refine mOk.zastt dX3_take_27 (by first | assumption | rfl) rfl (by omega) (by decide) (by decide) ?_
  refine mOk.iconst (x := 1) dX3_take_28 (by decide) ?_
  refine mOk.zret dX3_take_29 rfl (by decide) ?_
  have h36 : 36 ∉ bS (37 + 12 * i) := by simp [bS]; omega
  refine hQ _ (hb.off (S := [36]) (Off.w (by simp)) (by intro a ha z; simp [bS] at ha z; omega)) (wI_s _ _ _ _) (fun j hj => ?_) ((ho.up (fun a ha => List.mem_cons_of_mem _ ha)).tr (Off.w (by simp)))
  rw [wI_j hj, ho 36 h36]
theorem c_drop (hQ : ∀ I', I' 36 0 = 0 → I' 36 1 = 0 → Off [36] I I' → Q none (hS sw I' J)) : mCl mX3_drop 0 0 0 [.ref 34] (hS sw I J) Q := by
  refine mCl.of (by decide) rfl (Nat.le_of_ble_eq_true rfl) ?_
  show mOk _ _ _ _ _ [some (.ref 34), none] _ _ _ _ _
  refine mOk.iconst (x := nI 0) dX3_drop_0 (by decide) ?_
  refine mOk.istore1n dX3_drop_1 rfl (by decide) rfl ?_
  refine mOk.iload1n dX3_drop_2 rfl ?_
  refine mOk.iconst (x := nI 2) dX3_drop_3 (by decide) ?_
  refine mOk.icge (tgt := 20) dX3_drop_4 (by decide) (fun c4 => absurd c4 ((by decide))) (fun c4 => ?_)
  refine mOk.aload0n dX3_drop_7 rfl ?_
  refine mOk.getR dX3_drop_8 fl_X3_17 (by first | assumption | rfl) (by first | assumption | rfl) ?_
  refine mOk.iload1n dX3_drop_11 rfl ?_
  refine mOk.iconst (x := 0) dX3_drop_12 (by decide) ?_
  refine mOk.zastt dX3_drop_13 (by first | assumption | rfl) rfl (by omega) (by decide) (by decide) ?_
  refine mOk.iinc1 dX3_drop_14 (mOk.inc1 rfl) (by decide) rfl ?_
  refine mOk.goto (tgt := 2) dX3_drop_17 (by decide) ?_
  refine mOk.iload1n dX3_drop_2 rfl ?_
  refine mOk.iconst (x := nI 2) dX3_drop_3 (by decide) ?_
  refine mOk.icge (tgt := 20) dX3_drop_4 (by decide) (fun c4 => absurd c4 ((by decide))) (fun c4 => ?_)
  refine mOk.aload0n dX3_drop_7 rfl ?_
  refine mOk.getR dX3_drop_8 fl_X3_17 (by first | assumption | rfl) (by first | assumption | rfl) ?_
  refine mOk.iload1n dX3_drop_11 rfl ?_
  refine mOk.iconst (x := 0) dX3_drop_12 (by decide) ?_
  refine mOk.zastt dX3_drop_13 (by first | assumption | rfl) rfl (by omega) (by decide) (by decide) ?_
  refine mOk.iinc1 dX3_drop_14 (mOk.inc1 rfl) (by decide) rfl ?_
  refine mOk.goto (tgt := 2) dX3_drop_17 (by decide) ?_
  refine mOk.iload1n dX3_drop_2 rfl ?_
  refine mOk.iconst (x := nI 2) dX3_drop_3 (by decide) ?_
  refine mOk.icge (tgt := 20) dX3_drop_4 (by decide) (fun c4 => ?_) (fun c4 => absurd ((by decide)) c4)
  refine mOk.vret dX3_drop_20 rfl (by decide) ?_
  refine hQ _ ?_ (wI_s _ _ _ _) ((Off.w (a := 36) (by simp)).tr (Off.w (by simp)))
  rw [wI_j (by decide), wI_s]
end BOARD
