/-! ===== Rules: sorting ===== -/
/-- c comes behind those ahead of it (the nearest first) that are not greater -/
def insK (key : Int32 → Int32) (c : Int32) : List Int32 → List Int32
  | [] => [c]
  | x :: xs => if key c < key x then x :: insK key c xs else c :: x :: xs
def ins1 (key : Int32 → Int32) (c : Int32) (acc : List Int32) : List Int32 := if key c = 0 then c :: acc else insK key c acc
def srtR (key : Int32 → Int32) : List Int32 → List Int32 → List Int32
  | acc, [] => acc
  | acc, c :: cs => srtR key (ins1 key c acc) cs
def srt (key : Int32 → Int32) (xs : List Int32) : List Int32 := (srtR key [] xs).reverse
theorem insK_len (key : Int32 → Int32) (c : Int32) : ∀ xs, (insK key c xs).length = xs.length + 1
  | [] => rfl
  | x :: xs => by
    unfold insK
    split
    · simp [insK_len key c xs]
    · simp
theorem ins1_len (key : Int32 → Int32) (c : Int32) (xs : List Int32) : (ins1 key c xs).length = xs.length + 1 := by
  unfold ins1
  split
  · rfl
  · exact insK_len key c xs
theorem insK_mem {key : Int32 → Int32} {c y : Int32} : ∀ {xs : List Int32}, y ∈ insK key c xs ↔ y = c ∨ y ∈ xs
  | [] => by simp [insK]
  | x :: xs => by
    unfold insK
    split
    · rw [List.mem_cons, insK_mem, List.mem_cons]
      constructor
      · rintro (h | h | h) <;> simp [h]
      · rintro (h | h | h) <;> simp [h]
    · simp
theorem ins1_mem {key : Int32 → Int32} {c y : Int32} {xs : List Int32} : y ∈ ins1 key c xs ↔ y = c ∨ y ∈ xs := by
  unfold ins1
  split
  · simp
  · exact insK_mem
theorem srtR_len (key : Int32 → Int32) : ∀ xs acc, (srtR key acc xs).length = acc.length + xs.length
  | [], acc => rfl
  | c :: cs, acc => by
    unfold srtR
    rw [srtR_len key cs, ins1_len]
    simp
    omega
theorem srt_len (key : Int32 → Int32) (xs : List Int32) : (srt key xs).length = xs.length := by
  unfold srt
  rw [List.length_reverse, srtR_len]
  simp
theorem srtR_mem {key : Int32 → Int32} {y : Int32} : ∀ {xs acc : List Int32}, y ∈ srtR key acc xs ↔ y ∈ acc ∨ y ∈ xs
  | [], acc => by simp [srtR]
  | c :: cs, acc => by
    unfold srtR
    rw [srtR_mem, ins1_mem, List.mem_cons]
    constructor
    · rintro ((h | h) | h) <;> simp [h]
    · rintro (h | h | h) <;> simp [h]
theorem srt_mem {key : Int32 → Int32} {y : Int32} {xs : List Int32} : y ∈ srt key xs ↔ y ∈ xs := by
  unfold srt
  rw [List.mem_reverse, srtR_mem]
  simp
theorem getD_mid {as bs : List Int32} {x : Int32} : (as ++ x :: bs).getD as.length (-9) = x := by
  rw [List.getD_eq_getElem?_getD, List.getElem?_append_right (Nat.le_refl _)]
  simp
theorem set_mid {as bs : List Int32} {x y : Int32} : (as ++ x :: bs).set as.length y = as ++ y :: bs := by
  rw [List.set_append_right _ _ (Nat.le_refl _)]
  simp
theorem swp_mid {as bs : List Int32} {x y : Int32} : swp (as ++ x :: y :: bs) as.length = as ++ y :: x :: bs := by
  unfold swp
  rw [getD_mid]
  have e1 : (as ++ x :: y :: bs).getD (as.length + 1) (-9) = y := by
    rw [List.getD_eq_getElem?_getD, List.getElem?_append_right (by omega)]
    simp
  rw [e1]
  have e2 : (as ++ x :: y :: bs).set (as.length + 1) x = as ++ x :: x :: bs := by
    rw [List.set_append_right _ _ (by omega)]
    simp
  rw [e2, set_mid]
theorem Int32_nle {x y : Int32} (h : ¬ x ≤ y) : y < x := by rw [Int32.lt_iff_toInt_lt]; rw [Int32.le_iff_toInt_le] at h; omega
theorem Int32_nlt {x y : Int32} (h : x ≤ y) : ¬ y < x := by rw [Int32.lt_iff_toInt_lt]; rw [Int32.le_iff_toInt_le] at h; omega
section SORT
variable {sw : Bool} {I : Nat → Nat → Int32} {J : Nat → Nat → Int64} {cb : Nat} {T : List CR} {Q : Option Value → mi_H → Prop} {r ra cap ru : Nat}
/-- the inner loop: c goes ahead of those that are greater -/
theorem l_sort2 {I0 : Nat → Nat → Int32} (hdj : ∀ a ∈ cS cb, a ∉ [r, ra]) {c : Int32} {i : Nat} {tl : List Int32} {n : Nat} (hn : n < 100000) :
    ∀ (as bs : List Int32) (I : Nat → Nat → Int32), as.length + bs.length + 1 + tl.length = n → Cd I cb T → Rw I r ra cap (as.reverse ++ c :: (bs ++ tl)) → Off [r, ra] I0 I →
    (∀ I', Cd I' cb T → Rw I' r ra cap ((insK (tC T) c as).reverse ++ (bs ++ tl)) → Off [r, ra] I0 I' → ∀ l5, mOk mX6_sort 2 0 0 66 [some (.ref ru), some (.ref cb), some (.ref r), some (.int (nI i)), some (.int (tC T c)), some (.int l5)] [] (hS sw I' J) 0 0 Q) →
    mOk mX6_sort 2 0 0 32 [some (.ref ru), some (.ref cb), some (.ref r), some (.int (nI i)), some (.int (tC T c)), some (.int (nI as.length))] [] (hS sw I J) 0 0 Q := by
  intro as
  induction as with
  | nil =>
    intro bs I hlen hc hx ho hk
    refine mOk.iload5 dX6_sort_32 ?_
    refine mOk.ifle (tgt := 66) dX6_sort_34 (by decide) (fun c34 => ?_) (fun c34 => absurd ((by decide)) c34)
    exact hk I hc hx ho _
  | cons x as ih =>
    intro bs I hlen hc hx ho hk
    obtain ⟨k0, -⟩ := cdK hc.1
    obtain ⟨r0, -⟩ := id hx.1
    have hx1 : Rw I r ra cap (as.reverse ++ x :: c :: (bs ++ tl)) := by simpa using hx
    simp only [List.length_cons] at hlen ⊢
    refine mOk.iload5 dX6_sort_32 ?_
    refine mOk.ifle (tgt := 66) dX6_sort_34 (by decide) (fun c34 => absurd c34 (nI_nle (by omega) (by omega))) (fun c34 => ?_)
    refine mOk.aload1n dX6_sort_37 rfl ?_
    refine mOk.aload2n dX6_sort_38 rfl ?_
    refine mOk.iload5 dX6_sort_39 ?_
    refine mOk.iconst (x := nI 1) dX6_sort_41 (by decide) ?_
    refine mOk.isub dX6_sort_42 ?_
    refine mOk.top (nI_pred as.length) ?_
    refine mOk.callV1 (M' := mX5_cell) dX6_sort_43 ml_X6_62 ke_X5_cell (by first | assumption | rfl) (by decide) (by decide) (by simp [Value.category]) (c_cell_in hx1 (by simp) ?_)
    rw [show as.length = as.reverse.length by simp, getD_mid]
    refine mOk.callV1 (M' := mX1_classOf) dX6_sort_46 ml_X6_72 ke_X1_classOf (by first | assumption | rfl) (by decide) (by decide) (by simp [Value.category]) (c_classOf hc ?_)
    refine mOk.iload4 dX6_sort_49 ?_
    refine mOk.icle (tgt := 66) dX6_sort_51 (by decide) (fun c51 => ?_) (fun c51 => ?_)
    · refine hk I hc ?_ ho _
      rw [insK, if_neg (Int32_nlt c51)]
      simpa using hx
    · refine mOk.iinc5 (y := nI as.length) dX6_sort_54 (by rw [show (List.reverse as).length = as.length by simp]; exact pk_m1 as.length) (by decide) rfl ?_
      refine mOk.aload2n dX6_sort_57 rfl ?_
      refine mOk.iload5 dX6_sort_58 ?_
      refine mOk.callV1 (M' := mX5_swapWithNext) dX6_sort_60 ml_X6_85 ke_X5_swapWithNext (by first | assumption | rfl) (by decide) (by decide) (by simp [Value.category]) (c_swap hx1 (by simp) ?_)
      intro I' hx' ho'
      rw [show as.length = as.reverse.length by simp, swp_mid] at hx'
      rw [show as.length = as.reverse.length by simp]
      refine mOk.goto (tgt := 32) dX6_sort_63 (by decide) ?_
      rw [show as.reverse.length = as.length by simp]
      refine ih (x :: bs) I' (by simp; omega) (hc.off ho' hdj) hx' (ho.tr ho') (fun I'' hc'' hx'' ho'' l5 => hk I'' hc'' ?_ ho'' l5)
      rw [insK, if_pos (Int32_nle c51)]
      simpa using hx''
theorem l_sort {I0 : Nat → Nat → Int32} (hdj : ∀ a ∈ cS cb, a ∉ [r, ra]) {xs : List Int32} (hQ : ∀ I', Cd I' cb T → Rw I' r ra cap (srt (tC T) xs) → Off [r, ra] I0 I' → Q none (hS sw I' J)) :
    ∀ (rest acc : List Int32) (I : Nat → Nat → Int32) (l4 l5 : Option Value), Cd I cb T → Rw I r ra cap (acc.reverse ++ rest) → Off [r, ra] I0 I → srtR (tC T) acc rest = srtR (tC T) [] xs →
    mOk mX6_sort 2 0 0 2 [some (.ref ru), some (.ref cb), some (.ref r), some (.int (nI acc.length)), l4, l5] [] (hS sw I J) 0 0 Q := by
  intro rest
  induction rest with
  | nil =>
    intro acc I l4 l5 hc hx ho hs
    obtain ⟨r0, -⟩ := id hx.1
    have b1 := hx.1.2.2.2.1
    have b2 := hx.2.1
    simp at b2
    refine mOk.iload3n dX6_sort_2 rfl ?_
    refine mOk.aload2n dX6_sort_3 rfl ?_
    refine mOk.callV0 (M' := mX5_length) dX6_sort_4 ml_X6_58 ke_X5_length (by first | assumption | rfl) (by decide) (by decide) (by simp [Value.category]) (c_length hx ?_)
    refine mOk.icge (tgt := 72) dX6_sort_7 (by decide) (fun c7 => ?_) (fun c7 => absurd ((nI_le' (by simp; omega) (by omega)).mpr (by simp)) c7)
    refine mOk.vret dX6_sort_72 rfl (by decide) ?_
    refine hQ I hc ?_ ho
    unfold srt
    rw [← hs]
    simpa [srtR] using hx
  | cons c rest ih =>
    intro acc I l4 l5 hc hx ho hs
    obtain ⟨k0, -⟩ := cdK hc.1
    obtain ⟨r0, -⟩ := id hx.1
    have b1 := hx.1.2.2.2.1
    have b2 := hx.2.1
    simp at b2
    have next : ∀ I', Cd I' cb T → Rw I' r ra cap ((ins1 (tC T) c acc).reverse ++ rest) → Off [r, ra] I0 I' → ∀ (l5 : Option Value), mOk mX6_sort 2 0 0 66 [some (.ref ru), some (.ref cb), some (.ref r), some (.int (nI acc.length)), some (.int (tC T c)), l5] [] (hS sw I' J) 0 0 Q := by
      intro I' hc' hx' ho' l5
      refine mOk.iinc3 dX6_sort_66 (mOk.inc1 rfl) (by decide) rfl ?_
      refine mOk.goto (tgt := 2) dX6_sort_69 (by decide) ?_
      have := ih (ins1 (tC T) c acc) I' (some (.int (tC T c))) l5 hc' hx' ho' hs
      rw [ins1_len] at this
      exact this
    refine mOk.iload3n dX6_sort_2 rfl ?_
    refine mOk.aload2n dX6_sort_3 rfl ?_
    refine mOk.callV0 (M' := mX5_length) dX6_sort_4 ml_X6_58 ke_X5_length (by first | assumption | rfl) (by decide) (by decide) (by simp [Value.category]) (c_length hx ?_)
    refine mOk.icge (tgt := 72) dX6_sort_7 (by decide) (fun c7 => absurd c7 (mt (nI_le' (by simp; omega) (by omega)).mp (by simp))) (fun c7 => ?_)
    refine mOk.aload1n dX6_sort_10 rfl ?_
    refine mOk.aload2n dX6_sort_11 rfl ?_
    refine mOk.iload3n dX6_sort_12 rfl ?_
    refine mOk.callV1 (M' := mX5_cell) dX6_sort_13 ml_X6_62 ke_X5_cell (by first | assumption | rfl) (by decide) (by decide) (by simp [Value.category]) (c_cell_in hx (by simp) ?_)
    rw [show (acc.reverse ++ c :: rest).getD acc.length (-9) = c by rw [show acc.length = acc.reverse.length by simp, getD_mid]]
    refine mOk.callV1 (M' := mX1_classOf) dX6_sort_16 ml_X6_72 ke_X1_classOf (by first | assumption | rfl) (by decide) (by decide) (by simp [Value.category]) (c_classOf hc ?_)
    refine mOk.istore4 dX6_sort_19 (by decide) rfl ?_
    refine mOk.iload4 dX6_sort_21 ?_
    refine mOk.ifne (tgt := 29) dX6_sort_23 (by decide) (fun c23 => ?_) (fun c23 => ?_)
    · refine mOk.iload3n dX6_sort_29 rfl ?_
      refine mOk.istore5 dX6_sort_30 (by decide) rfl ?_
      refine l_sort2 (tl := rest) hdj (n := acc.length + 1 + rest.length) (by omega) acc [] I (by simp) hc (by simpa using hx) ho (fun I' hc' hx' ho' l5 => next I' hc' ?_ ho' _)
      rw [ins1, if_neg c23]
      simpa using hx'
    · refine mOk.goto (tgt := 66) dX6_sort_26 (by decide) ?_
      refine next I hc ?_ ho _
      rw [ins1, if_pos c23]
      simpa using hx
theorem c_sort (hc : Cd I cb T) {xs : List Int32} (hx : Rw I r ra cap xs) (hdj : ∀ a ∈ cS cb, a ∉ [r, ra]) (hQ : ∀ I', Cd I' cb T → Rw I' r ra cap (srt (tC T) xs) → Off [r, ra] I I' → Q none (hS sw I' J)) : mCl mX6_sort 2 0 0 [.ref ru, .ref cb, .ref r] (hS sw I J) Q := by
  obtain ⟨r0, -⟩ := id hx.1
  have b1 := hx.1.2.2.2.1
  have b2 := hx.2.1
  refine mCl.of (by decide) rfl (Nat.le_of_ble_eq_true rfl) ?_
  show mOk _ _ _ _ _ [some (.ref ru), some (.ref cb), some (.ref r), none, none, none] _ _ _ _ _
  refine mOk.iconst (x := nI 1) dX6_sort_0 (by decide) ?_
  refine mOk.istore3n dX6_sort_1 rfl (by decide) rfl ?_
  cases xs with
  | nil =>
    refine mOk.iload3n dX6_sort_2 rfl ?_
    refine mOk.aload2n dX6_sort_3 rfl ?_
    refine mOk.callV0 (M' := mX5_length) dX6_sort_4 ml_X6_58 ke_X5_length (by first | assumption | rfl) (by decide) (by decide) (by simp [Value.category]) (c_length hx ?_)
    refine mOk.icge (tgt := 72) dX6_sort_7 (by decide) (fun c7 => ?_) (fun c7 => absurd ((by decide)) c7)
    refine mOk.vret dX6_sort_72 rfl (by decide) ?_
    exact hQ I hc hx Off.rf
  | cons x xs =>
    refine l_sort (acc := [x]) (I0 := I) (xs := x :: xs) hdj hQ xs I none none hc hx Off.rf ?_
    show srtR _ [x] xs = srtR _ (ins1 _ x []) xs
    have : ins1 (tC T) x [] = [x] := by unfold ins1; split <;> rfl
    rw [this]
end SORT
