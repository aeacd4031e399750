/-! ===== the reference: bases, back, first; rules; whether kept, sorted, a second ===== -/
def cb (T : List CR) (xs : List Int32) : Nat := xs.countP (fun c => decide (tC T c = 0))
theorem cb_cons (T : List CR) (c : Int32) (xs : List Int32) : cb T (c :: xs) = (if tC T c = 0 then 1 else 0) + cb T xs := by
  unfold cb
  rw [List.countP_cons]
  by_cases z : tC T c = 0
  · simp [z]; omega
  · simp [z]
theorem cb_snoc (T : List CR) (xs : List Int32) (c : Int32) : cb T (xs ++ [c]) = cb T xs + (if tC T c = 0 then 1 else 0) := by
  unfold cb
  rw [List.countP_append, List.countP_singleton]
  simp
theorem cb_le (T : List CR) (xs : List Int32) : cb T xs ≤ xs.length := List.countP_le_length
theorem fst1_take {T : List CR} : ∀ (xs : List Int32) (b n : Nat), n ≤ xs.length → (∀ k, k < n → b + cb T (xs.take (k + 1)) ≤ 1) → (n = xs.length ∨ 1 < b + cb T (xs.take (n + 1))) → fst1 T b xs = xs.take n
  | [], b, n, h1, _, _ => by simp [fst1]
  | c :: cs, b, 0, h1, h2, h3 => by
    have h4 : 1 < b + cb T ((c :: cs).take 1) := by
      rcases h3 with z | z
      · simp at z
      · exact z
    rw [List.take_succ_cons, List.take_zero, cb_cons] at h4
    unfold fst1
    rw [if_pos (by simpa [cb] using h4)]
    simp
  | c :: cs, b, n + 1, h1, h2, h3 => by
    have h4 := h2 0 (by omega)
    rw [List.take_succ_cons, List.take_zero, cb_cons] at h4
    have h4' : ¬ 1 < b + (if tC T c = 0 then 1 else 0) := by
      have : cb T [] = 0 := rfl
      omega
    unfold fst1
    rw [if_neg h4', List.take_succ_cons]
    congr 1
    refine fst1_take cs _ n (by simpa using h1) (fun k hk => ?_) ?_
    · have := h2 (k + 1) (by omega)
      rw [List.take_succ_cons, cb_cons] at this
      omega
    · rcases h3 with z | z
      · exact Or.inl (by simpa using z)
      · rw [List.take_succ_cons, cb_cons] at z
        exact Or.inr (by omega)
/-! sorted is what sorting leaves -/
def rsd (key : Int32 → Int32) : List Int32 → Prop
  | y :: x :: xs => (key y = 0 ∨ key x ≤ key y) ∧ rsd key (x :: xs)
  | _ => True
theorem rsd_insK {key : Int32 → Int32} {c : Int32} : ∀ xs, rsd key xs → rsd key (insK key c xs)
  | [], _ => trivial
  | x :: xs, h => by
    unfold insK
    by_cases z : key c < key x
    · rw [if_pos z]
      cases xs with
      | nil => exact ⟨Or.inr (by rw [Int32.le_iff_toInt_le]; rw [Int32.lt_iff_toInt_lt] at z; omega), trivial⟩
      | cons y ys =>
        have ih := rsd_insK (c := c) (y :: ys) h.2
        unfold insK at ih ⊢
        by_cases w : key c < key y
        · rw [if_pos w] at ih ⊢
          exact ⟨h.1, ih⟩
        · rw [if_neg w] at ih ⊢
          exact ⟨Or.inr (by rw [Int32.le_iff_toInt_le]; rw [Int32.lt_iff_toInt_lt] at z; omega), ih⟩
    · rw [if_neg z]
      refine ⟨Or.inr ?_, h⟩
      rw [Int32.le_iff_toInt_le]
      rw [Int32.lt_iff_toInt_lt] at z
      omega
theorem rsd_srtR {key : Int32 → Int32} : ∀ xs acc, rsd key acc → rsd key (srtR key acc xs)
  | [], acc, h => h
  | c :: cs, acc, h => by
    unfold srtR
    refine rsd_srtR cs _ ?_
    unfold ins1
    split
    · next z =>
      cases acc with
      | nil => trivial
      | cons x xs => exact ⟨Or.inl z, h⟩
    · exact rsd_insK acc h
theorem srtd_snoc {key : Int32 → Int32} {x y : Int32} : ∀ xs, srtd key (xs ++ [x, y]) = (srtd key (xs ++ [x]) && (decide (key y = 0) || decide (key x ≤ key y)))
  | [] => by simp [srtd]
  | [a] => by simp [srtd, Bool.and_assoc]
  | a :: b :: xs => by
    have ih := srtd_snoc (key := key) (x := x) (y := y) (b :: xs)
    simp only [List.cons_append, srtd] at ih ⊢
    rw [ih, Bool.and_assoc]
theorem rsd_rev {key : Int32 → Int32} : ∀ acc, rsd key acc → srtd key acc.reverse = true
  | [], _ => rfl
  | [x], _ => rfl
  | y :: x :: xs, h => by
    have ih := rsd_rev (x :: xs) h.2
    rw [List.reverse_cons] at ih
    rw [List.reverse_cons, List.reverse_cons, List.append_assoc]
    show srtd key (xs.reverse ++ [x, y]) = true
    rw [srtd_snoc, ih, Bool.true_and, Bool.or_eq_true, decide_eq_true_eq, decide_eq_true_eq]
    exact h.1
theorem srt_id {key : Int32 → Int32} : ∀ (cs acc : List Int32) (x : Int32), srtd key (x :: cs) = true → srtR key (x :: acc) cs = cs.reverse ++ x :: acc
  | [], acc, x, _ => rfl
  | c :: cs, acc, x, h => by
    have h' : ((decide (key c = 0) || decide (key x ≤ key c)) && srtd key (c :: cs)) = true := h
    rw [Bool.and_eq_true, Bool.or_eq_true, decide_eq_true_eq, decide_eq_true_eq] at h'
    unfold srtR
    have e : ins1 key c (x :: acc) = c :: x :: acc := by
      unfold ins1
      split
      · rfl
      · next z =>
        unfold insK
        rw [if_neg (Int32_nlt (h'.1.resolve_left z))]
    rw [e, srt_id cs (x :: acc) c h'.2]
    simp
theorem srt_iff {key : Int32 → Int32} (xs : List Int32) : srt key xs = xs ↔ srtd key xs = true := by
  constructor
  · intro h
    rw [← h]
    exact rsd_rev _ (rsd_srtR xs [] trivial)
  · intro h
    cases xs with
    | nil => rfl
    | cons x xs =>
      unfold srt
      show (srtR key (ins1 key x []) xs).reverse = _
      rw [show ins1 key x [] = [x] by unfold ins1; split <;> rfl, srt_id xs [] x h]
      simp
def isq (T : List CR) (b : Int32) (i : Nat) : Bool := (List.range i).any (fun j => decide (tK T (nI j) = 1) && decide (tS T (nI j) = b))
theorem isq_s (T : List CR) (b : Int32) (i : Nat) : isq T b (i + 1) = (isq T b i || (decide (tK T (nI i) = 1) && decide (tS T (nI i) = b))) := by
  unfold isq
  rw [List.range_succ, List.any_append]
  simp
theorem isq_end {T : List CR} (hl : T.length < 100000) (b : Int32) : isq T b T.length = isSec T b := by
  rw [Bool.eq_iff_iff]
  unfold isq isSec
  rw [List.any_eq_true, List.any_eq_true]
  constructor
  · rintro ⟨j, hj, h⟩
    rw [Bool.and_eq_true, decide_eq_true_eq, decide_eq_true_eq] at h
    exact ⟨nI j, (prs_mem hl).mpr ⟨⟨j, List.mem_range.mp hj, rfl⟩, h.1⟩, by rw [decide_eq_true_eq]; exact h.2⟩
  · rintro ⟨c, hc, h⟩
    rw [decide_eq_true_eq] at h
    obtain ⟨⟨j, hj, rfl⟩, hk⟩ := (prs_mem hl).mp hc
    exact ⟨j, List.mem_range.mpr hj, by rw [Bool.and_eq_true, decide_eq_true_eq, decide_eq_true_eq]; exact ⟨hk, h⟩⟩
section MODEL11
variable {sw : Bool} {I : Nat → Nat → Int32} {J : Nat → Nat → Int64} {Q : Option Value → mi_H → Prop} {T : List CR} {xs ys : List Int32}
theorem l_bases {I0 : Nat → Nat → Int32} (hv : okL T xs) (hQ : ∀ I', Md I' T → Ro I' (bare T xs) → Of [18, 20] [110, 111] I0 I' → Q none (hS sw I' J)) :
    ∀ (m k : Nat) (I : Nat → Nat → Int32), k + m = xs.length → Md I T → Ot I xs → Ro I (bare T (xs.take k)) → Of [18, 20] [110, 111] I0 I → mOk mX9_keepsBases 1 0 0 11 [some (.ref 97), some (.int (nI k))] [] (hS sw I J) 0 0 Q := by
  intro m
  induction m with
  | zero =>
    intro k I hk hM hO hR ho
    have hx := hO.1
    rw [List.take_of_length_le (by omega)] at hR
    refine mOk.iload1n dX9_keepsBases_11 rfl ?_
    refine mOk.aload0n dX9_keepsBases_12 rfl ?_
    refine mOk.getIv dX9_keepsBases_13 fl_X9_163 (by first | assumption | rfl) hO.2.1 ?_
    refine mOk.icge (tgt := 64) dX9_keepsBases_16 (by decide) (fun c16 => ?_) (fun c16 => absurd ((nI_le' (by omega) (by omega)).mpr (by omega)) c16)
    refine mOk.vret dX9_keepsBases_64 rfl (by decide) ?_
    exact hQ I hM hR ho
  | succ m ih =>
    intro k I hk hM hO hR ho
    have hx := hO.1
    have hl24 := hM.1
    have hkl : k < xs.length := by omega
    obtain ⟨j, hj, e⟩ := hv _ (mem_getD hkl)
    have hble : (bare T (xs.take k)).length ≤ k := by
      unfold bare
      have := List.length_filter_le (fun c => decide (tC T c = 0)) (xs.take k)
      rw [List.length_take] at this
      omega
    have hstep : bare T (xs.take (k + 1)) = bare T (xs.take k) ++ (if tC T (xs.getD k (-9)) = 0 then [xs.getD k (-9)] else []) := by
      unfold bare
      rw [take_s hkl, List.filter_append]
      congr 1
      by_cases z : tC T (xs.getD k (-9)) = 0
      · rw [if_pos z, List.filter_cons_of_pos (by rw [decide_eq_true_eq]; exact z)]
        rfl
      · rw [if_neg z, List.filter_cons_of_neg (by rw [decide_eq_true_eq]; exact z)]
        rfl
    refine mOk.iload1n dX9_keepsBases_11 rfl ?_
    refine mOk.aload0n dX9_keepsBases_12 rfl ?_
    refine mOk.getIv dX9_keepsBases_13 fl_X9_163 (by first | assumption | rfl) hO.2.1 ?_
    refine mOk.icge (tgt := 64) dX9_keepsBases_16 (by decide) (fun c16 => absurd c16 (mt (nI_le' (by omega) (by omega)).mp (by omega))) (fun c16 => ?_)
    refine mOk.aload0n dX9_keepsBases_19 rfl ?_
    refine mOk.getR dX9_keepsBases_20 fl_X9_13 (by first | assumption | rfl) (by first | assumption | rfl) ?_
    refine mOk.aload0n dX9_keepsBases_23 rfl ?_
    refine mOk.getR dX9_keepsBases_24 fl_X9_49 (by first | assumption | rfl) (by first | assumption | rfl) ?_
    refine mOk.iload1n dX9_keepsBases_27 rfl ?_
    refine mOk.ialdv dX9_keepsBases_28 (by first | assumption | rfl) rfl (by omega) (by first | assumption | decide | omega) (hO.at hkl) ?_
    refine mOk.ialdv (j := j) dX9_keepsBases_29 (by first | assumption | rfl) e (by omega) (by first | assumption | decide | omega) (hM.C e hj) ?_
    refine mOk.ifne (tgt := 58) dX9_keepsBases_30 (by decide) (fun c30 => ?_) (fun c30 => ?_)
    · refine mOk.iinc1 dX9_keepsBases_58 (mOk.inc1 rfl) (by decide) rfl ?_
      refine mOk.goto (tgt := 11) dX9_keepsBases_61 (by decide) ?_
      refine ih (k + 1) I (by omega) hM hO ?_ ho
      rw [hstep, if_neg c30, List.append_nil]
      exact hR
    · refine mOk.aload0n dX9_keepsBases_33 rfl ?_
      refine mOk.getR dX9_keepsBases_34 fl_X9_46 (by first | assumption | rfl) (by first | assumption | rfl) ?_
      refine mOk.aload0n dX9_keepsBases_37 rfl ?_
      refine mOk.getIv dX9_keepsBases_38 fl_X9_157 (by first | assumption | rfl) hR.2.1 ?_
      refine mOk.aload0n dX9_keepsBases_41 rfl ?_
      refine mOk.getR dX9_keepsBases_42 fl_X9_49 (by first | assumption | rfl) (by first | assumption | rfl) ?_
      refine mOk.iload1n dX9_keepsBases_45 rfl ?_
      refine mOk.ialdv dX9_keepsBases_46 (by first | assumption | rfl) rfl (by omega) (by first | assumption | decide | omega) (hO.at hkl) ?_
      refine mOk.iastt dX9_keepsBases_47 (by first | assumption | rfl) rfl (by omega) (by first | assumption | decide | omega) ?_
      have e18 : wI I 110 (bare T (xs.take k)).length (xs.getD k (-9)) 97 18 = nI (bare T (xs.take k)).length := by rw [wI_c (by decide)]; exact hR.2.1
      refine mOk.aload0n dX9_keepsBases_48 rfl ?_
      refine mOk.dup dX9_keepsBases_49 rfl ?_
      refine mOk.getIv dX9_keepsBases_50 fl_X9_157 (by first | assumption | rfl) e18 ?_
      refine mOk.iconst (x := nI 1) dX9_keepsBases_53 (by decide) ?_
      refine mOk.iadd dX9_keepsBases_54 ?_
      refine mOk.top ((nI_add _ _)) ?_
      refine mOk.putIt dX9_keepsBases_55 fl_X9_157 (by first | assumption | rfl) ?_
      refine mOk.iinc1 dX9_keepsBases_58 (mOk.inc1 rfl) (by decide) rfl ?_
      refine mOk.goto (tgt := 11) dX9_keepsBases_61 (by decide) ?_
      have o : Of [18] [110] I (wI (wI I 110 (bare T (xs.take k)).length (xs.getD k (-9))) 97 18 (nI ((bare T (xs.take k)).length + 1))) := (Of.a (by decide) (by decide)).tr (Of.f (by decide))
      refine ih (k + 1) _ (by omega) (hM.of o (by decide) (by decide)) (hO.of o (by decide) (by decide) (by decide)) ?_ (ho.tr (o.up (by decide) (by decide)))
      rw [hstep, if_pos c30]
      exact hR.push (by omega) (by decide)
theorem c_bases (hM : Md I T) (hR : Ro I xs) (hv : okL T xs) (hQ : ∀ I', Md I' T → Ro I' (bare T xs) → Of [18, 20] [110, 111] I I' → Q none (hS sw I' J)) : mCl mX9_keepsBases 1 0 0 [.ref 97] (hS sw I J) Q := by
  refine mCl.of (by decide) rfl (Nat.le_of_ble_eq_true rfl) ?_
  show mOk _ _ _ _ _ [some (.ref 97), none] _ _ _ _ _
  refine mOk.aload0n dX9_keepsBases_0 rfl ?_
  refine mOk.callV0 (M' := mX9_asOther) dX9_keepsBases_1 ml_X9_166 ke_X9_asOther (by first | assumption | rfl) (by decide) (by decide) (by simp [Value.category]) (c_asOther hR ?_)
  intro I1 hR1 hO1 ho1
  refine mOk.aload0n dX9_keepsBases_4 rfl ?_
  refine mOk.iconst (x := nI 0) dX9_keepsBases_5 (by decide) ?_
  refine mOk.putIt dX9_keepsBases_6 fl_X9_157 (by first | assumption | rfl) ?_
  refine mOk.iconst (x := nI 0) dX9_keepsBases_9 (by decide) ?_
  refine mOk.istore1n dX9_keepsBases_10 rfl (by decide) rfl ?_
  have o : Of [18] [] I1 (wI I1 97 18 (nI 0)) := Of.f (by decide)
  exact l_bases hv hQ xs.length 0 _ (Nat.zero_add _) ((hM.of ho1 (by decide) (by decide)).of o (by decide) (by decide)) (hO1.of o (by decide) (by decide) (by decide)) (RW.nil (wI_s _ _ _ _)) ((ho1.up (by decide) (by decide)).tr (o.up (by decide) (by decide)))
theorem l_turns {I0 : Nat → Nat → Int32} (hQ : ∀ I', Ro I' xs.reverse → Of [18, 20] [110, 111] I0 I' → Q none (hS sw I' J)) :
    ∀ (m k : Nat) (I : Nat → Nat → Int32), k + m = xs.length → Ot I xs → I 97 18 = nI xs.length → (∀ j, j < k → I 110 j = xs.getD (xs.length - 1 - j) (-9)) → Of [18, 20] [110, 111] I0 I → mOk mX9_turns 1 0 0 6 [some (.ref 97), some (.int (nI k))] [] (hS sw I J) 0 0 Q := by
  intro m
  induction m with
  | zero =>
    intro k I hk hO h18 hj ho
    have hx := hO.1
    refine mOk.iload1n dX9_turns_6 rfl ?_
    refine mOk.aload0n dX9_turns_7 rfl ?_
    refine mOk.getIv dX9_turns_8 fl_X9_157 (by first | assumption | rfl) h18 ?_
    refine mOk.icge (tgt := 39) dX9_turns_11 (by decide) (fun c11 => ?_) (fun c11 => absurd ((nI_le' (by omega) (by omega)).mpr (by omega)) c11)
    refine mOk.vret dX9_turns_39 rfl (by decide) ?_
    refine hQ I ⟨by rw [List.length_reverse]; exact hx, by rw [List.length_reverse]; exact h18, fun j c hc => ?_⟩ ho
    have hjl := (List.getElem?_eq_some_iff.mp hc).1
    rw [List.length_reverse] at hjl
    rw [hj j (by omega), ← getD_rev hjl, List.getD_eq_getElem?_getD, hc]
    rfl
  | succ m ih =>
    intro k I hk hO h18 hj ho
    have hx := hO.1
    refine mOk.iload1n dX9_turns_6 rfl ?_
    refine mOk.aload0n dX9_turns_7 rfl ?_
    refine mOk.getIv dX9_turns_8 fl_X9_157 (by first | assumption | rfl) h18 ?_
    refine mOk.icge (tgt := 39) dX9_turns_11 (by decide) (fun c11 => absurd c11 (mt (nI_le' (by omega) (by omega)).mp (by omega))) (fun c11 => ?_)
    refine mOk.aload0n dX9_turns_14 rfl ?_
    refine mOk.getR dX9_turns_15 fl_X9_46 (by first | assumption | rfl) (by first | assumption | rfl) ?_
    refine mOk.iload1n dX9_turns_18 rfl ?_
    refine mOk.aload0n dX9_turns_19 rfl ?_
    refine mOk.getR dX9_turns_20 fl_X9_49 (by first | assumption | rfl) (by first | assumption | rfl) ?_
    refine mOk.aload0n dX9_turns_23 rfl ?_
    refine mOk.getIv dX9_turns_24 fl_X9_157 (by first | assumption | rfl) h18 ?_
    refine mOk.iconst (x := nI 1) dX9_turns_27 (by decide) ?_
    refine mOk.isub dX9_turns_28 ?_
    refine mOk.top ((pk_sub (by omega))) ?_
    refine mOk.iload1n dX9_turns_29 rfl ?_
    refine mOk.isub dX9_turns_30 ?_
    refine mOk.top ((pk_sub (by omega))) ?_
    refine mOk.ialdv dX9_turns_31 (by first | assumption | rfl) rfl (by omega) (by first | assumption | decide | omega) (hO.at (by omega)) ?_
    refine mOk.iastt dX9_turns_32 (by first | assumption | rfl) rfl (by omega) (by first | assumption | decide | omega) ?_
    refine mOk.iinc1 dX9_turns_33 (mOk.inc1 rfl) (by decide) rfl ?_
    refine mOk.goto (tgt := 6) dX9_turns_36 (by decide) ?_
    have o : Of [18] [110] I (wI I 110 k (xs.getD (xs.length - 1 - k) (-9))) := Of.a (by decide) (by decide)
    refine ih (k + 1) _ (by omega) (hO.of o (by decide) (by decide) (by decide)) (by rw [wI_c (by decide)]; exact h18) (fun j hjk => ?_) (ho.tr (o.up (by decide) (by decide)))
    rcases Nat.lt_or_ge j k with z | z
    · rw [wI_j (by omega)]
      exact hj j z
    · rw [show j = k by omega, wI_s]
theorem c_turns (hR : Ro I xs) (hQ : ∀ I', Ro I' xs.reverse → Of [18, 20] [110, 111] I I' → Q none (hS sw I' J)) : mCl mX9_turns 1 0 0 [.ref 97] (hS sw I J) Q := by
  refine mCl.of (by decide) rfl (Nat.le_of_ble_eq_true rfl) ?_
  show mOk _ _ _ _ _ [some (.ref 97), none] _ _ _ _ _
  refine mOk.aload0n dX9_turns_0 rfl ?_
  refine mOk.callV0 (M' := mX9_asOther) dX9_turns_1 ml_X9_166 ke_X9_asOther (by first | assumption | rfl) (by decide) (by decide) (by simp [Value.category]) (c_asOther hR ?_)
  intro I1 hR1 hO1 ho1
  refine mOk.iconst (x := nI 0) dX9_turns_4 (by decide) ?_
  refine mOk.istore1n dX9_turns_5 rfl (by decide) rfl ?_
  exact l_turns hQ xs.length 0 I1 (Nat.zero_add _) hO1 hR1.2.1 (fun j hj => absurd hj (Nat.not_lt_zero j)) (ho1.up (by decide) (by decide))
/-- how many bases there are up to k -/
theorem l_first2 {k n : Nat} (hM : Md I T) (hR : Ro I xs) (hv : okL T xs) (hk : k < xs.length) (kk : ∀ l4, mOk mX9_keepsFirst 0 0 0 58 [some (.ref 97), some (.int (nI (cb T (xs.take (k + 1))))), some (.int (nI n)), some (.int (nI k)), some (.int l4)] [] (hS sw I J) 0 0 Q) :
    ∀ (m i : Nat), i + m = k + 1 → mOk mX9_keepsFirst 0 0 0 23 [some (.ref 97), some (.int (nI (cb T (xs.take i)))), some (.int (nI n)), some (.int (nI k)), some (.int (nI i))] [] (hS sw I J) 0 0 Q := by
  have hl24 := hM.1
  have hl := hR.1
  intro m
  induction m with
  | zero =>
    intro i hi
    refine mOk.iload4 dX9_keepsFirst_23 ?_
    refine mOk.iload3n dX9_keepsFirst_25 rfl ?_
    refine mOk.icgt (tgt := 58) dX9_keepsFirst_26 (by decide) (fun c26 => ?_) (fun c26 => absurd ((nI_lt' (by omega) (by omega)).mpr (by omega)) c26)
    rw [show i = k + 1 by omega]
    exact kk _
  | succ m ih =>
    intro i hi
    have hil : i < xs.length := by omega
    obtain ⟨j, hj, e⟩ := hv _ (mem_getD hil)
    have hst := cb_snoc T (xs.take i) (xs.getD i (-9))
    rw [← take_s hil] at hst
    refine mOk.iload4 dX9_keepsFirst_23 ?_
    refine mOk.iload3n dX9_keepsFirst_25 rfl ?_
    refine mOk.icgt (tgt := 58) dX9_keepsFirst_26 (by decide) (fun c26 => absurd c26 (mt (nI_lt' (by omega) (by omega)).mp (by omega))) (fun c26 => ?_)
    refine mOk.iload1n dX9_keepsFirst_29 rfl ?_
    refine mOk.aload0n dX9_keepsFirst_30 rfl ?_
    refine mOk.getR dX9_keepsFirst_31 fl_X9_13 (by first | assumption | rfl) (by first | assumption | rfl) ?_
    refine mOk.aload0n dX9_keepsFirst_34 rfl ?_
    refine mOk.getR dX9_keepsFirst_35 fl_X9_46 (by first | assumption | rfl) (by first | assumption | rfl) ?_
    refine mOk.iload4 dX9_keepsFirst_38 ?_
    refine mOk.ialdv dX9_keepsFirst_40 (by first | assumption | rfl) rfl (by omega) (by first | assumption | decide | omega) (hR.at hil) ?_
    refine mOk.ialdv (j := j) dX9_keepsFirst_41 (by first | assumption | rfl) e (by omega) (by first | assumption | decide | omega) (hM.C e hj) ?_
    refine mOk.ifne (tgt := 49) dX9_keepsFirst_42 (by decide) (fun c42 => ?_) (fun c42 => ?_)
    · rw [if_neg c42] at hst
      refine mOk.iconst (x := nI 0) dX9_keepsFirst_49 (by decide) ?_
      refine mOk.iadd dX9_keepsFirst_50 ?_
      refine mOk.top ((nI_add _ _)) ?_
      rw [← hst]
      refine mOk.istore1n dX9_keepsFirst_51 rfl (by decide) rfl ?_
      refine mOk.iinc4 dX9_keepsFirst_52 (mOk.inc1 rfl) (by decide) rfl ?_
      refine mOk.goto (tgt := 23) dX9_keepsFirst_55 (by decide) ?_
      exact ih (i + 1) (by omega)
    · rw [if_pos c42] at hst
      refine mOk.iconst (x := nI 1) dX9_keepsFirst_45 (by decide) ?_
      refine mOk.goto (tgt := 50) dX9_keepsFirst_46 (by decide) ?_
      refine mOk.iadd dX9_keepsFirst_50 ?_
      refine mOk.top ((nI_add _ _)) ?_
      rw [← hst]
      refine mOk.istore1n dX9_keepsFirst_51 rfl (by decide) rfl ?_
      refine mOk.iinc4 dX9_keepsFirst_52 (mOk.inc1 rfl) (by decide) rfl ?_
      refine mOk.goto (tgt := 23) dX9_keepsFirst_55 (by decide) ?_
      exact ih (i + 1) (by omega)
theorem l_first1 (hM : Md I T) (hR : Ro I xs) (hv : okL T xs) (hQ : ∀ I', Md I' T → Ro I' (fst1 T 0 xs) → Of [18] [] I I' → Q none (hS sw I' J)) :
    ∀ (kk n : Nat) (l1 : Int32) (l4 : Option Value), kk ≤ xs.length → n ≤ xs.length → (n = xs.length ∨ 1 < cb T (xs.take (n + 1))) → (∀ j, kk ≤ j → j < n → cb T (xs.take (j + 1)) ≤ 1) → mOk mX9_keepsFirst 0 0 0 14 [some (.ref 97), some (.int l1), some (.int (nI n)), some (.int (nI kk - nI 1)), l4] [] (hS sw I J) 0 0 Q := by
  have hl := hR.1
  intro kk
  induction kk with
  | zero =>
    intro n l1 l4 hk hn h1 h2
    have e : fst1 T 0 xs = xs.take n := fst1_take xs 0 n hn (fun k hk => by rw [Nat.zero_add]; exact h2 k (Nat.zero_le _) hk) (by rw [Nat.zero_add]; exact h1)
    refine mOk.iload3n dX9_keepsFirst_14 rfl ?_
    refine mOk.iflt (tgt := 75) dX9_keepsFirst_15 (by decide) (fun c15 => ?_) (fun c15 => absurd ((by decide)) c15)
    refine mOk.aload0n dX9_keepsFirst_75 rfl ?_
    refine mOk.iload2n dX9_keepsFirst_76 rfl ?_
    refine mOk.putIt dX9_keepsFirst_77 fl_X9_157 (by first | assumption | rfl) ?_
    refine mOk.vret dX9_keepsFirst_80 rfl (by decide) ?_
    have o : Of [18] [] I (wI I 97 18 (nI n)) := Of.f (by decide)
    refine hQ _ (hM.of o (by decide) (by decide)) ?_ o
    rw [e]
    refine ⟨by rw [List.length_take]; omega, by rw [wI_s, List.length_take, Nat.min_eq_left hn], fun k c hc => ?_⟩
    have hkl := (List.getElem?_eq_some_iff.mp hc).1
    rw [List.length_take] at hkl
    rw [List.getElem?_take_of_lt (by omega)] at hc
    rw [wI_c (by decide)]
    exact hR.2.2 k c hc
  | succ kk ih =>
    intro n l1 l4 hk hn h1 h2
    have e1 : nI (kk + 1) - nI 1 = nI kk := nI_pred kk
    rw [e1]
    have hcb := cb_le T (xs.take (kk + 1))
    rw [List.length_take] at hcb
    refine mOk.iload3n dX9_keepsFirst_14 rfl ?_
    refine mOk.iflt (tgt := 75) dX9_keepsFirst_15 (by decide) (fun c15 => absurd c15 (nI_neg' (by omega))) (fun c15 => ?_)
    refine mOk.iconst (x := nI 0) dX9_keepsFirst_18 (by decide) ?_
    refine mOk.istore1n dX9_keepsFirst_19 rfl (by decide) rfl ?_
    refine mOk.iconst (x := nI 0) dX9_keepsFirst_20 (by decide) ?_
    refine mOk.istore4 dX9_keepsFirst_21 (by decide) rfl ?_
    refine l_first2 (n := n) hM hR hv (by omega) (fun l4 => ?_) (kk + 1) 0 (Nat.zero_add _)
    refine mOk.iload1n dX9_keepsFirst_58 rfl ?_
    refine mOk.iconst (x := nI 1) dX9_keepsFirst_59 (by decide) ?_
    refine mOk.icle (tgt := 67) dX9_keepsFirst_60 (by decide) (fun c60 => ?_) (fun c60 => ?_)
    · have z := (nI_le' (by omega) (by omega)).mp c60
      refine mOk.iload2n dX9_keepsFirst_67 rfl ?_
      refine mOk.istore2n dX9_keepsFirst_68 rfl (by decide) rfl ?_
      refine mOk.iinc3 (y := (nI kk - nI 1)) dX9_keepsFirst_69 (dec1 (nI kk)) (by decide) rfl ?_
      refine mOk.goto (tgt := 14) dX9_keepsFirst_72 (by decide) ?_
      refine ih n _ _ (by omega) hn h1 (fun j h3 h4 => ?_)
      rcases Nat.lt_or_ge kk j with w | w
      · exact h2 j w h4
      · rw [show j = kk by omega]
        exact z
    · have z := mt (nI_le' (by omega) (by omega)).mpr c60
      refine mOk.iload3n dX9_keepsFirst_63 rfl ?_
      refine mOk.goto (tgt := 68) dX9_keepsFirst_64 (by decide) ?_
      refine mOk.istore2n dX9_keepsFirst_68 rfl (by decide) rfl ?_
      refine mOk.iinc3 (y := (nI kk - nI 1)) dX9_keepsFirst_69 (dec1 (nI kk)) (by decide) rfl ?_
      refine mOk.goto (tgt := 14) dX9_keepsFirst_72 (by decide) ?_
      exact ih kk _ _ (by omega) (by omega) (Or.inr (by omega)) (fun j h3 h4 => by omega)
theorem c_first' (hM : Md I T) (hR : Ro I xs) (hv : okL T xs) (hQ : ∀ I', Md I' T → Ro I' (fst1 T 0 xs) → Of [18] [] I I' → Q none (hS sw I' J)) : mCl mX9_keepsFirst 0 0 0 [.ref 97] (hS sw I J) Q := by
  refine mCl.of (by decide) rfl (Nat.le_of_ble_eq_true rfl) ?_
  show mOk _ _ _ _ _ [some (.ref 97), none, none, none, none] _ _ _ _ _
  refine mOk.iconst (x := nI 0) dX9_keepsFirst_0 (by decide) ?_
  refine mOk.istore1n dX9_keepsFirst_1 rfl (by decide) rfl ?_
  refine mOk.aload0n dX9_keepsFirst_2 rfl ?_
  refine mOk.getIv dX9_keepsFirst_3 fl_X9_157 (by first | assumption | rfl) hR.2.1 ?_
  refine mOk.istore2n dX9_keepsFirst_6 rfl (by decide) rfl ?_
  refine mOk.aload0n dX9_keepsFirst_7 rfl ?_
  refine mOk.getIv dX9_keepsFirst_8 fl_X9_157 (by first | assumption | rfl) hR.2.1 ?_
  refine mOk.iconst (x := nI 1) dX9_keepsFirst_11 (by decide) ?_
  refine mOk.isub dX9_keepsFirst_12 ?_
  refine mOk.istore3n dX9_keepsFirst_13 rfl (by decide) rfl ?_
  exact l_first1 hM hR hv hQ xs.length xs.length _ none (Nat.le_refl _) (Nat.le_refl _) (Or.inl rfl) (fun j h1 h2 => by omega)
abbrev F2 : List Nat := [18, 20]
abbrev S2 : List Nat := [110, 111]
theorem c_rules {r : Nat} (hr : r < 6) (hT : TOk T) (hM : Md I T) (hR : Ro I xs) (hv : okL T xs) (hl : pcs T xs ≤ 128) (hQ : ∀ I', Md I' T → Ro I' (ruleF T r xs) → Of F2 S2 I I' → Q none (hS sw I' J)) : mCl mX9_rules 2 0 0 [.ref 97, .int (nI r)] (hS sw I J) Q := by
  have ap : ∀ (kk : ∀ I', Md I' T → Ro I' (apart T xs) → Of F2 S2 I I' → mOk mX9_rules 2 0 0 22 [some (.ref 97), some (.int (nI r))] [] (hS sw I' J) 0 0 Q), mOk mX9_rules 2 0 0 14 [some (.ref 97), some (.int (nI r))] [] (hS sw I J) 0 0 Q := by
    intro kk
    refine mOk.aload0n dX9_rules_14 rfl ?_
    refine mOk.callV0 (M' := mX9_comeApart) dX9_rules_15 ml_X9_172 ke_X9_comeApart (by first | assumption | rfl) (by decide) (by decide) (by simp [Value.category]) (c_comeApart hM hR hv hl ?_)
    intro I1 hM1 hR1 ho1
    have hv1 : okL T (xs.flatMap (tP T)) := fun p hp => by
      rw [List.mem_flatMap] at hp
      obtain ⟨c, hc, hp⟩ := hp
      exact ((hT.all c (hv c hc)).2.2.2.2.1 p hp).1
    refine mOk.aload0n dX9_rules_18 rfl ?_
    refine mOk.callV0 (M' := mX9_sorts) dX9_rules_19 ml_X9_175 ke_X9_sorts (by first | assumption | rfl) (by decide) (by decide) (by simp [Value.category]) (c_msort hT hM1 hR1 hv1 ?_)
    intro I2 hM2 hR2 ho2
    exact kk I2 hM2 hR2 (ho1.tr (ho2.up (by decide) (by decide)))
  have hpl := apart_pl hT hv
  refine mCl.of (by decide) rfl (Nat.le_of_ble_eq_true rfl) ?_
  show mOk _ _ _ _ _ [some (.ref 97), some (.int (nI r))] _ _ _ _ _
  rcases (show r = 0 ∨ r = 1 ∨ r = 2 ∨ r = 3 ∨ r = 4 ∨ r = 5 by omega) with rfl | rfl | rfl | rfl | rfl | rfl
  · refine mOk.iload1n dX9_rules_0 rfl ?_
    refine mOk.ifeq (tgt := 14) dX9_rules_1 (by decide) (fun c1 => ?_) (fun c1 => absurd (rfl) c1)
    refine ap (fun I1 hM1 hR1 ho1 => ?_)
    refine mOk.iload1n dX9_rules_22 rfl ?_
    refine mOk.tableOut (tgt := 91) dX9_rules_23 (Or.inl (by decide)) (by decide) ?_
    refine mOk.vret dX9_rules_91 rfl (by decide) ?_
    exact hQ I1 hM1 hR1 ho1
  · refine mOk.iload1n dX9_rules_0 rfl ?_
    refine mOk.ifeq (tgt := 14) dX9_rules_1 (by decide) (fun c1 => absurd c1 ((by decide))) (fun c1 => ?_)
    refine mOk.iload1n dX9_rules_4 rfl ?_
    refine mOk.iconst (x := nI 1) dX9_rules_5 (by decide) ?_
    refine mOk.iceq (tgt := 14) dX9_rules_6 (by decide) (fun c6 => ?_) (fun c6 => absurd (rfl) c6)
    refine ap (fun I1 hM1 hR1 ho1 => ?_)
    refine mOk.iload1n dX9_rules_22 rfl ?_
    refine mOk.tableIn (off := 33) (tgt := 56) dX9_rules_23 (by decide) (by decide) (by decide) (by decide) ?_
    refine mOk.aload0n dX9_rules_56 rfl ?_
    refine mOk.callV0 (M' := mX9_joins) dX9_rules_57 ml_X9_178 ke_X9_joins (by first | assumption | rfl) (by decide) (by decide) (by simp [Value.category]) (c_joins hT hM1 hR1 hpl ?_)
    intro I2 hM2 hR2 ho2
    refine mOk.goto (tgt := 91) dX9_rules_60 (by decide) ?_
    refine mOk.vret dX9_rules_91 rfl (by decide) ?_
    exact hQ I2 hM2 hR2 (ho1.tr ho2)
  · refine mOk.iload1n dX9_rules_0 rfl ?_
    refine mOk.ifeq (tgt := 14) dX9_rules_1 (by decide) (fun c1 => absurd c1 ((by decide))) (fun c1 => ?_)
    refine mOk.iload1n dX9_rules_4 rfl ?_
    refine mOk.iconst (x := nI 1) dX9_rules_5 (by decide) ?_
    refine mOk.iceq (tgt := 14) dX9_rules_6 (by decide) (fun c6 => absurd c6 ((by decide))) (fun c6 => ?_)
    refine mOk.iload1n dX9_rules_9 rfl ?_
    refine mOk.iconst (x := nI 3) dX9_rules_10 (by decide) ?_
    refine mOk.icne (tgt := 22) dX9_rules_11 (by decide) (fun c11 => ?_) (fun c11 => absurd c11 ((by decide)))
    refine mOk.iload1n dX9_rules_22 rfl ?_
    refine mOk.tableIn (off := 40) (tgt := 63) dX9_rules_23 (by decide) (by decide) (by decide) (by decide) ?_
    refine mOk.aload0n dX9_rules_63 rfl ?_
    refine mOk.callV0 (M' := mX9_sorts) dX9_rules_64 ml_X9_175 ke_X9_sorts (by first | assumption | rfl) (by decide) (by decide) (by simp [Value.category]) (c_msort hT hM hR hv ?_)
    intro I2 hM2 hR2 ho2
    refine mOk.goto (tgt := 91) dX9_rules_67 (by decide) ?_
    refine mOk.vret dX9_rules_91 rfl (by decide) ?_
    exact hQ I2 hM2 hR2 (ho2.up (by decide) (by decide))
  · refine mOk.iload1n dX9_rules_0 rfl ?_
    refine mOk.ifeq (tgt := 14) dX9_rules_1 (by decide) (fun c1 => absurd c1 ((by decide))) (fun c1 => ?_)
    refine mOk.iload1n dX9_rules_4 rfl ?_
    refine mOk.iconst (x := nI 1) dX9_rules_5 (by decide) ?_
    refine mOk.iceq (tgt := 14) dX9_rules_6 (by decide) (fun c6 => absurd c6 ((by decide))) (fun c6 => ?_)
    refine mOk.iload1n dX9_rules_9 rfl ?_
    refine mOk.iconst (x := nI 3) dX9_rules_10 (by decide) ?_
    refine mOk.icne (tgt := 22) dX9_rules_11 (by decide) (fun c11 => absurd (rfl) c11) (fun c11 => ?_)
    refine ap (fun I1 hM1 hR1 ho1 => ?_)
    refine mOk.iload1n dX9_rules_22 rfl ?_
    refine mOk.tableIn (off := 47) (tgt := 70) dX9_rules_23 (by decide) (by decide) (by decide) (by decide) ?_
    refine mOk.aload0n dX9_rules_70 rfl ?_
    refine mOk.callV0 (M' := mX9_keepsBases) dX9_rules_71 ml_X9_181 ke_X9_keepsBases (by first | assumption | rfl) (by decide) (by decide) (by simp [Value.category]) (c_bases hM1 hR1 (fun c hc => (hpl c hc).1) ?_)
    intro I2 hM2 hR2 ho2
    refine mOk.goto (tgt := 91) dX9_rules_74 (by decide) ?_
    refine mOk.vret dX9_rules_91 rfl (by decide) ?_
    exact hQ I2 hM2 hR2 (ho1.tr ho2)
  · refine mOk.iload1n dX9_rules_0 rfl ?_
    refine mOk.ifeq (tgt := 14) dX9_rules_1 (by decide) (fun c1 => absurd c1 ((by decide))) (fun c1 => ?_)
    refine mOk.iload1n dX9_rules_4 rfl ?_
    refine mOk.iconst (x := nI 1) dX9_rules_5 (by decide) ?_
    refine mOk.iceq (tgt := 14) dX9_rules_6 (by decide) (fun c6 => absurd c6 ((by decide))) (fun c6 => ?_)
    refine mOk.iload1n dX9_rules_9 rfl ?_
    refine mOk.iconst (x := nI 3) dX9_rules_10 (by decide) ?_
    refine mOk.icne (tgt := 22) dX9_rules_11 (by decide) (fun c11 => ?_) (fun c11 => absurd c11 ((by decide)))
    refine mOk.iload1n dX9_rules_22 rfl ?_
    refine mOk.tableIn (off := 54) (tgt := 77) dX9_rules_23 (by decide) (by decide) (by decide) (by decide) ?_
    refine mOk.aload0n dX9_rules_77 rfl ?_
    refine mOk.callV0 (M' := mX9_turns) dX9_rules_78 ml_X9_184 ke_X9_turns (by first | assumption | rfl) (by decide) (by decide) (by simp [Value.category]) (c_turns hR ?_)
    intro I2 hR2 ho2
    refine mOk.goto (tgt := 91) dX9_rules_81 (by decide) ?_
    refine mOk.vret dX9_rules_91 rfl (by decide) ?_
    exact hQ I2 (hM.of ho2 (by decide) (by decide)) hR2 ho2
  · refine mOk.iload1n dX9_rules_0 rfl ?_
    refine mOk.ifeq (tgt := 14) dX9_rules_1 (by decide) (fun c1 => absurd c1 ((by decide))) (fun c1 => ?_)
    refine mOk.iload1n dX9_rules_4 rfl ?_
    refine mOk.iconst (x := nI 1) dX9_rules_5 (by decide) ?_
    refine mOk.iceq (tgt := 14) dX9_rules_6 (by decide) (fun c6 => absurd c6 ((by decide))) (fun c6 => ?_)
    refine mOk.iload1n dX9_rules_9 rfl ?_
    refine mOk.iconst (x := nI 3) dX9_rules_10 (by decide) ?_
    refine mOk.icne (tgt := 22) dX9_rules_11 (by decide) (fun c11 => ?_) (fun c11 => absurd c11 ((by decide)))
    refine mOk.iload1n dX9_rules_22 rfl ?_
    refine mOk.tableIn (off := 61) (tgt := 84) dX9_rules_23 (by decide) (by decide) (by decide) (by decide) ?_
    refine mOk.aload0n dX9_rules_84 rfl ?_
    refine mOk.callV0 (M' := mX9_keepsFirst) dX9_rules_85 ml_X9_187 ke_X9_keepsFirst (by first | assumption | rfl) (by decide) (by decide) (by simp [Value.category]) (c_first' hM hR hv ?_)
    intro I2 hM2 hR2 ho2
    refine mOk.goto (tgt := 91) dX9_rules_88 (by decide) ?_
    refine mOk.vret dX9_rules_91 rfl (by decide) ?_
    exact hQ I2 hM2 hR2 (ho2.up (by decide) (by decide))
theorem c_told {i : Int32} (hR : Ro I xs) (hQ : Q (some (.int (lk xs i))) (hS sw I J)) : mCl mX9_told 1 0 0 [.ref 97, .int i] (hS sw I J) Q := by
  have hl := hR.1
  refine mCl.of (by decide) rfl (Nat.le_of_ble_eq_true rfl) ?_
  show mOk _ _ _ _ _ [some (.ref 97), some (.int i)] _ _ _ _ _
  by_cases e : i = -1
  · subst e
    rw [lk_m1] at hQ
    have hn : ¬ nI xs.length - nI 1 < (-1 : Int32) := by
      rw [Int32.lt_iff_toInt_lt, pk_sub_toInt (by omega) (by omega)]
      show ¬ ((xs.length : Int) - (1 : Nat) < -1)
      omega
    refine mOk.iload1n dX9_told_0 rfl ?_
    refine mOk.iconst (x := -1) dX9_told_1 (by decide) ?_
    refine mOk.aload0n dX9_told_2 rfl ?_
    refine mOk.getIv dX9_told_3 fl_X9_157 (by first | assumption | rfl) hR.2.1 ?_
    refine mOk.iconst (x := nI 1) dX9_told_6 (by decide) ?_
    refine mOk.isub dX9_told_7 ?_
    refine mOk.callS3 (M' := mX9_in) dX9_told_8 ml_X9_66 ke_X9_in rfl (by decide) (by decide) (by simp [Value.category]) (c_in_y (by decide) hn ?_)
    refine mOk.ifne (tgt := 16) dX9_told_11 (by decide) (fun c11 => ?_) (fun c11 => absurd c11 ((by decide)))
    refine mOk.iload1n dX9_told_16 rfl ?_
    refine mOk.iconst (x := -1) dX9_told_17 (by decide) ?_
    refine mOk.icne (tgt := 28) dX9_told_18 (by decide) (fun c18 => absurd (rfl) c18) (fun c18 => ?_)
    refine mOk.aload0n dX9_told_21 rfl ?_
    refine mOk.getIv dX9_told_22 fl_X9_157 (by first | assumption | rfl) hR.2.1 ?_
    refine mOk.goto (tgt := 34) dX9_told_25 (by decide) ?_
    refine mOk.iret dX9_told_34 rfl hQ
  · rcases ixc i (show xs.length < 100000 by omega) with z | ⟨j, hj, rfl⟩
    · rw [lk_out e z] at hQ
      have hn : i < (-1 : Int32) ∨ nI xs.length - nI 1 < i := by
        rcases z with z | z
        · left
          rw [Int32.lt_iff_toInt_lt] at z ⊢
          have : i.toInt ≠ -1 := fun w => e (by rw [← Int32.toInt_inj]; exact w)
          have z0 : i.toInt < 0 := z
          show i.toInt < -1
          omega
        · exact Or.inr (lt_pred (by omega) z)
      refine mOk.iload1n dX9_told_0 rfl ?_
      refine mOk.iconst (x := -1) dX9_told_1 (by decide) ?_
      refine mOk.aload0n dX9_told_2 rfl ?_
      refine mOk.getIv dX9_told_3 fl_X9_157 (by first | assumption | rfl) hR.2.1 ?_
      refine mOk.iconst (x := nI 1) dX9_told_6 (by decide) ?_
      refine mOk.isub dX9_told_7 ?_
      refine mOk.callS3 (M' := mX9_in) dX9_told_8 ml_X9_66 ke_X9_in rfl (by decide) (by decide) (by simp [Value.category]) (c_in_n hn ?_)
      refine mOk.ifne (tgt := 16) dX9_told_11 (by decide) (fun c11 => absurd (rfl) c11) (fun c11 => ?_)
      refine mOk.iconst (x := -1) dX9_told_14 (by decide) ?_
      refine mOk.iret dX9_told_15 rfl hQ
    · rw [lk_in (by omega) hj] at hQ
      have hn : ¬ nI j < (-1 : Int32) := by
        rw [Int32.lt_iff_toInt_lt, nI_toInt (by omega)]
        show ¬ ((j : Int) < -1)
        omega
      refine mOk.iload1n dX9_told_0 rfl ?_
      refine mOk.iconst (x := -1) dX9_told_1 (by decide) ?_
      refine mOk.aload0n dX9_told_2 rfl ?_
      refine mOk.getIv dX9_told_3 fl_X9_157 (by first | assumption | rfl) hR.2.1 ?_
      refine mOk.iconst (x := nI 1) dX9_told_6 (by decide) ?_
      refine mOk.isub dX9_told_7 ?_
      refine mOk.callS3 (M' := mX9_in) dX9_told_8 ml_X9_66 ke_X9_in rfl (by decide) (by decide) (by simp [Value.category]) (c_in_y hn (nlt_pred (by omega) hj) ?_)
      refine mOk.ifne (tgt := 16) dX9_told_11 (by decide) (fun c11 => ?_) (fun c11 => absurd c11 ((by decide)))
      refine mOk.iload1n dX9_told_16 rfl ?_
      refine mOk.iconst (x := -1) dX9_told_17 (by decide) ?_
      refine mOk.icne (tgt := 28) dX9_told_18 (by decide) (fun c18 => ?_) (fun c18 => absurd c18 (e))
      refine mOk.aload0n dX9_told_28 rfl ?_
      refine mOk.getR dX9_told_29 fl_X9_46 (by first | assumption | rfl) (by first | assumption | rfl) ?_
      refine mOk.iload1n dX9_told_32 rfl ?_
      refine mOk.ialdv dX9_told_33 (by first | assumption | rfl) rfl (by omega) (by first | assumption | decide | omega) (hR.at hj) ?_
      refine mOk.iret dX9_told_34 rfl hQ
end MODEL11
