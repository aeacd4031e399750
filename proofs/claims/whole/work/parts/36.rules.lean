/-! ===== Rules: apart, bases alone, back, first, whether sorted ===== -/
def apart (T : List CR) (xs : List Int32) : List Int32 := srt (tC T) (xs.flatMap (tP T))
def bare (T : List CR) (xs : List Int32) : List Int32 := xs.filter (fun c => decide (tC T c = 0))
def fst1 (T : List CR) : Nat → List Int32 → List Int32
  | _, [] => []
  | b, c :: cs => if 1 < b + (if tC T c = 0 then 1 else 0) then [] else c :: fst1 T (b + (if tC T c = 0 then 1 else 0)) cs
/-- neighbours are in order (from i on) -/
def srtd (key : Int32 → Int32) : List Int32 → Bool
  | x :: y :: ys => (decide (key y = 0) || decide (key x ≤ key y)) && srtd key (y :: ys)
  | _ => true
theorem fst1_len (T : List CR) : ∀ (xs : List Int32) (b : Nat), (fst1 T b xs).length ≤ xs.length
  | [], _ => by simp [fst1]
  | c :: cs, b => by
    unfold fst1
    generalize b + (if tC T c = 0 then 1 else 0) = b'
    split
    · simp
    · have := fst1_len T cs b'
      simp
      omega
theorem dec1 (x : Int32) : x + Int32.ofInt (-1) = x - 1 := by rw [Int32.sub_eq_add_neg]; rfl
section RULES
variable {sw : Bool} {I : Nat → Nat → Int32} {J : Nat → Nat → Int64} {cb : Nat} {T : List CR} {Q : Option Value → mi_H → Prop} {t ta tcap f fa fcap ru : Nat} {xs : List Int32}
/-- the pieces of one code are pushed -/
theorem l_apart2 {I0 : Nat → Nat → Int32} (hdj : ∀ a ∈ cS cb, a ∉ [t, ta]) (hf1 : f ∉ [t, ta]) (hf2 : fa ∉ [t, ta]) {c : Int32} {i : Nat} {out : List Int32} (hfit : out.length + (tP T c).length ≤ tcap) 
    (hk : ∀ I', Cd I' cb T → Rw I' f fa fcap xs → Rw I' t ta tcap (out ++ tP T c) → Off [t, ta] I0 I' → ∀ l6, mOk mX6_takeApart 3 0 0 53 [some (.ref ru), some (.ref cb), some (.ref f), some (.ref t), some (.int (nI i)), some (.int c), some (.int l6)] [] (hS sw I' J) 0 0 Q) :
    ∀ (m k : Nat) (I : Nat → Nat → Int32), k + m = (tP T c).length → Cd I cb T → Rw I f fa fcap xs → Rw I t ta tcap (out ++ (tP T c).take k) → Off [t, ta] I0 I →
    mOk mX6_takeApart 3 0 0 23 [some (.ref ru), some (.ref cb), some (.ref f), some (.ref t), some (.int (nI i)), some (.int c), some (.int (nI k))] [] (hS sw I J) 0 0 Q := by
  intro m
  induction m with
  | zero =>
    intro k I hkm hc hf ht ho
    obtain ⟨k0, -⟩ := cdK hc.1
    have h4 := hc.le4 c
    refine mOk.iload6 dX6_takeApart_23 ?_
    refine mOk.aload1n dX6_takeApart_25 rfl ?_
    refine mOk.iload5 dX6_takeApart_26 ?_
    refine mOk.callV1 (M' := mX1_pieceCount) dX6_takeApart_28 ml_X6_75 ke_X1_pieceCount (by first | assumption | rfl) (by decide) (by decide) (by simp [Value.category]) (c_pieceCount hc ?_)
    refine mOk.icge (tgt := 53) dX6_takeApart_31 (by decide) (fun c31 => ?_) (fun c31 => absurd ((nI_le' (by omega) (by omega)).mpr (by omega)) c31)
    rw [List.take_of_length_le (by omega)] at ht
    exact hk I hc hf ht ho _
  | succ m ih =>
    intro k I hkm hc hf ht ho
    obtain ⟨k0, -⟩ := cdK hc.1
    obtain ⟨t0, -⟩ := id ht.1
    have h4 := hc.le4 c
    refine mOk.iload6 dX6_takeApart_23 ?_
    refine mOk.aload1n dX6_takeApart_25 rfl ?_
    refine mOk.iload5 dX6_takeApart_26 ?_
    refine mOk.callV1 (M' := mX1_pieceCount) dX6_takeApart_28 ml_X6_75 ke_X1_pieceCount (by first | assumption | rfl) (by decide) (by decide) (by simp [Value.category]) (c_pieceCount hc ?_)
    refine mOk.icge (tgt := 53) dX6_takeApart_31 (by decide) (fun c31 => absurd c31 (mt (nI_le' (by omega) (by omega)).mp (by omega))) (fun c31 => ?_)
    refine mOk.aload3n dX6_takeApart_34 rfl ?_
    refine mOk.aload1n dX6_takeApart_35 rfl ?_
    refine mOk.iload5 dX6_takeApart_36 ?_
    refine mOk.iload6 dX6_takeApart_38 ?_
    refine mOk.callV2 (M' := mX1_piece) dX6_takeApart_40 ml_X6_78 ke_X1_piece (by first | assumption | rfl) (by decide) (by decide) (by simp [Value.category]) (c_piece hc (by omega) ?_)
    refine mOk.callV1 (M' := mX5_push) dX6_takeApart_43 ml_X6_82 ke_X5_push (by first | assumption | rfl) (by decide) (by decide) (by simp [Value.category]) (c_push ht (by simp; omega) ?_)
    intro I' ht' ho'
    refine mOk.pop dX6_takeApart_46 rfl ?_
    refine mOk.iinc6 dX6_takeApart_47 (mOk.inc1 rfl) (by decide) rfl ?_
    refine mOk.goto (tgt := 23) dX6_takeApart_50 (by decide) ?_
    refine ih (k + 1) I' (by omega) (hc.off ho' hdj) (hf.off ho' hf1 hf2) ?_ (ho.tr ho')
    rw [take_s (by omega), ← List.append_assoc]
    exact ht'
theorem l_apart {I0 : Nat → Nat → Int32} (ru0 : KK[ru]? = some (6, 2)) (hdj : ∀ a ∈ cS cb, a ∉ [t, ta]) (hf1 : f ∉ [t, ta]) (hf2 : fa ∉ [t, ta]) (hfit : (xs.flatMap (tP T)).length ≤ tcap)
    (hQ : ∀ I', Cd I' cb T → Rw I' t ta tcap (apart T xs) → Off [t, ta] I0 I' → Q none (hS sw I' J)) :
    ∀ (m i : Nat) (I : Nat → Nat → Int32) (l5 l6 : Option Value), i + m = xs.length → Cd I cb T → Rw I f fa fcap xs → Rw I t ta tcap ((xs.take i).flatMap (tP T)) → Off [t, ta] I0 I →
    mOk mX6_takeApart 3 0 0 3 [some (.ref ru), some (.ref cb), some (.ref f), some (.ref t), some (.int (nI i)), l5, l6] [] (hS sw I J) 0 0 Q := by
  intro m
  induction m with
  | zero =>
    intro i I l5 l6 him hc hf ht ho
    obtain ⟨f0, -⟩ := id hf.1
    have b1 := hf.1.2.2.2.1
    have b2 := hf.2.1
    refine mOk.iload4 dX6_takeApart_3 ?_
    refine mOk.aload2n dX6_takeApart_5 rfl ?_
    refine mOk.callV0 (M' := mX5_length) dX6_takeApart_6 ml_X6_58 ke_X5_length (by first | assumption | rfl) (by decide) (by decide) (by simp [Value.category]) (c_length hf ?_)
    refine mOk.icge (tgt := 59) dX6_takeApart_9 (by decide) (fun c9 => ?_) (fun c9 => absurd ((nI_le' (by omega) (by omega)).mpr (by omega)) c9)
    rw [List.take_of_length_le (by omega)] at ht
    refine mOk.aload0n dX6_takeApart_59 rfl ?_
    refine mOk.aload1n dX6_takeApart_60 rfl ?_
    refine mOk.aload3n dX6_takeApart_61 rfl ?_
    refine mOk.callV2 (M' := mX6_sort) dX6_takeApart_62 ml_X6_38 ke_X6_sort ru0 (by decide) (by decide) (by simp [Value.category]) (c_sort hc ht hdj ?_)
    intro I' hc' ht' ho'
    refine mOk.vret dX6_takeApart_65 rfl (by decide) ?_
    exact hQ I' hc' ht' (ho.tr ho')
  | succ m ih =>
    intro i I l5 l6 him hc hf ht ho
    obtain ⟨f0, -⟩ := id hf.1
    have b1 := hf.1.2.2.2.1
    have b2 := hf.2.1
    have hc4 := hc.le4 (xs.getD i (-9))
    have hsp : xs.flatMap (tP T) = (xs.take i).flatMap (tP T) ++ (tP T (xs.getD i (-9)) ++ (xs.drop (i + 1)).flatMap (tP T)) := by
      rw [← List.flatMap_cons, ← drop_c (by omega), ← List.flatMap_append, List.take_append_drop]
    have hlen := congrArg List.length hsp
    simp only [List.length_append] at hlen
    refine mOk.iload4 dX6_takeApart_3 ?_
    refine mOk.aload2n dX6_takeApart_5 rfl ?_
    refine mOk.callV0 (M' := mX5_length) dX6_takeApart_6 ml_X6_58 ke_X5_length (by first | assumption | rfl) (by decide) (by decide) (by simp [Value.category]) (c_length hf ?_)
    refine mOk.icge (tgt := 59) dX6_takeApart_9 (by decide) (fun c9 => absurd c9 (mt (nI_le' (by omega) (by omega)).mp (by omega))) (fun c9 => ?_)
    refine mOk.aload2n dX6_takeApart_12 rfl ?_
    refine mOk.iload4 dX6_takeApart_13 ?_
    refine mOk.callV1 (M' := mX5_cell) dX6_takeApart_15 ml_X6_62 ke_X5_cell (by first | assumption | rfl) (by decide) (by decide) (by simp [Value.category]) (c_cell_in hf (by omega) ?_)
    refine mOk.istore5 dX6_takeApart_18 (by decide) rfl ?_
    refine mOk.iconst (x := nI 0) dX6_takeApart_20 (by decide) ?_
    refine mOk.istore6 dX6_takeApart_21 (by decide) rfl ?_
    refine l_apart2 (I0 := I0) (xs := xs) (fcap := fcap) (tcap := tcap) (out := (xs.take i).flatMap (tP T)) hdj hf1 hf2 (by omega) (fun I' hc' hf' ht' ho' l6 => ?_) (tP T (xs.getD i (-9))).length 0 I (Nat.zero_add _) hc hf (by simpa using ht) ho
    refine mOk.iinc4 dX6_takeApart_53 (mOk.inc1 rfl) (by decide) rfl ?_
    refine mOk.goto (tgt := 3) dX6_takeApart_56 (by decide) ?_
    refine ih (i + 1) I' _ _ (by omega) hc' hf' ?_ ho'
    rw [take_s (by omega), List.flatMap_append]
    simpa using ht'
theorem c_apart (hru : KK[ru]? = some (6, 2)) (hc : Cd I cb T) (hf : Rw I f fa fcap xs) (ht : Rw I t ta tcap []) (hdj : ∀ a ∈ cS cb, a ∉ [t, ta]) (hf1 : f ∉ [t, ta]) (hf2 : fa ∉ [t, ta]) (hfit : (xs.flatMap (tP T)).length ≤ tcap)
    (hQ : ∀ I', Cd I' cb T → Rw I' t ta tcap (apart T xs) → Off [t, ta] I I' → Q none (hS sw I' J)) : mCl mX6_takeApart 3 0 0 [.ref ru, .ref cb, .ref f, .ref t] (hS sw I J) Q := by
  refine mCl.of (by decide) rfl (Nat.le_of_ble_eq_true rfl) ?_
  show mOk _ _ _ _ _ [some (.ref ru), some (.ref cb), some (.ref f), some (.ref t), none, none, none] _ _ _ _ _
  refine mOk.iconst (x := nI 0) dX6_takeApart_0 (by decide) ?_
  refine mOk.istore4 dX6_takeApart_1 (by decide) rfl ?_
  exact l_apart hru hdj hf1 hf2 hfit hQ _ 0 I _ _ (Nat.zero_add _) hc hf ht Off.rf
/-- those that are left come ahead -/
theorem l_bare {I0 : Nat → Nat → Int32} (hdj : ∀ a ∈ cS cb, a ∉ [t, ta]) (hQ : ∀ I', Cd I' cb T → Rw I' t ta tcap (bare T xs) → Off [t, ta] I0 I' → Q none (hS sw I' J)) :
    ∀ (rest out jk : List Int32) (i : Nat) (I : Nat → Nat → Int32) (l6 : Option Value), out.length + jk.length = i → i + rest.length = xs.length → Cd I cb T → Rw I t ta tcap (out ++ (jk ++ rest)) → bare T xs = out ++ bare T rest → Off [t, ta] I0 I →
    mOk mX6_dropMarks 3 0 0 11 [some (.ref ru), some (.ref cb), some (.ref t), some (.int (nI xs.length)), some (.int (nI out.length)), some (.int (nI i)), l6] [] (hS sw I J) 0 0 Q := by
  intro rest
  induction rest with
  | nil =>
    intro out jk i I l6 h1 h2 hc ht hb ho
    obtain ⟨t0, -⟩ := id ht.1
    have b1 := ht.1.2.2.2.1
    have b2 := ht.2.1
    simp only [List.length_append, List.length_nil] at b2 h2
    refine mOk.iload5 dX6_dropMarks_11 ?_
    refine mOk.iload3n dX6_dropMarks_13 rfl ?_
    refine mOk.icge (tgt := 51) dX6_dropMarks_14 (by decide) (fun c14 => ?_) (fun c14 => absurd ((nI_le' (by omega) (by omega)).mpr (by omega)) c14)
    refine mOk.aload2n dX6_dropMarks_51 rfl ?_
    refine mOk.iload4 dX6_dropMarks_52 ?_
    refine mOk.callV1 (M' := mX5_shorten) dX6_dropMarks_54 ml_X6_100 ke_X5_shorten (by first | assumption | rfl) (by decide) (by decide) (by simp [Value.category]) (c_shorten ht (by simp) ?_)
    intro I' ht' ho'
    refine mOk.vret dX6_dropMarks_57 rfl (by decide) ?_
    refine hQ I' (hc.off ho' hdj) ?_ (ho.tr ho')
    rw [List.take_left] at ht'
    rw [hb]
    simpa [bare] using ht'
  | cons c rest ih =>
    intro out jk i I l6 h1 h2 hc ht hb ho
    obtain ⟨k0, -⟩ := cdK hc.1
    obtain ⟨t0, -⟩ := id ht.1
    have b1 := ht.1.2.2.2.1
    have b2 := ht.2.1
    simp only [List.length_append, List.length_cons] at b2 h2
    have hget : (out ++ (jk ++ c :: rest)).getD i (-9) = c := by
      rw [← List.append_assoc, show i = (out ++ jk).length by simp [h1], getD_mid]
    refine mOk.iload5 dX6_dropMarks_11 ?_
    refine mOk.iload3n dX6_dropMarks_13 rfl ?_
    refine mOk.icge (tgt := 51) dX6_dropMarks_14 (by decide) (fun c14 => absurd c14 (mt (nI_le' (by omega) (by omega)).mp (by omega))) (fun c14 => ?_)
    refine mOk.aload2n dX6_dropMarks_17 rfl ?_
    refine mOk.iload5 dX6_dropMarks_18 ?_
    refine mOk.callV1 (M' := mX5_cell) dX6_dropMarks_20 ml_X6_62 ke_X5_cell (by first | assumption | rfl) (by decide) (by decide) (by simp [Value.category]) (c_cell_in ht (by simp; omega) ?_)
    rw [hget]
    refine mOk.istore6 dX6_dropMarks_23 (by decide) rfl ?_
    refine mOk.aload1n dX6_dropMarks_25 rfl ?_
    refine mOk.iload6 dX6_dropMarks_26 ?_
    refine mOk.callV1 (M' := mX1_isBase) dX6_dropMarks_28 ml_X6_66 ke_X1_isBase (by first | assumption | rfl) (by decide) (by decide) (by simp [Value.category]) (c_isBase hc ?_)
    by_cases h0 : tC T c = 0
    · rw [if_pos h0]
      refine mOk.ifeq (tgt := 45) dX6_dropMarks_31 (by decide) (fun c31 => absurd c31 ((by decide))) (fun c31 => ?_)
      refine mOk.aload2n dX6_dropMarks_34 rfl ?_
      refine mOk.iload4 dX6_dropMarks_35 ?_
      refine mOk.iload6 dX6_dropMarks_37 ?_
      refine mOk.callV2 (M' := mX5_setCell) dX6_dropMarks_39 ml_X6_91 ke_X5_setCell (by first | assumption | rfl) (by decide) (by decide) (by simp [Value.category]) (c_setCell ht (by simp; omega) ?_)
      intro I' ht' ho'
      refine mOk.iinc4 dX6_dropMarks_42 (mOk.inc1 rfl) (by decide) rfl ?_
      refine mOk.iinc5 dX6_dropMarks_45 (mOk.inc1 rfl) (by decide) rfl ?_
      refine mOk.goto (tgt := 11) dX6_dropMarks_48 (by decide) ?_
      have e : ∃ jk', (out ++ (jk ++ c :: rest)).set out.length c = (out ++ [c]) ++ (jk' ++ rest) ∧ jk'.length = jk.length := by
        cases jk with
        | nil => exact ⟨[], by rw [List.nil_append, set_mid]; simp, rfl⟩
        | cons y ys => exact ⟨ys ++ [c], by rw [List.cons_append, set_mid]; simp, by simp⟩
      obtain ⟨jk', e1, e2⟩ := e
      rw [e1] at ht'
      have := ih (out ++ [c]) jk' (i + 1) I' (some (.int c)) (by simp; omega) (by omega) (hc.off ho' hdj) ht' (by rw [hb]; simp [bare, h0]) (ho.tr ho')
      simpa using this
    · rw [if_neg h0]
      refine mOk.ifeq (tgt := 45) dX6_dropMarks_31 (by decide) (fun c31 => ?_) (fun c31 => absurd (rfl) c31)
      refine mOk.iinc5 dX6_dropMarks_45 (mOk.inc1 rfl) (by decide) rfl ?_
      refine mOk.goto (tgt := 11) dX6_dropMarks_48 (by decide) ?_
      exact ih out (jk ++ [c]) (i + 1) I (some (.int c)) (by simp; omega) (by omega) hc (by simpa using ht) (by rw [hb]; simp [bare, h0]) ho
theorem c_bare (hc : Cd I cb T) (ht : Rw I t ta tcap xs) (hdj : ∀ a ∈ cS cb, a ∉ [t, ta]) (hQ : ∀ I', Cd I' cb T → Rw I' t ta tcap (bare T xs) → Off [t, ta] I I' → Q none (hS sw I' J)) : mCl mX6_dropMarks 3 0 0 [.ref ru, .ref cb, .ref t] (hS sw I J) Q := by
  obtain ⟨t0, -⟩ := id ht.1
  refine mCl.of (by decide) rfl (Nat.le_of_ble_eq_true rfl) ?_
  show mOk _ _ _ _ _ [some (.ref ru), some (.ref cb), some (.ref t), none, none, none, none] _ _ _ _ _
  refine mOk.aload2n dX6_dropMarks_0 rfl ?_
  refine mOk.callV0 (M' := mX5_length) dX6_dropMarks_1 ml_X6_58 ke_X5_length (by first | assumption | rfl) (by decide) (by decide) (by simp [Value.category]) (c_length ht ?_)
  refine mOk.istore3n dX6_dropMarks_4 rfl (by decide) rfl ?_
  refine mOk.iconst (x := nI 0) dX6_dropMarks_5 (by decide) ?_
  refine mOk.istore4 dX6_dropMarks_6 (by decide) rfl ?_
  refine mOk.iconst (x := nI 0) dX6_dropMarks_8 (by decide) ?_
  refine mOk.istore5 dX6_dropMarks_9 (by decide) rfl ?_
  exact l_bare hdj hQ xs [] [] 0 I _ rfl (Nat.zero_add _) hc ht rfl Off.rf
theorem l_turn {I0 : Nat → Nat → Int32} (hf1 : f ∉ [t, ta]) (hf2 : fa ∉ [t, ta]) (hfit : xs.length ≤ tcap) (hQ : ∀ I', Rw I' t ta tcap xs.reverse → Off [t, ta] I0 I' → Q none (hS sw I' J)) :
    ∀ (m : Nat) (i : Int32) (I : Nat → Nat → Int32), i = nI m - 1 → m ≤ xs.length → Rw I f fa fcap xs → Rw I t ta tcap ((xs.drop m).reverse) → Off [t, ta] I0 I →
    mOk mX6_turn 2 0 0 7 [some (.ref ru), some (.ref f), some (.ref t), some (.int i)] [] (hS sw I J) 0 0 Q := by
  intro m
  induction m with
  | zero =>
    intro i I hi hm hf ht ho
    subst hi
    refine mOk.iload3n dX6_turn_7 rfl ?_
    refine mOk.iflt (tgt := 27) dX6_turn_8 (by decide) (fun c8 => ?_) (fun c8 => absurd ((by decide)) c8)
    refine mOk.vret dX6_turn_27 rfl (by decide) ?_
    exact hQ I (by simpa using ht) ho
  | succ m ih =>
    intro i I hi hm hf ht ho
    obtain ⟨f0, -⟩ := id hf.1
    obtain ⟨t0, -⟩ := id ht.1
    have b1 := hf.1.2.2.2.1
    have b2 := hf.2.1
    rw [nI_pred] at hi
    subst hi
    refine mOk.iload3n dX6_turn_7 rfl ?_
    refine mOk.iflt (tgt := 27) dX6_turn_8 (by decide) (fun c8 => absurd c8 (nI_neg' (by omega))) (fun c8 => ?_)
    refine mOk.aload2n dX6_turn_11 rfl ?_
    refine mOk.aload1n dX6_turn_12 rfl ?_
    refine mOk.iload3n dX6_turn_13 rfl ?_
    refine mOk.callV1 (M' := mX5_cell) dX6_turn_14 ml_X6_62 ke_X5_cell (by first | assumption | rfl) (by decide) (by decide) (by simp [Value.category]) (c_cell_in hf (by omega) ?_)
    refine mOk.callV1 (M' := mX5_push) dX6_turn_17 ml_X6_82 ke_X5_push (by first | assumption | rfl) (by decide) (by decide) (by simp [Value.category]) (c_push ht (by simp; omega) ?_)
    intro I' ht' ho'
    refine mOk.pop dX6_turn_20 rfl ?_
    refine mOk.iinc3 (y := nI m - 1) dX6_turn_21 (dec1 _) (by decide) rfl ?_
    refine mOk.goto (tgt := 7) dX6_turn_24 (by decide) ?_
    refine ih _ I' rfl (by omega) (hf.off ho' hf1 hf2) ?_ (ho.tr ho')
    rw [drop_c (by omega), List.reverse_cons]
    exact ht'
theorem c_turn (hf : Rw I f fa fcap xs) (ht : Rw I t ta tcap []) (hf1 : f ∉ [t, ta]) (hf2 : fa ∉ [t, ta]) (hfit : xs.length ≤ tcap) (hQ : ∀ I', Rw I' t ta tcap xs.reverse → Off [t, ta] I I' → Q none (hS sw I' J)) : mCl mX6_turn 2 0 0 [.ref ru, .ref f, .ref t] (hS sw I J) Q := by
  obtain ⟨f0, -⟩ := id hf.1
  refine mCl.of (by decide) rfl (Nat.le_of_ble_eq_true rfl) ?_
  show mOk _ _ _ _ _ [some (.ref ru), some (.ref f), some (.ref t), none] _ _ _ _ _
  refine mOk.aload1n dX6_turn_0 rfl ?_
  refine mOk.callV0 (M' := mX5_length) dX6_turn_1 ml_X6_58 ke_X5_length (by first | assumption | rfl) (by decide) (by decide) (by simp [Value.category]) (c_length hf ?_)
  refine mOk.iconst (x := nI 1) dX6_turn_4 (by decide) ?_
  refine mOk.isub dX6_turn_5 ?_
  refine mOk.istore3n dX6_turn_6 rfl (by decide) rfl ?_
  exact l_turn hf1 hf2 hfit hQ xs.length _ I rfl (Nat.le_refl _) hf (by simpa using ht) Off.rf
theorem l_first {I0 : Nat → Nat → Int32} (hdj : ∀ a ∈ cS cb, a ∉ [t, ta]) (hf1 : f ∉ [t, ta]) (hf2 : fa ∉ [t, ta]) (hfit : xs.length ≤ tcap) (hQ : ∀ I', Rw I' t ta tcap (fst1 T 0 xs) → Off [t, ta] I0 I' → Q none (hS sw I' J)) :
    ∀ (m i b : Nat) (I : Nat → Nat → Int32) (l6 : Option Value) (out : List Int32), i + m = xs.length → b ≤ 1 → out.length = i → fst1 T 0 xs = out ++ fst1 T b (xs.drop i) → Cd I cb T → Rw I f fa fcap xs → Rw I t ta tcap out → Off [t, ta] I0 I →
    mOk mX6_takeFirst 3 0 0 6 [some (.ref ru), some (.ref cb), some (.ref f), some (.ref t), some (.int (nI b)), some (.int (nI i)), l6] [] (hS sw I J) 0 0 Q := by
  intro m
  induction m with
  | zero =>
    intro i b I l6 out hi hb hout hs hc hf ht ho
    obtain ⟨f0, -⟩ := id hf.1
    have b1 := hf.1.2.2.2.1
    have b2 := hf.2.1
    refine mOk.iload5 dX6_takeFirst_6 ?_
    refine mOk.aload2n dX6_takeFirst_8 rfl ?_
    refine mOk.callV0 (M' := mX5_length) dX6_takeFirst_9 ml_X6_58 ke_X5_length (by first | assumption | rfl) (by decide) (by decide) (by simp [Value.category]) (c_length hf ?_)
    refine mOk.icge (tgt := 55) dX6_takeFirst_12 (by decide) (fun c12 => ?_) (fun c12 => absurd ((nI_le' (by omega) (by omega)).mpr (by omega)) c12)
    refine mOk.vret dX6_takeFirst_55 rfl (by decide) ?_
    rw [List.drop_of_length_le (by omega), fst1, List.append_nil] at hs
    exact hQ I (by rw [hs]; exact ht) ho
  | succ m ih =>
    intro i b I l6 out hi hb hout hs hc hf ht ho
    obtain ⟨k0, -⟩ := cdK hc.1
    obtain ⟨f0, -⟩ := id hf.1
    obtain ⟨t0, -⟩ := id ht.1
    have b1 := hf.1.2.2.2.1
    have b2 := hf.2.1
    rw [drop_c (by omega), fst1] at hs
    have key : ∀ b', b' = b + (if tC T (xs.getD i (-9)) = 0 then 1 else 0) → mOk mX6_takeFirst 3 0 0 35 [some (.ref ru), some (.ref cb), some (.ref f), some (.ref t), some (.int (nI b')), some (.int (nI i)), some (.int (xs.getD i (-9)))] [] (hS sw I J) 0 0 Q := by
      intro b' hb'
      rw [← hb'] at hs
      have hb2 : b' ≤ 2 := by rw [hb']; split <;> omega
      by_cases h2 : 1 < b'
      · refine mOk.iload4 dX6_takeFirst_35 ?_
        refine mOk.iconst (x := nI 1) dX6_takeFirst_37 (by decide) ?_
        refine mOk.icle (tgt := 42) dX6_takeFirst_38 (by decide) (fun c38 => absurd c38 (mt (nI_le' (by omega) (by omega)).mp (by omega))) (fun c38 => ?_)
        refine mOk.vret dX6_takeFirst_41 rfl (by decide) ?_
        rw [if_pos h2, List.append_nil] at hs
        exact hQ I (by rw [hs]; exact ht) ho
      · refine mOk.iload4 dX6_takeFirst_35 ?_
        refine mOk.iconst (x := nI 1) dX6_takeFirst_37 (by decide) ?_
        refine mOk.icle (tgt := 42) dX6_takeFirst_38 (by decide) (fun c38 => ?_) (fun c38 => absurd ((nI_le' (by omega) (by omega)).mpr (by omega)) c38)
        refine mOk.aload3n dX6_takeFirst_42 rfl ?_
        refine mOk.iload6 dX6_takeFirst_43 ?_
        refine mOk.callV1 (M' := mX5_push) dX6_takeFirst_45 ml_X6_82 ke_X5_push (by first | assumption | rfl) (by decide) (by decide) (by simp [Value.category]) (c_push ht (by omega) ?_)
        intro I' ht' ho'
        refine mOk.pop dX6_takeFirst_48 rfl ?_
        refine mOk.iinc5 dX6_takeFirst_49 (mOk.inc1 rfl) (by decide) rfl ?_
        refine mOk.goto (tgt := 6) dX6_takeFirst_52 (by decide) ?_
        rw [if_neg h2] at hs
        exact ih (i + 1) b' I' _ (out ++ [xs.getD i (-9)]) (by omega) (by omega) (by simp; omega) (by rw [hs]; simp) (hc.off ho' hdj) (hf.off ho' hf1 hf2) ht' (ho.tr ho')
    refine mOk.iload5 dX6_takeFirst_6 ?_
    refine mOk.aload2n dX6_takeFirst_8 rfl ?_
    refine mOk.callV0 (M' := mX5_length) dX6_takeFirst_9 ml_X6_58 ke_X5_length (by first | assumption | rfl) (by decide) (by decide) (by simp [Value.category]) (c_length hf ?_)
    refine mOk.icge (tgt := 55) dX6_takeFirst_12 (by decide) (fun c12 => absurd c12 (mt (nI_le' (by omega) (by omega)).mp (by omega))) (fun c12 => ?_)
    refine mOk.aload2n dX6_takeFirst_15 rfl ?_
    refine mOk.iload5 dX6_takeFirst_16 ?_
    refine mOk.callV1 (M' := mX5_cell) dX6_takeFirst_18 ml_X6_62 ke_X5_cell (by first | assumption | rfl) (by decide) (by decide) (by simp [Value.category]) (c_cell_in hf (by omega) ?_)
    refine mOk.istore6 dX6_takeFirst_21 (by decide) rfl ?_
    refine mOk.aload1n dX6_takeFirst_23 rfl ?_
    refine mOk.iload6 dX6_takeFirst_24 ?_
    refine mOk.callV1 (M' := mX1_isBase) dX6_takeFirst_26 ml_X6_66 ke_X1_isBase (by first | assumption | rfl) (by decide) (by decide) (by simp [Value.category]) (c_isBase hc ?_)
    by_cases h0 : tC T (xs.getD i (-9)) = 0
    · rw [if_pos h0]
      refine mOk.ifeq (tgt := 35) dX6_takeFirst_29 (by decide) (fun c29 => absurd c29 ((by decide))) (fun c29 => ?_)
      refine mOk.iinc4 dX6_takeFirst_32 (mOk.inc1 rfl) (by decide) rfl ?_
      exact key (b + 1) (by rw [if_pos h0])
    · rw [if_neg h0]
      refine mOk.ifeq (tgt := 35) dX6_takeFirst_29 (by decide) (fun c29 => ?_) (fun c29 => absurd (rfl) c29)
      exact key b (by rw [if_neg h0, Nat.add_zero])
theorem c_first (hc : Cd I cb T) (hf : Rw I f fa fcap xs) (ht : Rw I t ta tcap []) (hdj : ∀ a ∈ cS cb, a ∉ [t, ta]) (hf1 : f ∉ [t, ta]) (hf2 : fa ∉ [t, ta]) (hfit : xs.length ≤ tcap) (hQ : ∀ I', Rw I' t ta tcap (fst1 T 0 xs) → Off [t, ta] I I' → Q none (hS sw I' J)) : mCl mX6_takeFirst 3 0 0 [.ref ru, .ref cb, .ref f, .ref t] (hS sw I J) Q := by
  refine mCl.of (by decide) rfl (Nat.le_of_ble_eq_true rfl) ?_
  show mOk _ _ _ _ _ [some (.ref ru), some (.ref cb), some (.ref f), some (.ref t), none, none, none] _ _ _ _ _
  refine mOk.iconst (x := nI 0) dX6_takeFirst_0 (by decide) ?_
  refine mOk.istore4 dX6_takeFirst_1 (by decide) rfl ?_
  refine mOk.iconst (x := nI 0) dX6_takeFirst_3 (by decide) ?_
  refine mOk.istore5 dX6_takeFirst_4 (by decide) rfl ?_
  exact l_first hdj hf1 hf2 hfit hQ xs.length 0 0 I _ [] (Nat.zero_add _) (by omega) rfl rfl hc hf ht Off.rf
theorem l_isSorted (hc : Cd I cb T) (hf : Rw I f fa fcap xs) (hQ : Q (some (.int (if srtd (tC T) xs = true then 1 else 0))) (hS sw I J)) :
    ∀ (m i : Nat) (l4 : Option Value), i + 1 + m = xs.length → srtd (tC T) xs = srtd (tC T) (xs.drop i) → mOk mX6_isSorted 3 0 0 2 [some (.ref ru), some (.ref cb), some (.ref f), some (.int (nI (i + 1))), l4] [] (hS sw I J) 0 0 Q := by
  obtain ⟨k0, -⟩ := cdK hc.1
  obtain ⟨f0, -⟩ := id hf.1
  have b1 := hf.1.2.2.2.1
  have b2 := hf.2.1
  intro m
  induction m with
  | zero =>
    intro i l4 hi hs
    refine mOk.iload3n dX6_isSorted_2 rfl ?_
    refine mOk.aload2n dX6_isSorted_3 rfl ?_
    refine mOk.callV0 (M' := mX5_length) dX6_isSorted_4 ml_X6_58 ke_X5_length (by first | assumption | rfl) (by decide) (by decide) (by simp [Value.category]) (c_length hf ?_)
    refine mOk.icge (tgt := 54) dX6_isSorted_7 (by decide) (fun c7 => ?_) (fun c7 => absurd ((nI_le' (by omega) (by omega)).mpr (by omega)) c7)
    refine mOk.iconst (x := 1) dX6_isSorted_54 (by decide) ?_
    refine mOk.zret dX6_isSorted_55 rfl (by decide) ?_
    rw [hs, drop_c (by omega), List.drop_of_length_le (by omega)] at hQ
    exact hQ
  | succ m ih =>
    intro i l4 hi hs
    rw [drop_c (by omega), drop_c (show i + 1 < xs.length by omega), srtd, ← drop_c (show i + 1 < xs.length by omega)] at hs
    refine mOk.iload3n dX6_isSorted_2 rfl ?_
    refine mOk.aload2n dX6_isSorted_3 rfl ?_
    refine mOk.callV0 (M' := mX5_length) dX6_isSorted_4 ml_X6_58 ke_X5_length (by first | assumption | rfl) (by decide) (by decide) (by simp [Value.category]) (c_length hf ?_)
    refine mOk.icge (tgt := 54) dX6_isSorted_7 (by decide) (fun c7 => absurd c7 (mt (nI_le' (by omega) (by omega)).mp (by omega))) (fun c7 => ?_)
    refine mOk.aload2n dX6_isSorted_10 rfl ?_
    refine mOk.iload3n dX6_isSorted_11 rfl ?_
    refine mOk.callV1 (M' := mX5_cell) dX6_isSorted_12 ml_X6_62 ke_X5_cell (by first | assumption | rfl) (by decide) (by decide) (by simp [Value.category]) (c_cell_in hf (by omega) ?_)
    refine mOk.istore4 dX6_isSorted_15 (by decide) rfl ?_
    refine mOk.aload1n dX6_isSorted_17 rfl ?_
    refine mOk.iload4 dX6_isSorted_18 ?_
    refine mOk.callV1 (M' := mX1_isBase) dX6_isSorted_20 ml_X6_66 ke_X1_isBase (by first | assumption | rfl) (by decide) (by decide) (by simp [Value.category]) (c_isBase hc ?_)
    by_cases h0 : tC T (xs.getD (i + 1) (-9)) = 0
    · rw [if_pos h0]
      refine mOk.ifne (tgt := 48) dX6_isSorted_23 (by decide) (fun c23 => ?_) (fun c23 => absurd c23 ((by decide)))
      refine mOk.iinc3 dX6_isSorted_48 (mOk.inc1 rfl) (by decide) rfl ?_
      refine mOk.goto (tgt := 2) dX6_isSorted_51 (by decide) ?_
      exact ih (i + 1) _ (by omega) (by rw [hs, decide_eq_true h0, Bool.true_or, Bool.true_and])
    · rw [if_neg h0]
      refine mOk.ifne (tgt := 48) dX6_isSorted_23 (by decide) (fun c23 => absurd (rfl) c23) (fun c23 => ?_)
      refine mOk.aload1n dX6_isSorted_26 rfl ?_
      refine mOk.aload2n dX6_isSorted_27 rfl ?_
      refine mOk.iload3n dX6_isSorted_28 rfl ?_
      refine mOk.iconst (x := nI 1) dX6_isSorted_29 (by decide) ?_
      refine mOk.isub dX6_isSorted_30 ?_
      refine mOk.top (nI_pred i) ?_
      refine mOk.callV1 (M' := mX5_cell) dX6_isSorted_31 ml_X6_62 ke_X5_cell (by first | assumption | rfl) (by decide) (by decide) (by simp [Value.category]) (c_cell_in hf (by omega) ?_)
      refine mOk.callV1 (M' := mX1_classOf) dX6_isSorted_34 ml_X6_72 ke_X1_classOf (by first | assumption | rfl) (by decide) (by decide) (by simp [Value.category]) (c_classOf hc ?_)
      refine mOk.aload1n dX6_isSorted_37 rfl ?_
      refine mOk.iload4 dX6_isSorted_38 ?_
      refine mOk.callV1 (M' := mX1_classOf) dX6_isSorted_40 ml_X6_72 ke_X1_classOf (by first | assumption | rfl) (by decide) (by decide) (by simp [Value.category]) (c_classOf hc ?_)
      refine mOk.icle (tgt := 48) dX6_isSorted_43 (by decide) (fun c43 => ?_) (fun c43 => ?_)
      · refine mOk.iinc3 dX6_isSorted_48 (mOk.inc1 rfl) (by decide) rfl ?_
        refine mOk.goto (tgt := 2) dX6_isSorted_51 (by decide) ?_
        exact ih (i + 1) _ (by omega) (by rw [hs, decide_eq_true c43, Bool.or_true, Bool.true_and])
      · refine mOk.iconst (x := 0) dX6_isSorted_46 (by decide) ?_
        refine mOk.zret dX6_isSorted_47 rfl (by decide) ?_
        rw [hs, decide_eq_false c43, decide_eq_false h0] at hQ
        exact hQ
theorem c_isSorted (hc : Cd I cb T) (hf : Rw I f fa fcap xs) (hQ : Q (some (.int (if srtd (tC T) xs = true then 1 else 0))) (hS sw I J)) : mCl mX6_isSorted 3 0 0 [.ref ru, .ref cb, .ref f] (hS sw I J) Q := by
  obtain ⟨f0, -⟩ := id hf.1
  refine mCl.of (by decide) rfl (Nat.le_of_ble_eq_true rfl) ?_
  show mOk _ _ _ _ _ [some (.ref ru), some (.ref cb), some (.ref f), none, none] _ _ _ _ _
  refine mOk.iconst (x := nI 1) dX6_isSorted_0 (by decide) ?_
  refine mOk.istore3n dX6_isSorted_1 rfl (by decide) rfl ?_
  cases xs with
  | nil =>
    refine mOk.iload3n dX6_isSorted_2 rfl ?_
    refine mOk.aload2n dX6_isSorted_3 rfl ?_
    refine mOk.callV0 (M' := mX5_length) dX6_isSorted_4 ml_X6_58 ke_X5_length (by first | assumption | rfl) (by decide) (by decide) (by simp [Value.category]) (c_length hf ?_)
    refine mOk.icge (tgt := 54) dX6_isSorted_7 (by decide) (fun c7 => ?_) (fun c7 => absurd ((by decide)) c7)
    refine mOk.iconst (x := 1) dX6_isSorted_54 (by decide) ?_
    refine mOk.zret dX6_isSorted_55 rfl (by decide) ?_
    exact hQ
  | cons x xs => exact l_isSorted hc hf hQ xs.length 0 none (by simp; omega) rfl
end RULES
