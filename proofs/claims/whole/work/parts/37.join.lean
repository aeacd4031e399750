/-! ===== Rules: joining ===== -/
def blk (T : List CR) (out : List Int32) (b : Nat) (c : Int32) : Bool := (out.drop (b + 1)).any (fun x => decide (tC T x = 0) || decide (tC T c ≤ tC T x))
def jp (T : List CR) (bs : Option Nat) (out : List Int32) (c : Int32) : Int32 := match bs with
  | none => -9
  | some b => if blk T out b c = true then -9 else pairC T (out.getD b (-9)) c
def jn (T : List CR) : Option Nat → List Int32 → List Int32 → List Int32
  | _, out, [] => out
  | bs, out, c :: cs => if jp T bs out c = -9 then jn T (if tC T c = 0 then some out.length else bs) (out ++ [c]) cs else jn T bs (out.set (bs.getD 0) (jp T bs out c)) cs
/-- what the class holds of the latest base and the highest class behind it -/
def jI (T : List CR) (out : List Int32) (bs : Option Nat) (la hi : Int32) : Prop := match bs with
  | none => la = -9
  | some b => b < out.length ∧ la = nI b ∧ (∀ x ∈ out.drop (b + 1), tC T x ≠ 0 ∧ tC T x ≤ hi) ∧ (hi = -9 ∨ ∃ x ∈ out.drop (b + 1), tC T x = hi)
theorem jI_blk {T : List CR} {out : List Int32} {b : Nat} {la hi c : Int32} (h : jI T out (some b) la hi) (hc : 0 ≤ tC T c) : blk T out b c = true ↔ ¬ hi < tC T c := by
  obtain ⟨h1, h2, h3, h4⟩ := h
  unfold blk
  rw [List.any_eq_true]
  constructor
  · rintro ⟨x, hx, he⟩
    obtain ⟨g1, g2⟩ := h3 x hx
    rw [Bool.or_eq_true, decide_eq_true_eq, decide_eq_true_eq] at he
    rcases he with he | he
    · exact absurd he g1
    · rw [Int32.lt_iff_toInt_lt]
      rw [Int32.le_iff_toInt_le] at he g2
      omega
  · intro h
    rcases h4 with rfl | ⟨x, hx, rfl⟩
    · exfalso
      apply h
      rw [Int32.lt_iff_toInt_lt]
      rw [Int32.le_iff_toInt_le] at hc
      have : (-9 : Int32).toInt = -9 := by decide
      have : (0 : Int32).toInt = 0 := by decide
      omega
    · refine ⟨x, hx, ?_⟩
      rw [Bool.or_eq_true, decide_eq_true_eq, decide_eq_true_eq]
      right
      rw [Int32.le_iff_toInt_le]
      rw [Int32.lt_iff_toInt_lt] at h
      omega
theorem nI_n9 {b : Nat} (h : b < 100000) : ¬ nI b = -9 := fun z => nI_neg' h (by rw [z]; decide)
theorem jI_base {T : List CR} {out : List Int32} {c : Int32} : jI T (out ++ [c]) (some out.length) (nI out.length) (-9) := by
  refine ⟨by simp, rfl, fun x hx => ?_, Or.inl rfl⟩
  rw [List.drop_of_length_le (by simp)] at hx
  simp at hx
theorem jI_mark {T : List CR} {out : List Int32} {bs : Option Nat} {la hi c : Int32} (h : jI T out bs la hi) (hc : ¬ tC T c = 0) (hc0 : 0 ≤ tC T c) : jI T (out ++ [c]) bs la (if hi < tC T c then tC T c else hi) := by
  cases bs with
  | none => exact h
  | some b =>
    obtain ⟨h1, h2, h3, h4⟩ := h
    have hd : (out ++ [c]).drop (b + 1) = out.drop (b + 1) ++ [c] := List.drop_append_of_le_length (by omega)
    refine ⟨by simp; omega, h2, fun x hx => ?_, ?_⟩
    · rw [hd, List.mem_append, List.mem_singleton] at hx
      rcases hx with hx | rfl
      · refine ⟨(h3 x hx).1, ?_⟩
        have := (h3 x hx).2
        split
        · next q => rw [Int32.le_iff_toInt_le] at this ⊢; rw [Int32.lt_iff_toInt_lt] at q; omega
        · exact this
      · refine ⟨hc, ?_⟩
        split
        · rw [Int32.le_iff_toInt_le]; omega
        · next q => rw [Int32.le_iff_toInt_le]; rw [Int32.lt_iff_toInt_lt] at q; omega
    · right
      rw [hd]
      split
      · exact ⟨c, by simp, rfl⟩
      · next q =>
        rcases h4 with rfl | ⟨x, hx, he⟩
        · exfalso
          apply q
          rw [Int32.lt_iff_toInt_lt]
          rw [Int32.le_iff_toInt_le] at hc0
          have : (-9 : Int32).toInt = -9 := by decide
          have : (0 : Int32).toInt = 0 := by decide
          omega
        · exact ⟨x, by simp [hx], he⟩
theorem jI_join {T : List CR} {out : List Int32} {b : Nat} {la hi p : Int32} (h : jI T out (some b) la hi) : jI T (out.set b p) (some b) la hi := by
  obtain ⟨h1, h2, h3, h4⟩ := h
  have hd : (out.set b p).drop (b + 1) = out.drop (b + 1) := List.drop_set_of_lt (by omega)
  exact ⟨by simpa using h1, h2, by rw [hd]; exact h3, by rw [hd]; exact h4⟩
section JOIN
variable {sw : Bool} {I : Nat → Nat → Int32} {J : Nat → Nat → Int64} {cb : Nat} {T : List CR} {Q : Option Value → mi_H → Prop} {t ta tcap ru : Nat} {xs : List Int32}
theorem l_join {I0 : Nat → Nat → Int32} (hdj : ∀ a ∈ cS cb, a ∉ [t, ta]) (hQ : ∀ I', Cd I' cb T → Rw I' t ta tcap (jn T none [] xs) → Off [t, ta] I0 I' → Q none (hS sw I' J)) :
    ∀ (rest out jk : List Int32) (bs : Option Nat) (la hi : Int32) (i : Nat) (I : Nat → Nat → Int32) (l8 l9 l10 l11 : Option Value), (∀ l, (l = l8 ∨ l = l9 ∨ l = l10) → mi_s [l] 1 = true) → out.length + jk.length = i → i + rest.length = xs.length → (∀ c ∈ rest, 0 ≤ tC T c) → jI T out bs la hi → jn T none [] xs = jn T bs out rest → Cd I cb T → Rw I t ta tcap (out ++ (jk ++ rest)) → Off [t, ta] I0 I →
    mOk mX6_join 3 0 0 19 [some (.ref ru), some (.ref cb), some (.ref t), some (.int (nI xs.length)), some (.int la), some (.int hi), some (.int (nI out.length)), some (.int (nI i)), l8, l9, l10, l11] [] (hS sw I J) 0 0 Q := by
  intro rest
  induction rest with
  | nil =>
    intro out jk bs la hi i I l8 l9 l10 l11 hls h1 h2 hv hj hs hc ht ho
    obtain ⟨t0, -⟩ := id ht.1
    have b1 := ht.1.2.2.2.1
    have b2 := ht.2.1
    simp only [List.length_append, List.length_nil] at b2 h2
    refine mOk.iload7 dX6_join_19 ?_
    refine mOk.iload3n dX6_join_21 rfl ?_
    refine mOk.icge (tgt := 146) dX6_join_22 (by decide) (fun c22 => ?_) (fun c22 => absurd ((nI_le' (by omega) (by omega)).mpr (by omega)) c22)
    refine mOk.aload2n dX6_join_146 rfl ?_
    refine mOk.iload6 dX6_join_147 ?_
    refine mOk.callV1 (M' := mX5_shorten) dX6_join_149 ml_X6_100 ke_X5_shorten (by first | assumption | rfl) (by decide) (by decide) (by simp [Value.category]) (c_shorten ht (by simp) ?_)
    intro I' ht' ho'
    refine mOk.vret dX6_join_152 rfl (by decide) ?_
    refine hQ I' (hc.off ho' hdj) ?_ (ho.tr ho')
    rw [List.take_left] at ht'
    rw [hs, jn]
    exact ht'
  | cons c rest ih =>
    intro out jk bs la hi i I l8 l9 l10 l11 hls h1 h2 hv hj hs hc ht ho
    obtain ⟨k0, -⟩ := cdK hc.1
    obtain ⟨t0, -⟩ := id ht.1
    have b1 := ht.1.2.2.2.1
    have b2 := ht.2.1
    simp only [List.length_append, List.length_cons] at b2 h2
    have hc0 := hv c (by simp)
    have hv' : ∀ c ∈ rest, 0 ≤ tC T c := fun x hx => hv x (by simp [hx])
    rw [jn] at hs
    have hget : (out ++ (jk ++ c :: rest)).getD i (-9) = c := by
      rw [← List.append_assoc, show i = (out ++ jk).length by simp [h1], getD_mid]
    have hjk : ∃ jk', (out ++ (jk ++ c :: rest)).set out.length c = (out ++ [c]) ++ (jk' ++ rest) ∧ jk'.length = jk.length := by
      cases jk with
      | nil => exact ⟨[], by rw [List.nil_append, set_mid]; simp, rfl⟩
      | cons y ys => exact ⟨ys ++ [c], by rw [List.cons_append, set_mid]; simp, by simp⟩
    obtain ⟨jk', ej1, ej2⟩ := hjk
    -- it stays
    have stay : ∀ (x10 x11 : Int32), jp T bs out c = -9 → mOk mX6_join 3 0 0 104 [some (.ref ru), some (.ref cb), some (.ref t), some (.int (nI xs.length)), some (.int la), some (.int hi), some (.int (nI out.length)), some (.int (nI i)), some (.int c), some (.int (tC T c)), some (.int x10), some (.int x11)] [] (hS sw I J) 0 0 Q := by
      intro x10 x11 hp
      rw [if_pos hp] at hs
      refine mOk.aload2n dX6_join_104 rfl ?_
      refine mOk.iload6 dX6_join_105 ?_
      refine mOk.iload8 dX6_join_107 ?_
      refine mOk.callV2 (M' := mX5_setCell) dX6_join_109 ml_X6_91 ke_X5_setCell (by first | assumption | rfl) (by decide) (by decide) (by simp [Value.category]) (c_setCell ht (by simp; omega) ?_)
      intro I' ht' ho'
      rw [ej1] at ht'
      refine mOk.iload9 dX6_join_112 ?_
      refine mOk.ifne (tgt := 128) dX6_join_114 (by decide) (fun c114 => ?_) (fun c114 => ?_)
      · rw [if_neg c114] at hs
        refine mOk.iload5 dX6_join_128 ?_
        refine mOk.iload9 dX6_join_130 ?_
        refine mOk.mmax dX6_join_132 ml_X6_95 (by decide) (by decide) (by simp [Value.category]) ?_
        refine mOk.istore5 dX6_join_135 (by decide) rfl ?_
        refine mOk.iinc6 dX6_join_137 (mOk.inc1 rfl) (by decide) rfl ?_
        refine mOk.iinc7 dX6_join_140 (mOk.inc1 rfl) (by decide) rfl ?_
        refine mOk.goto (tgt := 19) dX6_join_143 (by decide) ?_
        have := ih (out ++ [c]) jk' bs la _ (i + 1) I' (some (.int c)) (some (.int (tC T c))) (some (.int x10)) (some (.int x11)) (by rintro l (rfl | rfl | rfl) <;> rfl) (by simp; omega) (by omega) hv' (jI_mark hj c114 hc0) hs (hc.off ho' hdj) ht' (ho.tr ho')
        rw [List.length_append] at this
        exact this
      · rw [if_pos c114] at hs
        refine mOk.iload6 dX6_join_117 ?_
        refine mOk.istore4 dX6_join_119 (by decide) rfl ?_
        refine mOk.bipush (x := -9) dX6_join_121 (by decide) ?_
        refine mOk.istore5 dX6_join_123 (by decide) rfl ?_
        refine mOk.goto (tgt := 137) dX6_join_125 (by decide) ?_
        refine mOk.iinc6 dX6_join_137 (mOk.inc1 rfl) (by decide) rfl ?_
        refine mOk.iinc7 dX6_join_140 (mOk.inc1 rfl) (by decide) rfl ?_
        refine mOk.goto (tgt := 19) dX6_join_143 (by decide) ?_
        have := ih (out ++ [c]) jk' (some out.length) (nI out.length) (-9) (i + 1) I' (some (.int c)) (some (.int (tC T c))) (some (.int x10)) (some (.int x11)) (by rintro l (rfl | rfl | rfl) <;> rfl) (by simp; omega) (by omega) hv' jI_base hs (hc.off ho' hdj) ht' (ho.tr ho')
        rw [List.length_append] at this
        exact this
    have stay' : ∀ (x10 : Int32), jp T bs out c = -9 → mOk mX6_join 3 0 0 84 [some (.ref ru), some (.ref cb), some (.ref t), some (.int (nI xs.length)), some (.int la), some (.int hi), some (.int (nI out.length)), some (.int (nI i)), some (.int c), some (.int (tC T c)), some (.int x10), l11] [.int (-9)] (hS sw I J) 0 0 Q := by
      intro x10 hp
      refine mOk.istore11 dX6_join_84 (by decide) rfl ?_
      refine mOk.iload11 dX6_join_86 ?_
      refine mOk.bipush (x := -9) dX6_join_88 (by decide) ?_
      refine mOk.iceq (tgt := 104) dX6_join_90 (by decide) (fun c90 => ?_) (fun c90 => absurd (rfl) c90)
      exact stay x10 (-9) hp
    refine mOk.iload7 dX6_join_19 ?_
    refine mOk.iload3n dX6_join_21 rfl ?_
    refine mOk.icge (tgt := 146) dX6_join_22 (by decide) (fun c22 => absurd c22 (mt (nI_le' (by omega) (by omega)).mp (by omega))) (fun c22 => ?_)
    refine mOk.aload2n dX6_join_25 rfl ?_
    refine mOk.iload7 dX6_join_26 ?_
    refine mOk.callV1 (M' := mX5_cell) dX6_join_28 ml_X6_62 ke_X5_cell (by first | assumption | rfl) (by decide) (by decide) (by simp [Value.category]) (c_cell_in ht (by simp; omega) ?_)
    rw [hget]
    refine mOk.istore8 dX6_join_31 (by decide) rfl ?_
    refine mOk.aload1n dX6_join_33 rfl ?_
    refine mOk.iload8 dX6_join_34 ?_
    refine mOk.callV1 (M' := mX1_classOf) dX6_join_36 ml_X6_72 ke_X1_classOf (by first | assumption | rfl) (by decide) (by decide) (by simp [Value.category]) (c_classOf hc ?_)
    refine mOk.istore9 dX6_join_39 (by decide) rfl ?_
    refine mOk.iload4 dX6_join_41 ?_
    refine mOk.bipush (x := -9) dX6_join_43 (by decide) ?_
    cases bs with
    | none =>
      have hla : la = -9 := hj
      subst hla
      refine mOk.iceq (tgt := 55) dX6_join_45 (by decide) (fun c45 => ?_) (fun c45 => absurd (rfl) c45)
      refine mOk.iconst (x := 1) dX6_join_55 (by decide) ?_
      refine mOk.goto (tgt := 60) dX6_join_56 (by decide) ?_
      refine mOk.istore10 dX6_join_60 (by decide) rfl ?_
      refine mOk.iload10 dX6_join_62 ?_
      refine mOk.ifeq (tgt := 72) dX6_join_64 (by decide) (fun c64 => absurd c64 ((by decide))) (fun c64 => ?_)
      refine mOk.bipush (x := -9) dX6_join_67 (by decide) ?_
      refine mOk.goto (tgt := 84) dX6_join_69 (by decide) ?_
      exact stay' 1 rfl
    | some b =>
      have hj' := hj
      obtain ⟨g1, g2, g3, g4⟩ := hj'
      subst g2
      have hbk := jI_blk hj hc0
      refine mOk.iceq (tgt := 55) dX6_join_45 (by decide) (fun c45 => absurd c45 (nI_n9 (by omega))) (fun c45 => ?_)
      refine mOk.iload5 dX6_join_48 ?_
      refine mOk.iload9 dX6_join_50 ?_
      refine mOk.iclt (tgt := 59) dX6_join_52 (by decide) (fun c52 => ?_) (fun c52 => ?_)
      · -- not blocked
        have hnb : ¬ blk T out b c = true := fun z => hbk.mp z c52
        have hjp : jp T (some b) out c = pairC T (out.getD b (-9)) c := by
          show (if blk T out b c = true then -9 else pairC T (out.getD b (-9)) c) = _
          rw [if_neg hnb]
        refine mOk.iconst (x := 0) dX6_join_59 (by decide) ?_
        refine mOk.istore10 dX6_join_60 (by decide) rfl ?_
        refine mOk.iload10 dX6_join_62 ?_
        refine mOk.ifeq (tgt := 72) dX6_join_64 (by decide) (fun c64 => ?_) (fun c64 => absurd (rfl) c64)
        refine mOk.aload1n dX6_join_72 rfl ?_
        refine mOk.aload2n dX6_join_73 rfl ?_
        refine mOk.iload4 dX6_join_74 ?_
        refine mOk.callV1 (M' := mX5_cell) dX6_join_76 ml_X6_62 ke_X5_cell (by first | assumption | rfl) (by decide) (by decide) (by simp [Value.category]) (c_cell_in ht (by simp; omega) ?_)
        rw [getD_app g1]
        refine mOk.iload8 dX6_join_79 ?_
        refine mOk.callV2 (M' := mX1_pairOf) dX6_join_81 ml_X6_88 ke_X1_pairOf (by first | assumption | rfl) (by decide) (by decide) (by simp [Value.category]) (c_pairOf hc ?_)
        rw [← hjp]
        refine mOk.istore11 dX6_join_84 (by decide) rfl ?_
        refine mOk.iload11 dX6_join_86 ?_
        refine mOk.bipush (x := -9) dX6_join_88 (by decide) ?_
        refine mOk.iceq (tgt := 104) dX6_join_90 (by decide) (fun c90 => ?_) (fun c90 => ?_)
        · exact stay 0 _ c90
        · rw [if_neg c90] at hs
          refine mOk.aload2n dX6_join_93 rfl ?_
          refine mOk.iload4 dX6_join_94 ?_
          refine mOk.iload11 dX6_join_96 ?_
          refine mOk.callV2 (M' := mX5_setCell) dX6_join_98 ml_X6_91 ke_X5_setCell (by first | assumption | rfl) (by decide) (by decide) (by simp [Value.category]) (c_setCell ht (by simp; omega) ?_)
          intro I' ht' ho'
          refine mOk.goto (tgt := 140) dX6_join_101 (by decide) ?_
          refine mOk.iinc7 dX6_join_140 (mOk.inc1 rfl) (by decide) rfl ?_
          refine mOk.goto (tgt := 19) dX6_join_143 (by decide) ?_
          have hz : (out ++ (jk ++ c :: rest)).set b (jp T (some b) out c) = out.set b (jp T (some b) out c) ++ ((jk ++ [c]) ++ rest) := by
            rw [List.set_append_left _ _ g1]
            simp
          rw [hz] at ht'
          have := ih (out.set b (jp T (some b) out c)) (jk ++ [c]) (some b) (nI b) hi (i + 1) I' (some (.int c)) (some (.int (tC T c))) (some (.int 0)) (some (.int (jp T (some b) out c))) (by rintro l (rfl | rfl | rfl) <;> rfl) (by simp; omega) (by omega) hv' (jI_join hj) hs (hc.off ho' hdj) ht' (ho.tr ho')
          rw [List.length_set] at this
          exact this
      · have hjp : jp T (some b) out c = -9 := by
          show (if blk T out b c = true then -9 else pairC T (out.getD b (-9)) c) = _
          rw [if_pos (hbk.mpr c52)]
        refine mOk.iconst (x := 1) dX6_join_55 (by decide) ?_
        refine mOk.goto (tgt := 60) dX6_join_56 (by decide) ?_
        refine mOk.istore10 dX6_join_60 (by decide) rfl ?_
        refine mOk.iload10 dX6_join_62 ?_
        refine mOk.ifeq (tgt := 72) dX6_join_64 (by decide) (fun c64 => absurd c64 ((by decide))) (fun c64 => ?_)
        refine mOk.bipush (x := -9) dX6_join_67 (by decide) ?_
        refine mOk.goto (tgt := 84) dX6_join_69 (by decide) ?_
        exact stay' 1 hjp
theorem c_join (hc : Cd I cb T) (ht : Rw I t ta tcap xs) (hv : ∀ c ∈ xs, 0 ≤ tC T c) (hdj : ∀ a ∈ cS cb, a ∉ [t, ta]) (hQ : ∀ I', Cd I' cb T → Rw I' t ta tcap (jn T none [] xs) → Off [t, ta] I I' → Q none (hS sw I' J)) : mCl mX6_join 3 0 0 [.ref ru, .ref cb, .ref t] (hS sw I J) Q := by
  obtain ⟨t0, -⟩ := id ht.1
  refine mCl.of (by decide) rfl (Nat.le_of_ble_eq_true rfl) ?_
  show mOk _ _ _ _ _ [some (.ref ru), some (.ref cb), some (.ref t), none, none, none, none, none, none, none, none, none] _ _ _ _ _
  refine mOk.aload2n dX6_join_0 rfl ?_
  refine mOk.callV0 (M' := mX5_length) dX6_join_1 ml_X6_58 ke_X5_length (by first | assumption | rfl) (by decide) (by decide) (by simp [Value.category]) (c_length ht ?_)
  refine mOk.istore3n dX6_join_4 rfl (by decide) rfl ?_
  refine mOk.bipush (x := -9) dX6_join_5 (by decide) ?_
  refine mOk.istore4 dX6_join_7 (by decide) rfl ?_
  refine mOk.bipush (x := -9) dX6_join_9 (by decide) ?_
  refine mOk.istore5 dX6_join_11 (by decide) rfl ?_
  refine mOk.iconst (x := nI 0) dX6_join_13 (by decide) ?_
  refine mOk.istore6 dX6_join_14 (by decide) rfl ?_
  refine mOk.iconst (x := nI 0) dX6_join_16 (by decide) ?_
  refine mOk.istore7 dX6_join_17 (by decide) rfl ?_
  exact l_join hdj hQ xs [] [] none (-9) (-9) 0 I none none none none (by rintro l (rfl | rfl | rfl) <;> rfl) rfl (Nat.zero_add _) hv rfl rfl hc ht Off.rf
end JOIN
