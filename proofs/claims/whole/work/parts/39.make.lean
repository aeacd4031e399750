/-! ===== Rules: make, of both, through the pipe ===== -/
section MAKE
variable {sw : Bool} {I : Nat → Nat → Int32} {J : Nat → Nat → Int64} {cb : Nat} {T : List CR} {Q : Option Value → mi_H → Prop} {t ta tcap f fa fcap : Nat} {xs ys : List Int32}
theorem c_make (hT : TOk T) (hc : Cd I cb T) (hf : Rw I f fa fcap xs) (hv : okL T xs) (ht : Rw I t ta tcap ys) (hdj : ∀ a ∈ cS cb, a ∉ [t, ta]) (hf1 : f ∉ [t, ta]) (hf2 : fa ∉ [t, ta]) (hfit : pcs T xs ≤ tcap) {r : Nat} (hr : r < 6)
    (hQ : ∀ I', Rw I' t ta tcap (ruleF T r xs) → Off [t, ta] I I' → Q none (hS sw I' J)) : mCl mX6_make 4 0 0 [.ref 84, .int (nI r), .ref cb, .ref f, .ref t] (hS sw I J) Q := by
  have hlen := len_pcs hT hv
  have hal : ∀ c ∈ apart T xs, 0 ≤ tC T c := fun c h => hT.c0 (apart_pl hT hv c h).1
  obtain ⟨t0, -⟩ := id ht.1
  refine mCl.of (by decide) rfl (Nat.le_of_ble_eq_true rfl) ?_
  show mOk _ _ _ _ _ [some (.ref 84), some (.int (nI r)), some (.ref cb), some (.ref f), some (.ref t)] _ _ _ _ _
  refine mOk.aload4 dX6_make_0 ?_
  refine mOk.callV0 (M' := mX5_empty) dX6_make_2 ml_X6_23 ke_X5_empty (by first | assumption | rfl) (by decide) (by decide) (by simp [Value.category]) (c_rempty ht ?_)
  intro I1 ht1 ho1
  have hc1 := hc.off ho1 hdj
  have hf1' := hf.off ho1 hf1 hf2
  obtain ⟨f0, -⟩ := id hf.1
  match r, hr with
  | 0, _ =>
    refine mOk.iload1n dX6_make_5 rfl ?_
    refine mOk.tableIn (off := 38) (tgt := 44) dX6_make_6 (by decide) (by decide) (by decide) (by decide) ?_
    refine mOk.aload0n dX6_make_44 rfl ?_
    refine mOk.aload2n dX6_make_45 rfl ?_
    refine mOk.aload3n dX6_make_46 rfl ?_
    refine mOk.aload4 dX6_make_47 ?_
    refine mOk.callV3 (M' := mX6_takeApart) dX6_make_49 ml_X6_26 ke_X6_takeApart (by first | assumption | rfl) (by decide) (by decide) (by simp [Value.category]) (c_apart rfl hc1 hf1' ht1 hdj hf1 hf2 hfit ?_)
    intro I2 hc2 ht2 ho2
    refine mOk.goto (tgt := 128) dX6_make_52 (by decide) ?_
    refine mOk.vret dX6_make_128 rfl (by decide) ?_
    exact hQ I2 ht2 (ho1.tr ho2)
  | 1, _ =>
    refine mOk.iload1n dX6_make_5 rfl ?_
    refine mOk.tableIn (off := 49) (tgt := 55) dX6_make_6 (by decide) (by decide) (by decide) (by decide) ?_
    refine mOk.aload0n dX6_make_55 rfl ?_
    refine mOk.aload2n dX6_make_56 rfl ?_
    refine mOk.aload3n dX6_make_57 rfl ?_
    refine mOk.aload4 dX6_make_58 ?_
    refine mOk.callV3 (M' := mX6_takeApart) dX6_make_60 ml_X6_26 ke_X6_takeApart (by first | assumption | rfl) (by decide) (by decide) (by simp [Value.category]) (c_apart rfl hc1 hf1' ht1 hdj hf1 hf2 hfit ?_)
    intro I2 hc2 ht2 ho2
    refine mOk.aload0n dX6_make_63 rfl ?_
    refine mOk.aload2n dX6_make_64 rfl ?_
    refine mOk.aload4 dX6_make_65 ?_
    refine mOk.callV2 (M' := mX6_join) dX6_make_67 ml_X6_30 ke_X6_join (by first | assumption | rfl) (by decide) (by decide) (by simp [Value.category]) (c_join hc2 ht2 hal hdj ?_)
    intro I3 hc3 ht3 ho3
    refine mOk.goto (tgt := 128) dX6_make_70 (by decide) ?_
    refine mOk.vret dX6_make_128 rfl (by decide) ?_
    exact hQ I3 ht3 (ho1.tr (ho2.tr ho3))
  | 2, _ =>
    refine mOk.iload1n dX6_make_5 rfl ?_
    refine mOk.tableIn (off := 67) (tgt := 73) dX6_make_6 (by decide) (by decide) (by decide) (by decide) ?_
    refine mOk.aload4 dX6_make_73 ?_
    refine mOk.aload3n dX6_make_75 rfl ?_
    refine mOk.callV1 (M' := mX5_extend) dX6_make_76 ml_X6_34 ke_X5_extend (by first | assumption | rfl) (by decide) (by decide) (by simp [Value.category]) (c_extend ht1 hf1' (by simp; omega) (fun z => hf1 (by simp [z])) (fun z => hf1 (by simp [z])) (fun z => hf2 (by simp [z])) (fun z => hf2 (by simp [z])) ?_)
    intro I2 ht2 ho2
    refine mOk.aload0n dX6_make_79 rfl ?_
    refine mOk.aload2n dX6_make_80 rfl ?_
    refine mOk.aload4 dX6_make_81 ?_
    refine mOk.callV2 (M' := mX6_sort) dX6_make_83 ml_X6_38 ke_X6_sort (by first | assumption | rfl) (by decide) (by decide) (by simp [Value.category]) (c_sort (hc1.off ho2 hdj) ht2 hdj ?_)
    intro I3 hc3 ht3 ho3
    refine mOk.goto (tgt := 128) dX6_make_86 (by decide) ?_
    refine mOk.vret dX6_make_128 rfl (by decide) ?_
    exact hQ I3 ht3 (ho1.tr (ho2.tr ho3))
  | 3, _ =>
    refine mOk.iload1n dX6_make_5 rfl ?_
    refine mOk.tableIn (off := 83) (tgt := 89) dX6_make_6 (by decide) (by decide) (by decide) (by decide) ?_
    refine mOk.aload0n dX6_make_89 rfl ?_
    refine mOk.aload2n dX6_make_90 rfl ?_
    refine mOk.aload3n dX6_make_91 rfl ?_
    refine mOk.aload4 dX6_make_92 ?_
    refine mOk.callV3 (M' := mX6_takeApart) dX6_make_94 ml_X6_26 ke_X6_takeApart (by first | assumption | rfl) (by decide) (by decide) (by simp [Value.category]) (c_apart rfl hc1 hf1' ht1 hdj hf1 hf2 hfit ?_)
    intro I2 hc2 ht2 ho2
    refine mOk.aload0n dX6_make_97 rfl ?_
    refine mOk.aload2n dX6_make_98 rfl ?_
    refine mOk.aload4 dX6_make_99 ?_
    refine mOk.callV2 (M' := mX6_dropMarks) dX6_make_101 ml_X6_41 ke_X6_dropMarks (by first | assumption | rfl) (by decide) (by decide) (by simp [Value.category]) (c_bare hc2 ht2 hdj ?_)
    intro I3 hc3 ht3 ho3
    refine mOk.goto (tgt := 128) dX6_make_104 (by decide) ?_
    refine mOk.vret dX6_make_128 rfl (by decide) ?_
    exact hQ I3 ht3 (ho1.tr (ho2.tr ho3))
  | 4, _ =>
    refine mOk.iload1n dX6_make_5 rfl ?_
    refine mOk.tableIn (off := 101) (tgt := 107) dX6_make_6 (by decide) (by decide) (by decide) (by decide) ?_
    refine mOk.aload0n dX6_make_107 rfl ?_
    refine mOk.aload3n dX6_make_108 rfl ?_
    refine mOk.aload4 dX6_make_109 ?_
    refine mOk.callV2 (M' := mX6_turn) dX6_make_111 ml_X6_44 ke_X6_turn (by first | assumption | rfl) (by decide) (by decide) (by simp [Value.category]) (c_turn hf1' ht1 hf1 hf2 (by omega) ?_)
    intro I2 ht2 ho2
    refine mOk.goto (tgt := 128) dX6_make_114 (by decide) ?_
    refine mOk.vret dX6_make_128 rfl (by decide) ?_
    exact hQ I2 ht2 (ho1.tr ho2)
  | 5, _ =>
    refine mOk.iload1n dX6_make_5 rfl ?_
    refine mOk.tableIn (off := 111) (tgt := 117) dX6_make_6 (by decide) (by decide) (by decide) (by decide) ?_
    refine mOk.aload0n dX6_make_117 rfl ?_
    refine mOk.aload2n dX6_make_118 rfl ?_
    refine mOk.aload3n dX6_make_119 rfl ?_
    refine mOk.aload4 dX6_make_120 ?_
    refine mOk.callV3 (M' := mX6_takeFirst) dX6_make_122 ml_X6_48 ke_X6_takeFirst (by first | assumption | rfl) (by decide) (by decide) (by simp [Value.category]) (c_first hc1 hf1' ht1 hdj hf1 hf2 (by omega) ?_)
    intro I2 ht2 ho2
    refine mOk.goto (tgt := 128) dX6_make_125 (by decide) ?_
    refine mOk.vret dX6_make_128 rfl (by decide) ?_
    exact hQ I2 ht2 (ho1.tr ho2)
/-- what makes of two rows together -/
theorem c_makeBoth (hT : TOk T) (hc : Cd I cb T) {f2 fa2 fcap2 : Nat} {xs2 zs : List Int32} (hb : ∃ zs, Rw I 85 86 32 zs) (hf : Rw I f fa fcap xs) (hg : Rw I f2 fa2 fcap2 xs2) (hv : okL T (xs ++ xs2)) (ht : Rw I t ta tcap ys) (hdj : ∀ a ∈ cS cb, a ∉ [t, ta, 85, 86]) (hf1 : f ∉ [85, 86]) (hf2 : fa ∉ [85, 86]) (hg1 : f2 ∉ [85, 86]) (hg2 : fa2 ∉ [85, 86]) (ht1 : t ∉ [85, 86]) (ht2 : ta ∉ [85, 86]) (h32 : xs.length + xs2.length ≤ 32) (hfit : pcs T (xs ++ xs2) ≤ tcap) {r : Nat} (hr : r < 6)
    (hQ : ∀ I', Rw I' t ta tcap (ruleF T r (xs ++ xs2)) → (∃ zs, Rw I' 85 86 32 zs) → Off [t, ta, 85, 86] I I' → Q none (hS sw I' J)) : mCl mX6_makeOfBoth 5 0 0 [.ref 84, .int (nI r), .ref cb, .ref f, .ref f2, .ref t] (hS sw I J) Q := by
  obtain ⟨zs, hb⟩ := hb
  refine mCl.of (by decide) rfl (Nat.le_of_ble_eq_true rfl) ?_
  show mOk _ _ _ _ _ [some (.ref 84), some (.int (nI r)), some (.ref cb), some (.ref f), some (.ref f2), some (.ref t)] _ _ _ _ _
  refine mOk.aload0n dX6_makeOfBoth_0 rfl ?_
  refine mOk.getR dX6_makeOfBoth_1 fl_X6_14 (by first | assumption | rfl) (by first | assumption | rfl) ?_
  refine mOk.aload3n dX6_makeOfBoth_4 rfl ?_
  refine mOk.callV1 (M' := mX5_become) dX6_makeOfBoth_5 ml_X6_51 ke_X5_become (by first | assumption | rfl) (by decide) (by decide) (by simp [Value.category]) (c_become hb hf (by omega) (fun z => hf1 (by simp [z])) (fun z => hf1 (by simp [z])) (fun z => hf2 (by simp [z])) (fun z => hf2 (by simp [z])) ?_)
  intro I1 hb1 ho1
  refine mOk.aload0n dX6_makeOfBoth_8 rfl ?_
  refine mOk.getR dX6_makeOfBoth_9 fl_X6_14 (by first | assumption | rfl) (by first | assumption | rfl) ?_
  refine mOk.aload4 dX6_makeOfBoth_12 ?_
  refine mOk.callV1 (M' := mX5_extend) dX6_makeOfBoth_14 ml_X6_34 ke_X5_extend (by first | assumption | rfl) (by decide) (by decide) (by simp [Value.category]) (c_extend hb1 (hg.off ho1 hg1 hg2) (by omega) (fun z => hg1 (by simp [z])) (fun z => hg1 (by simp [z])) (fun z => hg2 (by simp [z])) (fun z => hg2 (by simp [z])) ?_)
  intro I2 hb2 ho2
  have ho := ho1.tr ho2
  refine mOk.aload0n dX6_makeOfBoth_17 rfl ?_
  refine mOk.iload1n dX6_makeOfBoth_18 rfl ?_
  refine mOk.aload2n dX6_makeOfBoth_19 rfl ?_
  refine mOk.aload0n dX6_makeOfBoth_20 rfl ?_
  refine mOk.getR dX6_makeOfBoth_21 fl_X6_14 (by first | assumption | rfl) (by first | assumption | rfl) ?_
  refine mOk.aload5 dX6_makeOfBoth_24 ?_
  refine mOk.callV4 (M' := mX6_make) dX6_makeOfBoth_26 ml_X6_54 ke_X6_make (by first | assumption | rfl) (by decide) (by decide) (by simp [Value.category]) (c_make hT (hc.off ho (fun a ha z => hdj a ha (by simp at z ⊢; omega))) hb2 hv (ht.off ho ht1 ht2) (fun a ha z => hdj a ha (by simp at z ⊢; omega)) (fun z => by simp at z ht1 ht2; omega) (fun z => by simp at z ht1 ht2; omega) hfit hr ?_)
  intro I3 ht3 ho3
  refine mOk.vret dX6_makeOfBoth_29 rfl (by decide) ?_
  exact hQ I3 ht3 ⟨_, hb2.off ho3 (fun z => by simp at z ht1 ht2; omega) (fun z => by simp at z ht1 ht2; omega)⟩ ((ho.up (fun a ha => by simp at ha ⊢; omega)).tr (ho3.up (fun a ha => by simp at ha ⊢; omega)))
/-- the rules of the pipe, one behind the other -/
def pipeF (T : List CR) : List Nat → List Int32 → List Int32
  | [], xs => xs
  | r :: rs, xs => pipeF T rs (ruleF T r xs)
theorem pipe_ok {T : List CR} (hT : TOk T) : ∀ (rs : List Nat) {xs : List Int32}, okL T xs → okL T (pipeF T rs xs) ∧ pcs T (pipeF T rs xs) ≤ pcs T xs
  | [], xs, h => ⟨h, Nat.le_refl _⟩
  | r :: rs, xs, h => by
    obtain ⟨g1, g2⟩ := rule_ok hT h r
    obtain ⟨g3, g4⟩ := pipe_ok hT rs g1
    exact ⟨g3, Nat.le_trans g4 g2⟩
theorem drop_n {xs : List Nat} {i : Nat} (h : i < xs.length) : xs.drop i = xs.getD i 0 :: xs.drop (i + 1) := by
  rw [List.drop_eq_getElem_cons h, List.getD_eq_getElem?_getD, List.getElem?_eq_getElem h]; rfl
theorem map_n {xs : List Nat} {i : Nat} (h : i < xs.length) : (xs.map nI).getD i (-9) = nI (xs.getD i 0) := by
  rw [List.getD_eq_getElem?_getD, List.getD_eq_getElem?_getD, List.getElem?_map, List.getElem?_eq_getElem h]; rfl
theorem l_through {I0 : Nat → Nat → Int32} {pr pa pcap : Nat} {rs : List Nat} (hrs : ∀ r ∈ rs, r < 6) (hT : TOk T) (hdj : ∀ a ∈ cS cb, a ∉ [t, ta, 87, 88]) (hp1 : pr ∉ [t, ta, 87, 88]) (hp2 : pa ∉ [t, ta, 87, 88]) (ht1 : t ∉ [87, 88]) (ht2 : ta ∉ [87, 88]) (hcap : tcap = 128) {zs : List Int32}
    (hQ : ∀ I' ws, Rw I' t ta tcap (pipeF T rs zs) → Rw I' 87 88 128 ws → Off [t, ta, 87, 88] I0 I' → Q none (hS sw I' J)) :
    ∀ (m i : Nat) (I : Nat → Nat → Int32) (xs ws : List Int32), i + m = rs.length → pipeF T rs zs = pipeF T (rs.drop i) xs → Cd I cb T → Rw I pr pa pcap (rs.map nI) → Rw I t ta tcap xs → Rw I 87 88 128 ws → okL T xs → pcs T xs ≤ 128 → Off [t, ta, 87, 88] I0 I →
    mOk mX6_goThrough 5 0 0 3 [some (.ref 84), some (.ref pr), some (.ref cb), some (.ref t), some (.int (nI i))] [] (hS sw I J) 0 0 Q := by
  intro m
  induction m with
  | zero =>
    intro i I xs ws hi hs hc hp ht hw hv hl ho
    obtain ⟨p0, -⟩ := id hp.1
    have b1 := hp.1.2.2.2.1
    have b2 := hp.2.1
    rw [List.length_map] at b2
    refine mOk.iload4 dX6_goThrough_3 ?_
    refine mOk.aload1n dX6_goThrough_5 rfl ?_
    refine mOk.callV0 (M' := mX5_length) dX6_goThrough_6 ml_X6_58 ke_X5_length (by first | assumption | rfl) (by decide) (by decide) (by simp [Value.category]) (c_length hp ?_)
    rw [List.length_map]
    refine mOk.icge (tgt := 42) dX6_goThrough_9 (by decide) (fun c9 => ?_) (fun c9 => absurd ((nI_le' (by omega) (by omega)).mpr (by omega)) c9)
    refine mOk.vret dX6_goThrough_42 rfl (by decide) ?_
    rw [List.drop_of_length_le (by omega), pipeF] at hs
    exact hQ I ws (by rw [hs]; exact ht) hw ho
  | succ m ih =>
    intro i I xs ws hi hs hc hp ht hw hv hl ho
    obtain ⟨p0, -⟩ := id hp.1
    obtain ⟨t0, -⟩ := id ht.1
    have b1 := hp.1.2.2.2.1
    have b2 := hp.2.1
    rw [List.length_map] at b2
    rw [drop_n (by omega), pipeF] at hs
    have hr6 : rs.getD i 0 < 6 := hrs _ (by rw [List.getD_eq_getElem?_getD, List.getElem?_eq_getElem (by omega)]; exact List.getElem_mem _)
    obtain ⟨g1, g2⟩ := rule_ok hT hv (rs.getD i 0)
    have g3 := len_pcs hT g1
    refine mOk.iload4 dX6_goThrough_3 ?_
    refine mOk.aload1n dX6_goThrough_5 rfl ?_
    refine mOk.callV0 (M' := mX5_length) dX6_goThrough_6 ml_X6_58 ke_X5_length (by first | assumption | rfl) (by decide) (by decide) (by simp [Value.category]) (c_length hp ?_)
    rw [List.length_map]
    refine mOk.icge (tgt := 42) dX6_goThrough_9 (by decide) (fun c9 => absurd c9 (mt (nI_le' (by omega) (by omega)).mp (by omega))) (fun c9 => ?_)
    refine mOk.aload0n dX6_goThrough_12 rfl ?_
    refine mOk.aload1n dX6_goThrough_13 rfl ?_
    refine mOk.iload4 dX6_goThrough_14 ?_
    refine mOk.callV1 (M' := mX5_cell) dX6_goThrough_16 ml_X6_62 ke_X5_cell (by first | assumption | rfl) (by decide) (by decide) (by simp [Value.category]) (c_cell_in hp (by rw [List.length_map]; omega) ?_)
    rw [map_n (by omega)]
    refine mOk.aload2n dX6_goThrough_19 rfl ?_
    refine mOk.aload3n dX6_goThrough_20 rfl ?_
    refine mOk.aload0n dX6_goThrough_21 rfl ?_
    refine mOk.getR dX6_goThrough_22 fl_X6_20 (by first | assumption | rfl) (by first | assumption | rfl) ?_
    refine mOk.callV4 (M' := mX6_make) dX6_goThrough_25 ml_X6_54 ke_X6_make (by first | assumption | rfl) (by decide) (by decide) (by simp [Value.category]) (c_make hT hc ht hv hw (fun a ha z => hdj a ha (by simp at z ⊢; omega)) ht1 ht2 (by omega) hr6 ?_)
    intro I1 hw1 ho1
    refine mOk.aload3n dX6_goThrough_28 rfl ?_
    refine mOk.aload0n dX6_goThrough_29 rfl ?_
    refine mOk.getR dX6_goThrough_30 fl_X6_20 (by first | assumption | rfl) (by first | assumption | rfl) ?_
    refine mOk.callV1 (M' := mX5_become) dX6_goThrough_33 ml_X6_51 ke_X5_become (by first | assumption | rfl) (by decide) (by decide) (by simp [Value.category]) (c_become (ht.off ho1 ht1 ht2) hw1 (by omega) (fun z => ht1 (by simp [← z])) (fun z => ht2 (by simp [← z])) (fun z => ht1 (by simp [← z])) (fun z => ht2 (by simp [← z])) ?_)
    intro I2 ht2' ho2
    refine mOk.iinc4 dX6_goThrough_36 (mOk.inc1 rfl) (by decide) rfl ?_
    refine mOk.goto (tgt := 3) dX6_goThrough_39 (by decide) ?_
    have ho12 : Off [t, ta, 87, 88] I I2 := (ho1.up (fun a ha => by simp at ha ⊢; omega)).tr (ho2.up (fun a ha => by simp at ha ⊢; omega))
    exact ih (i + 1) I2 _ (ruleF T (rs.getD i 0) xs) (by omega) hs (hc.off ho12 hdj) (hp.off ho12 hp1 hp2) ht2' (hw1.off ho2 (by simp at ht1 ht2 ⊢; omega) (by simp at ht1 ht2 ⊢; omega)) g1 (by omega) (ho.tr ho12)
theorem c_through {pr pa pcap : Nat} {rs : List Nat} (hrs : ∀ r ∈ rs, r < 6) (hT : TOk T) (hc : Cd I cb T) (hp : Rw I pr pa pcap (rs.map nI)) {tb : Nat} (ht : Rw I t tb 128 xs) {ws : List Int32} (hw : Rw I 87 88 128 ws) (hv : okL T xs) (hl : pcs T xs ≤ 128) (hdj : ∀ a ∈ cS cb, a ∉ [t, tb, 87, 88]) (hp1 : pr ∉ [t, tb, 87, 88]) (hp2 : pa ∉ [t, tb, 87, 88]) (ht1 : t ∉ [87, 88]) (ht2 : tb ∉ [87, 88])
    (hQ : ∀ I' ws, Rw I' t tb 128 (pipeF T rs xs) → Rw I' 87 88 128 ws → Off [t, tb, 87, 88] I I' → Q none (hS sw I' J)) : mCl mX6_goThrough 5 0 0 [.ref 84, .ref pr, .ref cb, .ref t] (hS sw I J) Q := by
  refine mCl.of (by decide) rfl (Nat.le_of_ble_eq_true rfl) ?_
  show mOk _ _ _ _ _ [some (.ref 84), some (.ref pr), some (.ref cb), some (.ref t), none] _ _ _ _ _
  refine mOk.iconst (x := nI 0) dX6_goThrough_0 (by decide) ?_
  refine mOk.istore4 dX6_goThrough_1 (by decide) rfl ?_
  exact l_through hrs hT hdj hp1 hp2 ht1 ht2 rfl hQ rs.length 0 I xs ws (Nat.zero_add _) rfl hc hp ht hw hv hl Off.rf
end MAKE
