/-! ===== the reference: reading ===== -/
def MT (I : Nat → Nat → Int32) (bs : List Nat) : Prop := I 97 8 = nI bs.length ∧ bs.length ≤ 150 ∧ (∀ b ∈ bs, b < 256) ∧ ∀ j, j < bs.length → I 104 j = nI (bs.getD j 0)
theorem MT.of {F S : List Nat} {I I' : Nat → Nat → Int32} {bs : List Nat} (h : MT I bs) (ho : Of F S I I') (hF : 8 ∉ F) (hS : 104 ∉ S) : MT I' bs := ⟨by rw [ho.2 8 hF]; exact h.1, h.2.1, h.2.2.1, by rw [ho.1 104 (by decide) hS]; exact h.2.2.2⟩
theorem MT.lt {I : Nat → Nat → Int32} {bs : List Nat} (h : MT I bs) {k : Nat} (hk : k < bs.length) : bs.getD k 0 < 256 := h.2.2.1 _ (by rw [List.getD_eq_getElem?_getD, List.getElem?_eq_getElem hk]; exact List.getElem_mem _)
theorem lead0 {f : Nat → Bool} {bs : List Nat} {p : Nat} : lead f (bs.drop (p + lead f (bs.drop p))) = 0 := by
  generalize hm : bs.length - p = m
  induction m generalizing p with
  | zero => rw [lead_end (k := p) (by omega), Nat.add_zero, lead_end (by omega)]
  | succ m ih =>
    have hd := lead_drop (f := f) (bs := bs) (k := p) (by omega)
    by_cases z : f (bs.getD p 0) = true
    · rw [if_pos z] at hd
      have := ih (p := p + 1) (by omega)
      rw [hd, show p + (lead f (bs.drop (p + 1)) + 1) = p + 1 + lead f (bs.drop (p + 1)) by omega]
      exact this
    · rw [if_neg z] at hd
      rw [hd, Nat.add_zero, hd]
theorem skp_skp (bs : List Nat) (p : Nat) : skp bs (skp bs p) = skp bs p := by
  show skp bs p + lead isB (bs.drop (p + lead isB (bs.drop p))) = _
  rw [lead0]
  rfl
def vd (bs : List Nat) (s : Nat) : Nat → Nat
  | 0 => 0
  | 1 => bs.getD s 0 - 48
  | _ + 2 => 10 * (bs.getD s 0 - 48) + (bs.getD (s + 1) 0 - 48)
theorem vd_0 (bs : List Nat) (s : Nat) : vd bs s 0 = 0 := rfl
theorem vd_1 (bs : List Nat) (s : Nat) : vd bs s 1 = bs.getD s 0 - 48 := rfl
theorem vd_2 (bs : List Nat) (s i : Nat) : vd bs s (i + 2) = 10 * (bs.getD s 0 - 48) + (bs.getD (s + 1) 0 - 48) := rfl
theorem nv_100 : ∀ xs : List Nat, nv 100 xs = 100
  | [] => rfl
  | x :: xs => by
    unfold nv
    rw [show min (100 * 10 + x - 48) 100 = 100 by omega]
    exact nv_100 xs
theorem run_in {bs : List Nat} {s : Nat} (h : 1 ≤ runD bs s) : s < bs.length ∧ isD (bs.getD s 0) = true ∧ runD bs s = runD bs (s + 1) + 1 := by
  unfold runD at h ⊢
  have hs : s < bs.length := by
    rcases Nat.lt_or_ge s bs.length with z | z
    · exact z
    · rw [lead_end z] at h
      omega
  have hd := lead_drop (f := isD) (bs := bs) (k := s) hs
  by_cases z : isD (bs.getD s 0) = true
  · rw [if_pos z] at hd
    exact ⟨hs, z, hd⟩
  · rw [if_neg z] at hd
    omega
theorem isLD {k : Nat} (h : isD k = true) : ¬ isL k = true := by
  rw [isD_iff] at h
  rw [isL_iff]
  omega
theorem num_in {bs : List Nat} {s : Nat} (h : 1 ≤ runD bs s) : tkE bs s = s + runD bs s ∧ tkV bs s = numV bs s ∧ (tkK bs s = 2 ↔ ¬ (1 < runD bs s ∧ bs.getD s 0 = 48) ∧ numV bs s ≤ 99) := by
  obtain ⟨h1, h2, h3⟩ := run_in h
  have h4 := isLD h2
  refine ⟨?_, ?_, ?_⟩
  · unfold tkE
    rw [if_neg (by omega), if_neg h4, if_pos h2]
  · unfold tkV
    rw [if_neg h4]
  · unfold tkK
    rw [if_neg (by omega), if_neg h4, if_pos h2]
    by_cases z : (1 < runD bs s ∧ bs.getD s 0 = 48) ∨ 99 < numV bs s
    · rw [if_pos z]
      constructor
      · intro w; omega
      · rintro ⟨w1, w2⟩
        rcases z with z | z
        · exact absurd z w1
        · omega
    · rw [if_neg z]
      exact ⟨fun _ => ⟨fun w => z (Or.inl w), by have := fun w => z (Or.inr w); omega⟩, fun _ => rfl⟩
theorem num_v {bs : List Nat} {s : Nat} (h : 1 ≤ runD bs s) : (runD bs s ≤ 2 → numV bs s = vd bs s (runD bs s) ∧ numV bs s ≤ 99) ∧ (3 ≤ runD bs s → ¬ bs.getD s 0 = 48 → numV bs s = 100) := by
  obtain ⟨h1, h2, h3⟩ := run_in h
  have d1 := isD_iff.mp h2
  constructor
  · intro hn
    unfold numV
    rcases (show runD bs s = 1 ∨ runD bs s = 2 by omega) with e | e
    · rw [e, drop_n h1, vd_1]
      generalize bs.getD s 0 = x at d1 ⊢
      show min (0 * 10 + x - 48) 100 = x - 48 ∧ min (0 * 10 + x - 48) 100 ≤ 99
      omega
    · obtain ⟨g1, g2, g3⟩ := run_in (bs := bs) (s := s + 1) (by omega)
      have d2 := isD_iff.mp g2
      rw [e, drop_n h1, drop_n g1, vd_2 bs s 0]
      generalize bs.getD s 0 = x at d1 ⊢
      generalize bs.getD (s + 1) 0 = y at d2 ⊢
      show min (min (0 * 10 + x - 48) 100 * 10 + y - 48) 100 = 10 * (x - 48) + (y - 48) ∧ min (min (0 * 10 + x - 48) 100 * 10 + y - 48) 100 ≤ 99
      omega
  · intro hn h48
    obtain ⟨g1, g2, g3⟩ := run_in (bs := bs) (s := s + 1) (by omega)
    have d2 := isD_iff.mp g2
    obtain ⟨k1, k2, k3⟩ := run_in (bs := bs) (s := s + 1 + 1) (by omega)
    have d3 := isD_iff.mp k2
    unfold numV
    obtain ⟨m, hm⟩ : ∃ m, runD bs s = m + 3 := ⟨runD bs s - 3, by omega⟩
    rw [hm, drop_n h1, drop_n g1, drop_n k1]
    generalize bs.getD s 0 = x at d1 h48 ⊢
    generalize bs.getD (s + 1) 0 = y at d2 ⊢
    generalize bs.getD (s + 1 + 1) 0 = z at d3 ⊢
    show nv (min (min (min (0 * 10 + x - 48) 100 * 10 + y - 48) 100 * 10 + z - 48) 100) ((bs.drop (s + 1 + 1 + 1)).take m) = 100
    rw [show min (min (min (0 * 10 + x - 48) 100 * 10 + y - 48) 100 * 10 + z - 48) 100 = 100 by omega]
    exact nv_100 _
theorem tk2_run {bs : List Nat} {s : Nat} (h : tkK bs s = 2) : 1 ≤ runD bs s := by
  unfold tkK at h
  split at h
  · omega
  · next hs =>
    split at h
    · omega
    · split at h
      · next hd =>
        have := lead_drop (f := isD) (bs := bs) (k := s) (by omega)
        rw [if_pos hd] at this
        unfold runD
        omega
      · split at h <;> omega
theorem tk2_iff {bs : List Nat} {s H : Nat} (hH : H ≤ 100) : (tkK bs s = 2 ∧ tkV bs s < H) ↔ ((1 ≤ runD bs s ∧ runD bs s ≤ 2) ∧ ¬ (1 < runD bs s ∧ bs.getD s 0 = 48) ∧ vd bs s (runD bs s) < H) := by
  constructor
  · rintro ⟨h1, h2⟩
    have hr := tk2_run h1
    obtain ⟨a1, a2, a3⟩ := num_in hr
    obtain ⟨b1, b2⟩ := num_v hr
    obtain ⟨c1, c2⟩ := a3.mp h1
    have hle : runD bs s ≤ 2 := by
      rcases Nat.lt_or_ge 2 (runD bs s) with z | z
      · have := b2 (by omega) (fun w => c1 ⟨by omega, w⟩)
        omega
      · exact z
    exact ⟨⟨hr, hle⟩, c1, by rw [← (b1 hle).1, ← a2]; exact h2⟩
  · rintro ⟨⟨hr, hle⟩, c1, h2⟩
    obtain ⟨a1, a2, a3⟩ := num_in hr
    obtain ⟨b1, b2⟩ := num_v hr
    exact ⟨a3.mpr ⟨c1, (b1 hle).2⟩, by rw [a2, (b1 hle).1]; exact h2⟩
theorem tk3_iff {bs : List Nat} {s : Nat} : tkK bs s = 3 ↔ (s < bs.length ∧ bs.getD s 0 = 59) := by
  unfold tkK
  constructor
  · intro h
    split at h
    · omega
    · split at h
      · omega
      · split at h
        · split at h <;> omega
        · split at h
          · next hs _ _ h59 => exact ⟨by omega, h59⟩
          · omega
  · rintro ⟨h1, h2⟩
    rw [if_neg (by omega), h2, if_neg (by decide), if_neg (by decide), if_pos rfl]
theorem tk3_e {bs : List Nat} {s : Nat} (h : s < bs.length ∧ bs.getD s 0 = 59) : tkE bs s = s + 1 := by
  unfold tkE
  rw [if_neg (by omega), h.2, if_neg (by decide), if_neg (by decide)]
section MODEL3
variable {sw : Bool} {I : Nat → Nat → Int32} {J : Nat → Nat → Int64} {Q : Option Value → mi_H → Prop} {T : List CR} {bs : List Nat} {p : Nat}
theorem c_here_in (h : MT I bs) (hp : I 97 9 = nI p) (hl : p < bs.length) (hQ : Q (some (.int (nI (bs.getD p 0)))) (hS sw I J)) : mCl mX9_here 0 0 0 [.ref 97] (hS sw I J) Q := by
  have hb := h.2.1
  refine mCl.of (by decide) rfl (Nat.le_of_ble_eq_true rfl) ?_
  show mOk _ _ _ _ _ [some (.ref 97)] _ _ _ _ _
  refine mOk.aload0n dX9_here_0 rfl ?_
  refine mOk.getIv dX9_here_1 fl_X9_85 (by first | assumption | rfl) hp ?_
  refine mOk.aload0n dX9_here_4 rfl ?_
  refine mOk.getIv dX9_here_5 fl_X9_82 (by first | assumption | rfl) h.1 ?_
  refine mOk.icge (tgt := 23) dX9_here_8 (by decide) (fun c8 => absurd c8 (mt (nI_le' (by omega) (by omega)).mp (by omega))) (fun c8 => ?_)
  refine mOk.aload0n dX9_here_11 rfl ?_
  refine mOk.getR dX9_here_12 fl_X9_28 (by first | assumption | rfl) (by first | assumption | rfl) ?_
  refine mOk.aload0n dX9_here_15 rfl ?_
  refine mOk.getIv dX9_here_16 fl_X9_85 (by first | assumption | rfl) hp ?_
  refine mOk.ialdv dX9_here_19 (by first | assumption | rfl) rfl (by omega) (by first | assumption | decide | omega) (h.2.2.2 p hl) ?_
  refine mOk.goto (tgt := 25) dX9_here_20 (by decide) ?_
  refine mOk.iret dX9_here_25 rfl hQ
theorem c_here_out (h : MT I bs) (hp : I 97 9 = nI p) (hpl : p ≤ bs.length) (hl : bs.length ≤ p) (hQ : Q (some (.int (-9))) (hS sw I J)) : mCl mX9_here 0 0 0 [.ref 97] (hS sw I J) Q := by
  have hb := h.2.1
  refine mCl.of (by decide) rfl (Nat.le_of_ble_eq_true rfl) ?_
  show mOk _ _ _ _ _ [some (.ref 97)] _ _ _ _ _
  refine mOk.aload0n dX9_here_0 rfl ?_
  refine mOk.getIv dX9_here_1 fl_X9_85 (by first | assumption | rfl) hp ?_
  refine mOk.aload0n dX9_here_4 rfl ?_
  refine mOk.getIv dX9_here_5 fl_X9_82 (by first | assumption | rfl) h.1 ?_
  refine mOk.icge (tgt := 23) dX9_here_8 (by decide) (fun c8 => ?_) (fun c8 => absurd ((nI_le' (by omega) (by omega)).mpr (by omega)) c8)
  refine mOk.bipush (x := -9) dX9_here_23 (by decide) ?_
  refine mOk.iret dX9_here_25 rfl hQ
theorem l_skip {I0 : Nat → Nat → Int32} {p0 : Nat} (hQ : ∀ I', I' 97 9 = nI (skp bs p0) → Of [9] [] I0 I' → Q none (hS sw I' J)) :
    ∀ (m p : Nat) (I : Nat → Nat → Int32), p + m = bs.length → skp bs p = skp bs p0 → MT I bs → I 97 9 = nI p → Of [9] [] I0 I → mOk mX9_skip 1 0 0 0 [some (.ref 97)] [] (hS sw I J) 0 0 Q := by
  intro m
  induction m with
  | zero =>
    intro p I hm hs hT hp ho
    refine mOk.aload0n dX9_skip_0 rfl ?_
    refine mOk.callV0 (M' := mX9_here) dX9_skip_1 ml_X9_88 ke_X9_here (by first | assumption | rfl) (by decide) (by decide) (by simp [Value.category]) (c_here_out hT hp (by omega) (by omega) ?_)
    refine mOk.bipush (x := nI 32) dX9_skip_4 (by decide) ?_
    refine mOk.icne (tgt := 22) dX9_skip_6 (by decide) (fun c6 => ?_) (fun c6 => absurd c6 ((by decide)))
    refine mOk.vret dX9_skip_22 rfl (by decide) ?_
    refine hQ I ?_ ho
    rw [← hs]
    unfold skp
    rw [lead_end (by omega), Nat.add_zero]
    exact hp
  | succ m ih =>
    intro p I hm hs hT hp ho
    have hb := hT.lt (k := p) (by omega)
    have hd := lead_drop (f := isB) (bs := bs) (k := p) (by omega)
    refine mOk.aload0n dX9_skip_0 rfl ?_
    refine mOk.callV0 (M' := mX9_here) dX9_skip_1 ml_X9_88 ke_X9_here (by first | assumption | rfl) (by decide) (by decide) (by simp [Value.category]) (c_here_in hT hp (by omega) ?_)
    refine mOk.bipush (x := nI 32) dX9_skip_4 (by decide) ?_
    refine mOk.icne (tgt := 22) dX9_skip_6 (by decide) (fun c6 => ?_) (fun c6 => ?_)
    · refine mOk.vret dX9_skip_22 rfl (by decide) ?_
      refine hQ I ?_ ho
      rw [← hs]
      unfold skp
      rw [hd, if_neg, Nat.add_zero]
      · exact hp
      · intro z
        have : bs.getD p 0 = 32 := by simpa [isB] using z
        exact c6 (by rw [this])
    · have h32 := (nI_eq' (by omega) (by omega)).mp c6
      refine mOk.aload0n dX9_skip_9 rfl ?_
      refine mOk.dup dX9_skip_10 rfl ?_
      refine mOk.getIv dX9_skip_11 fl_X9_85 (by first | assumption | rfl) hp ?_
      refine mOk.iconst (x := nI 1) dX9_skip_14 (by decide) ?_
      refine mOk.iadd dX9_skip_15 ?_
      refine mOk.top ((nI_add _ _)) ?_
      refine mOk.putIt dX9_skip_16 fl_X9_85 (by first | assumption | rfl) ?_
      refine mOk.goto (tgt := 0) dX9_skip_19 (by decide) ?_
      have o1 : Of [9] [] I (wI I 97 9 (nI (p + 1))) := Of.f (by decide)
      refine ih (p + 1) _ (by omega) ?_ (hT.of o1 (by decide) (by decide)) (wI_s _ _ _ _) (ho.tr o1)
      rw [← hs]
      unfold skp
      rw [hd, if_pos (by rw [h32]; rfl)]
      omega
theorem c_skip (hT : MT I bs) (hp : I 97 9 = nI p) (hpl : p ≤ bs.length) (hQ : ∀ I', I' 97 9 = nI (skp bs p) → Of [9] [] I I' → Q none (hS sw I' J)) : mCl mX9_skip 1 0 0 [.ref 97] (hS sw I J) Q := by
  refine mCl.of (by decide) rfl (Nat.le_of_ble_eq_true rfl) ?_
  show mOk _ _ _ _ _ [some (.ref 97)] _ _ _ _ _
  exact l_skip hQ (bs.length - p) p I (by omega) rfl hT hp Of.rf
theorem l_number {H s : Nat} (hH : H ≤ 100) (hs : s ≤ bs.length) (hT : MT I bs) (hp : I 97 9 = nI s)
    (hQ1 : tkK bs s = 2 → tkV bs s < H → ∀ I', I' 97 9 = nI (tkE bs s) → I' 97 10 = nI (tkV bs s) → Of [9, 10] [] I I' → Q (some (.int 1)) (hS sw I' J))
    (hQ0 : ¬ (tkK bs s = 2 ∧ tkV bs s < H) → Q (some (.int 0)) (hS sw I J)) :
    ∀ (m k : Nat), s + k + m = bs.length → k + runD bs (s + k) = runD bs s → vd bs s k ≤ 99 → mOk mX9_number 2 0 0 9 [some (.ref 97), some (.int (nI 0)), some (.int (nI H - nI 1)), some (.int (nI k)), some (.int (nI (vd bs s k)))] [] (hS sw I J) 0 0 Q := by
  have hb := hT.2.1
  have fin : ∀ k, s + k ≤ bs.length → k = runD bs s → vd bs s k ≤ 99 → mOk mX9_number 2 0 0 81 [some (.ref 97), some (.int (nI 0)), some (.int (nI H - nI 1)), some (.int (nI k)), some (.int (nI (vd bs s k)))] [] (hS sw I J) 0 0 Q := by
    intro k hk he hv
    have bad : ¬ (tkK bs s = 2 ∧ tkV bs s < H) → mOk mX9_number 2 0 0 114 [some (.ref 97), some (.int (nI 0)), some (.int (nI H - nI 1)), some (.int (nI k)), some (.int (nI (vd bs s k)))] [] (hS sw I J) 0 0 Q := by
      intro z
      refine mOk.iconst (x := 0) dX9_number_114 (by decide) ?_
      refine mOk.zret dX9_number_115 rfl (by decide) ?_
      exact hQ0 z
    have last : (1 ≤ k ∧ k ≤ 2) → ¬ (1 < k ∧ bs.getD s 0 = 48) → mOk mX9_number 2 0 0 104 [some (.ref 97), some (.int (nI 0)), some (.int (nI H - nI 1)), some (.int (nI k)), some (.int (nI (vd bs s k)))] [] (hS sw I J) 0 0 Q := by
      intro h1 h2
      by_cases z : vd bs s k < H
      · obtain ⟨g1, g2⟩ := (tk2_iff (bs := bs) (s := s) hH).mpr ⟨by omega, by rw [← he]; exact h2, by rw [← he]; exact z⟩
        obtain ⟨a1, a2, a3⟩ := num_in (bs := bs) (s := s) (by omega)
        obtain ⟨b1, b2⟩ := num_v (bs := bs) (s := s) (by omega)
        refine mOk.iload4 dX9_number_104 ?_
        refine mOk.iload1n dX9_number_106 rfl ?_
        refine mOk.iload2n dX9_number_107 rfl ?_
        refine mOk.callS3 (M' := mX9_in) dX9_number_108 ml_X9_66 ke_X9_in rfl (by decide) (by decide) (by simp [Value.category]) (c_in_y (mt (nI_lt' (by omega) (by omega)).mp (by omega)) (nlt_pred (by omega) z) ?_)
        refine mOk.ifne (tgt := 116) dX9_number_111 (by decide) (fun c111 => ?_) (fun c111 => absurd c111 ((by decide)))
        refine mOk.aload0n dX9_number_116 rfl ?_
        refine mOk.iload4 dX9_number_117 ?_
        refine mOk.putIt dX9_number_119 fl_X9_95 (by first | assumption | rfl) ?_
        have hp1 : wI I 97 10 (nI (vd bs s k)) 97 9 = nI s := (wI_j (by decide)).trans hp
        refine mOk.aload0n dX9_number_122 rfl ?_
        refine mOk.dup dX9_number_123 rfl ?_
        refine mOk.getIv dX9_number_124 fl_X9_85 (by first | assumption | rfl) hp1 ?_
        refine mOk.iload3n dX9_number_127 rfl ?_
        refine mOk.iadd dX9_number_128 ?_
        refine mOk.top ((nI_add _ _)) ?_
        refine mOk.putIt dX9_number_129 fl_X9_85 (by first | assumption | rfl) ?_
        refine mOk.iconst (x := 1) dX9_number_132 (by decide) ?_
        refine mOk.zret dX9_number_133 rfl (by decide) ?_
        refine hQ1 g1 g2 _ ?_ ?_ ((Of.f (by decide)).tr (Of.f (by decide)))
        · rw [wI_s, a1, he]
        · rw [wI_j (by decide), wI_s, a2, (b1 (by omega)).1, ← he]
      · refine mOk.iload4 dX9_number_104 ?_
        refine mOk.iload1n dX9_number_106 rfl ?_
        refine mOk.iload2n dX9_number_107 rfl ?_
        refine mOk.callS3 (M' := mX9_in) dX9_number_108 ml_X9_66 ke_X9_in rfl (by decide) (by decide) (by simp [Value.category]) (c_in_n (Or.inr (lt_pred (by omega) ((nI_le' (by omega) (by omega)).mpr (by omega)))) ?_)
        refine mOk.ifne (tgt := 116) dX9_number_111 (by decide) (fun c111 => absurd (rfl) c111) (fun c111 => ?_)
        exact bad (fun w => z (by have := ((tk2_iff hH).mp w).2.2; rw [← he] at this; exact this))
    by_cases z1 : 1 ≤ k ∧ k ≤ 2
    · refine mOk.iload3n dX9_number_81 rfl ?_
      refine mOk.iconst (x := nI 1) dX9_number_82 (by decide) ?_
      refine mOk.iconst (x := nI 2) dX9_number_83 (by decide) ?_
      refine mOk.callS3 (M' := mX9_in) dX9_number_84 ml_X9_66 ke_X9_in rfl (by decide) (by decide) (by simp [Value.category]) (c_in_y (mt (nI_lt' (by omega) (by omega)).mp (by omega)) (mt (nI_lt' (by omega) (by omega)).mp (by omega)) ?_)
      refine mOk.ifeq (tgt := 114) dX9_number_87 (by decide) (fun c87 => absurd c87 ((by decide))) (fun c87 => ?_)
      refine mOk.iload3n dX9_number_90 rfl ?_
      refine mOk.iconst (x := nI 1) dX9_number_91 (by decide) ?_
      refine mOk.icle (tgt := 104) dX9_number_92 (by decide) (fun c92 => ?_) (fun c92 => ?_)
      · have := (nI_le' (by omega) (by omega)).mp c92
        exact last z1 (fun w => by omega)
      · have h1k := mt (nI_le' (by omega) (by omega)).mpr c92
        have hsl : s < bs.length := by omega
        have hlt := hT.lt hsl
        refine mOk.aload0n dX9_number_95 rfl ?_
        refine mOk.callV0 (M' := mX9_here) dX9_number_96 ml_X9_88 ke_X9_here (by first | assumption | rfl) (by decide) (by decide) (by simp [Value.category]) (c_here_in hT hp hsl ?_)
        refine mOk.bipush (x := nI 48) dX9_number_99 (by decide) ?_
        refine mOk.iceq (tgt := 114) dX9_number_101 (by decide) (fun c101 => ?_) (fun c101 => ?_)
        · have := (nI_eq' (by omega) (by omega)).mp c101
          exact bad (fun w => ((tk2_iff hH).mp w).2.1 ⟨by omega, this⟩)
        · exact last z1 (fun w => c101 (by rw [w.2]))
    · have ho : nI k < nI 1 ∨ nI 2 < nI k := by
        rcases Nat.lt_or_ge k 1 with w | w
        · exact Or.inl ((nI_lt' (by omega) (by omega)).mpr w)
        · exact Or.inr ((nI_lt' (by omega) (by omega)).mpr (by omega))
      refine mOk.iload3n dX9_number_81 rfl ?_
      refine mOk.iconst (x := nI 1) dX9_number_82 (by decide) ?_
      refine mOk.iconst (x := nI 2) dX9_number_83 (by decide) ?_
      refine mOk.callS3 (M' := mX9_in) dX9_number_84 ml_X9_66 ke_X9_in rfl (by decide) (by decide) (by simp [Value.category]) (c_in_n ho ?_)
      refine mOk.ifeq (tgt := 114) dX9_number_87 (by decide) (fun c87 => ?_) (fun c87 => absurd (rfl) c87)
      exact bad (fun w => z1 (by have := ((tk2_iff hH).mp w).1; omega))
  intro m
  induction m with
  | zero =>
    intro k hk hr hv
    refine mOk.aload0n dX9_number_9 rfl ?_
    refine mOk.getIv dX9_number_10 fl_X9_85 (by first | assumption | rfl) hp ?_
    refine mOk.iload3n dX9_number_13 rfl ?_
    refine mOk.iadd dX9_number_14 ?_
    refine mOk.top ((nI_add _ _)) ?_
    refine mOk.aload0n dX9_number_15 rfl ?_
    refine mOk.getIv dX9_number_16 fl_X9_82 (by first | assumption | rfl) hT.1 ?_
    refine mOk.icge (tgt := 81) dX9_number_19 (by decide) (fun c19 => ?_) (fun c19 => absurd ((nI_le' (by omega) (by omega)).mpr (by omega)) c19)
    exact fin k (by omega) (by rw [← hr]; unfold runD; rw [lead_end (by omega)]; omega) hv
  | succ m ih =>
    intro k hk hr hv
    have hkl : s + k < bs.length := by omega
    have hlt := hT.lt hkl
    have hd := lead_drop (f := isD) (bs := bs) (k := s + k) hkl
    refine mOk.aload0n dX9_number_9 rfl ?_
    refine mOk.getIv dX9_number_10 fl_X9_85 (by first | assumption | rfl) hp ?_
    refine mOk.iload3n dX9_number_13 rfl ?_
    refine mOk.iadd dX9_number_14 ?_
    refine mOk.top ((nI_add _ _)) ?_
    refine mOk.aload0n dX9_number_15 rfl ?_
    refine mOk.getIv dX9_number_16 fl_X9_82 (by first | assumption | rfl) hT.1 ?_
    refine mOk.icge (tgt := 81) dX9_number_19 (by decide) (fun c19 => absurd c19 (mt (nI_le' (by omega) (by omega)).mp (by omega))) (fun c19 => ?_)
    by_cases z : isD (bs.getD (s + k) 0) = true
    · have hz := isD_iff.mp z
      rw [if_pos z] at hd
      have hr' : k + 1 + runD bs (s + (k + 1)) = runD bs s := by
        rw [← hr]
        unfold runD
        rw [hd, show s + (k + 1) = s + k + 1 by omega]
        omega
      refine mOk.aload0n dX9_number_22 rfl ?_
      refine mOk.getR dX9_number_23 fl_X9_28 (by first | assumption | rfl) (by first | assumption | rfl) ?_
      refine mOk.aload0n dX9_number_26 rfl ?_
      refine mOk.getIv dX9_number_27 fl_X9_85 (by first | assumption | rfl) hp ?_
      refine mOk.iload3n dX9_number_30 rfl ?_
      refine mOk.iadd dX9_number_31 ?_
      refine mOk.top ((nI_add _ _)) ?_
      refine mOk.ialdv dX9_number_32 (by first | assumption | rfl) rfl (by omega) (by first | assumption | decide | omega) (hT.2.2.2 _ hkl) ?_
      refine mOk.bipush (x := nI 48) dX9_number_33 (by decide) ?_
      refine mOk.bipush (x := nI 57) dX9_number_35 (by decide) ?_
      refine mOk.callS3 (M' := mX9_in) dX9_number_37 ml_X9_66 ke_X9_in rfl (by decide) (by decide) (by simp [Value.category]) (c_in_y (mt (nI_lt' (by omega) (by omega)).mp (by omega)) (mt (nI_lt' (by omega) (by omega)).mp (by omega)) ?_)
      refine mOk.ifeq (tgt := 81) dX9_number_40 (by decide) (fun c40 => absurd c40 ((by decide))) (fun c40 => ?_)
      by_cases z2 : k < 2
      · refine mOk.iload3n dX9_number_43 rfl ?_
        refine mOk.iconst (x := nI 2) dX9_number_44 (by decide) ?_
        refine mOk.icge (tgt := 71) dX9_number_45 (by decide) (fun c45 => absurd c45 (mt (nI_le' (by omega) (by omega)).mp (by omega))) (fun c45 => ?_)
        refine mOk.bipush (x := nI 10) dX9_number_48 (by decide) ?_
        refine mOk.iload4 dX9_number_50 ?_
        refine mOk.imul dX9_number_52 ?_
        refine mOk.top ((pk_mul _ _)) ?_
        refine mOk.aload0n dX9_number_53 rfl ?_
        refine mOk.getR dX9_number_54 fl_X9_28 (by first | assumption | rfl) (by first | assumption | rfl) ?_
        refine mOk.aload0n dX9_number_57 rfl ?_
        refine mOk.getIv dX9_number_58 fl_X9_85 (by first | assumption | rfl) hp ?_
        refine mOk.iload3n dX9_number_61 rfl ?_
        refine mOk.iadd dX9_number_62 ?_
        refine mOk.top ((nI_add _ _)) ?_
        refine mOk.ialdv dX9_number_63 (by first | assumption | rfl) rfl (by omega) (by first | assumption | decide | omega) (hT.2.2.2 _ hkl) ?_
        refine mOk.iadd dX9_number_64 ?_
        refine mOk.top ((nI_add _ _)) ?_
        refine mOk.bipush (x := nI 48) dX9_number_65 (by decide) ?_
        refine mOk.isub dX9_number_67 ?_
        refine mOk.top ((pk_sub (by omega))) ?_
        have hvk : 10 * vd bs s k + bs.getD (s + k) 0 - 48 = vd bs s (k + 1) ∧ vd bs s (k + 1) ≤ 99 := by
          rcases (show k = 0 ∨ k = 1 by omega) with rfl | rfl
          · rw [vd_0, vd_1]
            rw [Nat.add_zero] at hz ⊢
            omega
          · have h0 : 48 ≤ bs.getD s 0 ∧ bs.getD s 0 ≤ 57 := by
              have := run_in (bs := bs) (s := s) (by omega)
              exact isD_iff.mp this.2.1
            rw [vd_1, vd_2 bs s 0]
            omega
        rw [hvk.1]
        refine mOk.goto (tgt := 73) dX9_number_68 (by decide) ?_
        refine mOk.istore4 dX9_number_73 (by decide) rfl ?_
        refine mOk.iinc3 dX9_number_75 (mOk.inc1 rfl) (by decide) rfl ?_
        refine mOk.goto (tgt := 9) dX9_number_78 (by decide) ?_
        exact ih (k + 1) (by omega) hr' hvk.2
      · refine mOk.iload3n dX9_number_43 rfl ?_
        refine mOk.iconst (x := nI 2) dX9_number_44 (by decide) ?_
        refine mOk.icge (tgt := 71) dX9_number_45 (by decide) (fun c45 => ?_) (fun c45 => absurd ((nI_le' (by omega) (by omega)).mpr (by omega)) c45)
        refine mOk.iload4 dX9_number_71 ?_
        refine mOk.istore4 dX9_number_73 (by decide) rfl ?_
        refine mOk.iinc3 dX9_number_75 (mOk.inc1 rfl) (by decide) rfl ?_
        refine mOk.goto (tgt := 9) dX9_number_78 (by decide) ?_
        have hvk : vd bs s (k + 1) = vd bs s k := by
          obtain ⟨i, rfl⟩ : ∃ i, k = i + 2 := ⟨k - 2, by omega⟩
          rfl
        have := ih (k + 1) (by omega) hr' (by rw [hvk]; exact hv)
        rw [hvk] at this
        exact this
    · rw [if_neg z] at hd
      have ho : nI (bs.getD (s + k) 0) < nI 48 ∨ nI 57 < nI (bs.getD (s + k) 0) := by
        rw [isD_iff] at z
        rcases Nat.lt_or_ge (bs.getD (s + k) 0) 48 with w | w
        · exact Or.inl ((nI_lt' (by omega) (by omega)).mpr w)
        · exact Or.inr ((nI_lt' (by omega) (by omega)).mpr (by omega))
      refine mOk.aload0n dX9_number_22 rfl ?_
      refine mOk.getR dX9_number_23 fl_X9_28 (by first | assumption | rfl) (by first | assumption | rfl) ?_
      refine mOk.aload0n dX9_number_26 rfl ?_
      refine mOk.getIv dX9_number_27 fl_X9_85 (by first | assumption | rfl) hp ?_
      refine mOk.iload3n dX9_number_30 rfl ?_
      refine mOk.iadd dX9_number_31 ?_
      refine mOk.top ((nI_add _ _)) ?_
      refine mOk.ialdv dX9_number_32 (by first | assumption | rfl) rfl (by omega) (by first | assumption | decide | omega) (hT.2.2.2 _ hkl) ?_
      refine mOk.bipush (x := nI 48) dX9_number_33 (by decide) ?_
      refine mOk.bipush (x := nI 57) dX9_number_35 (by decide) ?_
      refine mOk.callS3 (M' := mX9_in) dX9_number_37 ml_X9_66 ke_X9_in rfl (by decide) (by decide) (by simp [Value.category]) (c_in_n ho ?_)
      refine mOk.ifeq (tgt := 81) dX9_number_40 (by decide) (fun c40 => ?_) (fun c40 => absurd (rfl) c40)
      exact fin k (by omega) (by rw [← hr]; unfold runD; rw [hd]; omega) hv
theorem c_number {H : Nat} (hH : H ≤ 100) (hT : MT I bs) (hp : I 97 9 = nI p) (hpl : p ≤ bs.length)
    (hQ1 : tkK bs (skp bs p) = 2 → tkV bs (skp bs p) < H → ∀ I', I' 97 9 = nI (tkE bs (skp bs p)) → I' 97 10 = nI (tkV bs (skp bs p)) → Of [9, 10] [] I I' → Q (some (.int 1)) (hS sw I' J))
    (hQ0 : ¬ (tkK bs (skp bs p) = 2 ∧ tkV bs (skp bs p) < H) → ∀ I', I' 97 9 = nI (skp bs p) → Of [9, 10] [] I I' → Q (some (.int 0)) (hS sw I' J)) : mCl mX9_number 2 0 0 [.ref 97, .int (nI 0), .int (nI H - nI 1)] (hS sw I J) Q := by
  refine mCl.of (by decide) rfl (Nat.le_of_ble_eq_true rfl) ?_
  show mOk _ _ _ _ _ [some (.ref 97), some (.int (nI 0)), some (.int (nI H - nI 1)), none, none] _ _ _ _ _
  refine mOk.aload0n dX9_number_0 rfl ?_
  refine mOk.callV0 (M' := mX9_skip) dX9_number_1 ml_X9_92 ke_X9_skip (by first | assumption | rfl) (by decide) (by decide) (by simp [Value.category]) (c_skip hT hp hpl ?_)
  intro I1 hp1 ho1
  have ho1' : Of [9, 10] [] I I1 := ho1.up (by decide) (by decide)
  refine mOk.iconst (x := nI 0) dX9_number_4 (by decide) ?_
  refine mOk.istore3n dX9_number_5 rfl (by decide) rfl ?_
  refine mOk.iconst (x := nI 0) dX9_number_6 (by decide) ?_
  refine mOk.istore4 dX9_number_7 (by decide) rfl ?_
  have hsl := skp_le hpl
  exact l_number hH hsl (hT.of ho1 (by decide) (by decide)) hp1 (fun a b I' c d e => hQ1 a b I' c d (ho1'.tr e)) (fun a => hQ0 a I1 hp1 ho1') (bs.length - skp bs p) 0 (by omega) (Nat.zero_add _) (by rw [vd_0]; omega)
theorem c_ends (hT : MT I bs) (hp : I 97 9 = nI p) (hpl : p ≤ bs.length)
    (hQ1 : tkK bs (skp bs p) = 3 → ∀ I', I' 97 9 = nI (tkE bs (skp bs p)) → Of [9] [] I I' → Q (some (.int 1)) (hS sw I' J))
    (hQ0 : ¬ tkK bs (skp bs p) = 3 → ∀ I', I' 97 9 = nI (skp bs p) → Of [9] [] I I' → Q (some (.int 0)) (hS sw I' J)) : mCl mX9_ends 2 0 0 [.ref 97] (hS sw I J) Q := by
  refine mCl.of (by decide) rfl (Nat.le_of_ble_eq_true rfl) ?_
  show mOk _ _ _ _ _ [some (.ref 97)] _ _ _ _ _
  refine mOk.aload0n dX9_ends_0 rfl ?_
  refine mOk.callV0 (M' := mX9_skip) dX9_ends_1 ml_X9_92 ke_X9_skip (by first | assumption | rfl) (by decide) (by decide) (by simp [Value.category]) (c_skip hT hp hpl ?_)
  intro I1 hp1 ho1
  have hT1 := hT.of ho1 (by decide) (by decide)
  have hsl := skp_le hpl
  rcases Nat.lt_or_ge (skp bs p) bs.length with z | z
  · have hlt := hT.lt z
    refine mOk.aload0n dX9_ends_4 rfl ?_
    refine mOk.callV0 (M' := mX9_here) dX9_ends_5 ml_X9_88 ke_X9_here (by first | assumption | rfl) (by decide) (by decide) (by simp [Value.category]) (c_here_in hT1 hp1 z ?_)
    refine mOk.bipush (x := nI 59) dX9_ends_8 (by decide) ?_
    refine mOk.iceq (tgt := 15) dX9_ends_10 (by decide) (fun c10 => ?_) (fun c10 => ?_)
    · have h59 := (nI_eq' (by omega) (by omega)).mp c10
      refine mOk.aload0n dX9_ends_15 rfl ?_
      refine mOk.dup dX9_ends_16 rfl ?_
      refine mOk.getIv dX9_ends_17 fl_X9_85 (by first | assumption | rfl) hp1 ?_
      refine mOk.iconst (x := nI 1) dX9_ends_20 (by decide) ?_
      refine mOk.iadd dX9_ends_21 ?_
      refine mOk.top ((nI_add _ _)) ?_
      refine mOk.putIt dX9_ends_22 fl_X9_85 (by first | assumption | rfl) ?_
      refine mOk.iconst (x := 1) dX9_ends_25 (by decide) ?_
      refine mOk.zret dX9_ends_26 rfl (by decide) ?_
      exact hQ1 (tk3_iff.mpr ⟨z, h59⟩) _ (by rw [wI_s, tk3_e ⟨z, h59⟩]) (ho1.tr (Of.f (by decide)))
    · refine mOk.iconst (x := 0) dX9_ends_13 (by decide) ?_
      refine mOk.zret dX9_ends_14 rfl (by decide) ?_
      exact hQ0 (fun w => c10 (by rw [(tk3_iff.mp w).2])) I1 hp1 ho1
  · refine mOk.aload0n dX9_ends_4 rfl ?_
    refine mOk.callV0 (M' := mX9_here) dX9_ends_5 ml_X9_88 ke_X9_here (by first | assumption | rfl) (by decide) (by decide) (by simp [Value.category]) (c_here_out hT1 hp1 hsl z ?_)
    refine mOk.bipush (x := nI 59) dX9_ends_8 (by decide) ?_
    refine mOk.iceq (tgt := 15) dX9_ends_10 (by decide) (fun c10 => absurd c10 ((by decide))) (fun c10 => ?_)
    refine mOk.iconst (x := 0) dX9_ends_13 (by decide) ?_
    refine mOk.zret dX9_ends_14 rfl (by decide) ?_
    exact hQ0 (fun w => by have := (tk3_iff.mp w).1; omega) I1 hp1 ho1
end MODEL3
