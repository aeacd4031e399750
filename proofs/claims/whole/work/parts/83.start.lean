/-! ===== THE LAW: its start, its loop, its end ===== -/
section LAWS
variable {p : Program} {l : Launch} {e : Env} {s : State} {m : MethodId} {below : List Frame} {meth : Method} {c : Code} {b L : Nat} {xs : Nat → Int32} {D : va_G} {cy : Nat → ClassId} {n k pc i : Nat} {lv : List (Nat × Value)} {st : List Value} {h : mi_H}
theorem law_end (hg : lG b L xs D cy p s m meth c) (hr : n ≤ 600000 ∧ k ≤ 7302250) : lOk p l e s m below meth c b D cy n k 786 lv [] h := by
  intro H locs ls hP hS hl
  refine va_forget hS.2.2 ?_
  refine lv_iconst (v := 1) hg.1.1 hg.1.2.1 dL_law_786 (by decide) ?_
  refine W.widen hr.1 hr.2 ?_
  exact lw_ret hg.1.1 hg.1.2.1 hg.1.2.2.1 hg.1.2.2.2.2.2.2.2.2.1 dL_law_787
theorem law_cmp {i L : Nat} (hL : L ≤ 2560) (hi : i ≤ L) (hc : ¬ nI L - nI 5 < nI i) : i + 5 ≤ L := by
  rcases Nat.lt_or_ge L 5 with q | q
  · exfalso
    apply hc
    rcases (show L = 0 ∨ L = 1 ∨ L = 2 ∨ L = 3 ∨ L = 4 by omega) with rfl | rfl | rfl | rfl | rfl <;> rcases (show i = 0 ∨ i = 1 ∨ i = 2 ∨ i = 3 ∨ i = 4 by omega) with rfl | rfl | rfl | rfl | rfl <;> decide
  · have h1 : nI L - nI 5 = nI (L - 5) := by
      have h2 : nI (L - 5) + nI 5 = nI L := by rw [nI_add, Nat.sub_add_cancel q]
      rw [← h2, Int32.add_sub_cancel]
    rw [h1, nI_lt' (by omega) (by omega)] at hc
    omega
/-- one turn: the switch, the call, i grows by 5 -/
theorem law_body (hg : lG b L xs D cy p s m meth c) (hr : n ≤ 600000 ∧ k ≤ 7302250) (hi : i + 5 ≤ L) (hA : AnyW h) (kk : ∀ h', AnyW h' → lOk p l e s m below meth c b D cy n k 18 (lvA s b (i + 5)) [] h') : lOk p l e s m below meth c b D cy n k 26 (lvA s b i) [] h := by
  have kk : ∀ h', AnyW h' → lOk p l e s m below meth c b D cy n k 780 (lvA s b i) [] h' := by
    intro h' hA' H locs ls hP hS hl
    refine lv_iinc (v := nI (i + 5)) (lv' := lvA s b (i + 5)) hg.1.1 hg.1.2.1 dL_law_780 hl (k := 0) rfl (show nI i + nI 5 = _ from nI_add i 5) (by decide) rfl (fun ls hl => ?_)
    exact lv_goto (tgt := 18) hg.1.1 hg.1.2.1 dL_law_783 (by decide) (kk h' hA' H locs ls hP hS hl)
  intro H locs ls hP hS hl
  have hL := hg.2.2
  refine lv_aload_n hg.1.1 hg.1.2.1 dL_law_26 rfl (lv_at hl 3 rfl) ?_
  refine lv_iload_n hg.1.1 hg.1.2.1 dL_law_27 rfl (lv_at hl 0 rfl) ?_
  refine va_sld hg.1.1 hg.1.2.1 hg.1.2.2.2.2.2.2.1 hg.1.2.2.2.2.2.2.2.1 (law_nb hg) hS (vp_in_nI (show i < L by omega) (by omega)) dL_law_28 ?_
  refine lv_bipush hg.1.1 hg.1.2.1 dL_law_29 rfl ?_
  refine lv_iand hg.1.1 hg.1.2.1 dL_law_31 ?_
  refine lv_topi (fun x hx => ?_)
  by_cases hout : x.toInt < 0 ∨ 22 < x.toInt
  · exact lv_tableOut (tgt := 780) hg.1.1 hg.1.2.1 dL_law_32 hout (by decide) (kk h hA H locs ls hP hS hl)
  · rcases (show x.toInt = 0 ∨ x.toInt = 1 ∨ x.toInt = 2 ∨ x.toInt = 3 ∨ x.toInt = 4 ∨ x.toInt = 5 ∨ x.toInt = 6 ∨ x.toInt = 7 ∨ x.toInt = 8 ∨ x.toInt = 9 ∨ x.toInt = 10 ∨ x.toInt = 11 ∨ x.toInt = 12 ∨ x.toInt = 13 ∨ x.toInt = 14 ∨ x.toInt = 15 ∨ x.toInt = 16 ∨ x.toInt = 17 ∨ x.toInt = 18 ∨ x.toInt = 19 ∨ x.toInt = 20 ∨ x.toInt = 21 ∨ x.toInt = 22 by omega) with ej | ej | ej | ej | ej | ej | ej | ej | ej | ej | ej | ej | ej | ej | ej | ej | ej | ej | ej | ej | ej | ej | ej
    · exact lv_tableIn (off := 108) (tgt := 140) hg.1.1 hg.1.2.1 dL_law_32 (by omega) (by omega) (by rw [ej]; rfl) (by decide) (lc_0 hg hr hi hA kk H locs ls hP hS hl)
    · exact lv_tableIn (off := 131) (tgt := 163) hg.1.1 hg.1.2.1 dL_law_32 (by omega) (by omega) (by rw [ej]; rfl) (by decide) (lc_1 hg hr hi hA kk H locs ls hP hS hl)
    · exact lv_tableIn (off := 144) (tgt := 176) hg.1.1 hg.1.2.1 dL_law_32 (by omega) (by omega) (by rw [ej]; rfl) (by decide) (lc_2 hg hr hi hA kk H locs ls hP hS hl)
    · exact lv_tableIn (off := 157) (tgt := 189) hg.1.1 hg.1.2.1 dL_law_32 (by omega) (by omega) (by rw [ej]; rfl) (by decide) (lc_3 hg hr hi hA kk H locs ls hP hS hl)
    · exact lv_tableIn (off := 190) (tgt := 222) hg.1.1 hg.1.2.1 dL_law_32 (by omega) (by omega) (by rw [ej]; rfl) (by decide) (lc_4 hg hr hi hA kk H locs ls hP hS hl)
    · exact lv_tableIn (off := 223) (tgt := 255) hg.1.1 hg.1.2.1 dL_law_32 (by omega) (by omega) (by rw [ej]; rfl) (by decide) (lc_5 hg hr hi hA kk H locs ls hP hS hl)
    · exact lv_tableIn (off := 256) (tgt := 288) hg.1.1 hg.1.2.1 dL_law_32 (by omega) (by omega) (by rw [ej]; rfl) (by decide) (lc_6 hg hr hi hA kk H locs ls hP hS hl)
    · exact lv_tableIn (off := 279) (tgt := 311) hg.1.1 hg.1.2.1 dL_law_32 (by omega) (by omega) (by rw [ej]; rfl) (by decide) (lc_7 hg hr hi hA kk H locs ls hP hS hl)
    · exact lv_tableIn (off := 312) (tgt := 344) hg.1.1 hg.1.2.1 dL_law_32 (by omega) (by omega) (by rw [ej]; rfl) (by decide) (lc_8 hg hr hi hA kk H locs ls hP hS hl)
    · exact lv_tableIn (off := 345) (tgt := 377) hg.1.1 hg.1.2.1 dL_law_32 (by omega) (by omega) (by rw [ej]; rfl) (by decide) (lc_9 hg hr hi hA kk H locs ls hP hS hl)
    · exact lv_tableIn (off := 358) (tgt := 390) hg.1.1 hg.1.2.1 dL_law_32 (by omega) (by omega) (by rw [ej]; rfl) (by decide) (lc_10 hg hr hi hA kk H locs ls hP hS hl)
    · exact lv_tableIn (off := 391) (tgt := 423) hg.1.1 hg.1.2.1 dL_law_32 (by omega) (by omega) (by rw [ej]; rfl) (by decide) (lc_11 hg hr hi hA kk H locs ls hP hS hl)
    · exact lv_tableIn (off := 434) (tgt := 466) hg.1.1 hg.1.2.1 dL_law_32 (by omega) (by omega) (by rw [ej]; rfl) (by decide) (lc_12 hg hr hi hA kk H locs ls hP hS hl)
    · exact lv_tableIn (off := 467) (tgt := 499) hg.1.1 hg.1.2.1 dL_law_32 (by omega) (by omega) (by rw [ej]; rfl) (by decide) (lc_13 hg hr hi hA kk H locs ls hP hS hl)
    · exact lv_tableIn (off := 510) (tgt := 542) hg.1.1 hg.1.2.1 dL_law_32 (by omega) (by omega) (by rw [ej]; rfl) (by decide) (lc_14 hg hr hi hA kk H locs ls hP hS hl)
    · exact lv_tableIn (off := 563) (tgt := 595) hg.1.1 hg.1.2.1 dL_law_32 (by omega) (by omega) (by rw [ej]; rfl) (by decide) (lc_15 hg hr hi hA kk H locs ls hP hS hl)
    · exact lv_tableIn (off := 587) (tgt := 619) hg.1.1 hg.1.2.1 dL_law_32 (by omega) (by omega) (by rw [ej]; rfl) (by decide) (lc_16 hg hr hi hA kk H locs ls hP hS hl)
    · exact lv_tableIn (off := 610) (tgt := 642) hg.1.1 hg.1.2.1 dL_law_32 (by omega) (by omega) (by rw [ej]; rfl) (by decide) (lc_17 hg hr hi hA kk H locs ls hP hS hl)
    · exact lv_tableIn (off := 623) (tgt := 655) hg.1.1 hg.1.2.1 dL_law_32 (by omega) (by omega) (by rw [ej]; rfl) (by decide) (lc_18 hg hr hi hA kk H locs ls hP hS hl)
    · exact lv_tableIn (off := 656) (tgt := 688) hg.1.1 hg.1.2.1 dL_law_32 (by omega) (by omega) (by rw [ej]; rfl) (by decide) (lc_19 hg hr hi hA kk H locs ls hP hS hl)
    · exact lv_tableIn (off := 679) (tgt := 711) hg.1.1 hg.1.2.1 dL_law_32 (by omega) (by omega) (by rw [ej]; rfl) (by decide) (lc_20 hg hr hi hA kk H locs ls hP hS hl)
    · exact lv_tableIn (off := 702) (tgt := 734) hg.1.1 hg.1.2.1 dL_law_32 (by omega) (by omega) (by rw [ej]; rfl) (by decide) (lc_21 hg hr hi hA kk H locs ls hP hS hl)
    · exact lv_tableIn (off := 725) (tgt := 757) hg.1.1 hg.1.2.1 dL_law_32 (by omega) (by omega) (by rw [ej]; rfl) (by decide) (lc_22 hg hr hi hA kk H locs ls hP hS hl)
theorem law_loop (hg : lG b L xs D cy p s m meth c) (hr : n ≤ 600000 ∧ k ≤ 7302250) : ∀ (f i : Nat) (h : mi_H), L - i < f → i ≤ L → AnyW h → lOk p l e s m below meth c b D cy n k 18 (lvA s b i) [] h := by
  intro f
  induction f with
  | zero => intro i h hf; omega
  | succ f ih =>
    intro i h hf hi hA H locs ls hP hS hl
    refine lv_iload_n hg.1.1 hg.1.2.1 dL_law_18 rfl (lv_at hl 0 rfl) ?_
    refine lv_aload_n hg.1.1 hg.1.2.1 dL_law_19 rfl (lv_at hl 3 rfl) ?_
    refine va_slen hg.1.1 hg.1.2.1 hg.1.2.2.2.2.2.2.1 hg.1.2.2.2.2.2.2.2.1 (law_nb hg) hS dL_law_20 ?_
    refine lv_iconst (v := nI 5) hg.1.1 hg.1.2.1 dL_law_21 (by decide) ?_
    refine lv_isub hg.1.1 hg.1.2.1 dL_law_22 ?_
    refine lv_icmp_gt (tgt := 786) hg.1.1 hg.1.2.1 dL_law_23 (by decide) (fun _ => law_end hg hr H locs ls hP hS hl) (fun hc => ?_)
    have h5 : i + 5 ≤ L := law_cmp hg.2.2 hi hc
    exact law_body hg hr h5 hA (fun h' hA' => ih (i + 5) h' (by omega) h5 hA') H locs ls hP hS hl
/-! what is made at the start -/
theorem law_dup {v : Value} (hg : lG b L xs D cy p s m meth c) (hv : v.category = 1) (hd : decode code pc = .ok (.dup, 1)) (kk : lOk p l e s m below meth c b D cy n k (pc + 1) lv (v :: v :: st) h) : lOk p l e s m below meth c b D cy n k pc lv (v :: st) h :=
  fun H locs ls hP hS hl => lv_dup hg.1.1 hg.1.2.1 hd hv (kk H locs ls hP hS hl)
theorem law_new {idx ci N : Nat} (hg : lG b L xs D cy p s m meth c) (hd : decode code pc = .ok (.new idx, 3)) (hl : mi_cn RL idx ci N) (hr : n + 1 ≤ 600000 ∧ k + N ≤ 7302250) (kk : lOk p l e s m below meth c b D cy (n + 1) (k + N) (pc + 3) lv (.ref (s.heap.size + h.1.length) :: st) (mi_nO h ci N)) : lOk p l e s m below meth c b D cy n k pc lv st h := by
  intro H locs ls hP hS hl9
  obtain ⟨C, T, ty0, hci, hcl, hlk, hinst, hini, hws, hty, htf⟩ := hl
  have hts : ∀ w ∈ gw, w.before #[Value.ref b] s = true := gw_ok hg.1.2.2.2.2.2.1
  have hown : s.vm.findClass RL = some m.cls := hg.1.2.2.2.2.1
  have hKn := hg.2.1.1.1 ci _ hcl
  refine W.newcK hg.1.1 hg.1.2.1 hown (hts _ hlk) (hts _ hinst) (hts _ hini) rfl hd hr.1 hr.2 hKn.2.1 rfl fun H1 kC hkC e1 z1 o1 => ?_
  have hsz := hP.1
  refine W.eq (g2 := F0 m (pc + 3) ls (Value.ref (s.heap.size + h.1.length) :: st)) (by show F0 _ _ _ (Value.ref H.size :: _) = _; rw [hsz]) ?_
  refine kk H1 _ ls (hP.push (q0 := (ci, N)) rfl z1 o1 (fun b hb => ⟨va_up_n hb, va_up_n hb, rfl⟩) ?_) (mi_S.push hS z1 o1) hl9
  rw [mi_cc_o hci]
  refine ⟨_, hcl, ?_⟩
  rw [hsz] at e1
  refine (u_born ty0 hts hws hKn hkC e1 hty).to fun j hj => ?_
  show defaultValue (ty0 j) = vp_V _ j
  unfold vp_V
  rw [List.getD_eq_getElem?_getD, mi_fs_at hj]
  show _ = mi_fv s.heap.size ((mi_nO h ci N).2.1 h.1.length) ((mi_nO h ci N).2.2.1 h.1.length) ci j
  have e2 : (mi_nO h ci N).2.1 h.1.length = fun _ => none := va_up_s _ _ _
  have e3 : (mi_nO h ci N).2.2.1 h.1.length = fun _ => 0 := va_up_s _ _ _
  rw [e2, e3]
  unfold mi_fv
  have := htf j hj
  cases hb : mi_rf ci j with
  | true => rw [hb] at this; rcases this with ⟨x, hx⟩ | ⟨x, hx⟩ <;> rw [hx] <;> rfl
  | false => rw [hb] at this; rw [show ty0 j = .int from this]; rfl
theorem law_newZ {idx ci N q u : Nat} (hg : lG b L xs D cy p s m meth c) (hd : decode code pc = .ok (.new idx, 3)) (hl : mi_cn RL idx ci N) (hr : n + 1 ≤ 600000 ∧ k + N ≤ 7302250) (hk : KK[q]? = some (ci, N)) (hu : ((UPS.take u).all (fun x => decide (x.1 < q))) = true) (kk : lOk p l e s m below meth c b D cy (n + 1) (k + N) (pc + 3) lv (.ref (s.heap.size + q) :: st) (zN (q + 1) u)) : lOk p l e s m below meth c b D cy n k pc lv st (zN q u) := by
  refine law_new hg hd hl hr ?_
  rw [show (zN q u).1.length = q from KK_len hk, zN_nO hk hu]
  exact kk
/-- a constructor is called -/
theorem law_init {M' : mi_M} {d' mc' ms' idx a : Nat} (hg : lG b L xs D cy p s m meth c) (hd : decode code pc = .ok (.invokespecial idx, 3)) (hl : Cond.methodLink RL idx M'.1 ∈ gw) (hv : mi_ci M' 0) (hrt : M'.2.2.2 = none) (hd1 : d' < 8 ∧ M'.2.2.1 ≤ 9) (hr : n + mc' ≤ 600000 ∧ k + ms' ≤ 7302250) (hw : (st.map fun v => v.category).sum ≤ 8)
    (hc : mCl M' d' mc' ms' [.ref a] h (fun r h' => r = none ∧ lOk p l e s m below meth c b D cy (n + mc') (k + ms') (pc + 3) lv st h')) : lOk p l e s m below meth c b D cy n k pc lv (.ref (s.heap.size + a) :: st) h := by
  intro H locs ls hP hS hl9
  obtain ⟨⟨hcd, hini, hy1, hy2, hpl⟩, hin, hnm⟩ := hv
  have hts : ∀ w ∈ gw, w.before #[Value.ref b] s = true := gw_ok hg.1.2.2.2.2.2.1
  have hown : s.vm.findClass RL = some m.cls := hg.1.2.2.2.2.1
  have hgd : GoodIn gw (Cond.code M'.1 M'.2.1 M'.2.2.1 none :: gw) := by
    have := gw_in (own := RL) (idx := idx) (M' := M') (ws := []) (fun w hw => absurd hw List.not_mem_nil) hcd
    rw [hrt] at this
    exact this
  have hm := hc D s.heap.size cy l
  rw [hrt] at hm
  have hrun := va_runI (p := p) (l := l) (e := e) (R := room_1) (s := s) (m := m) (args := #[Value.ref b]) (below := below) (meth := meth) (c := c) (H := H) (locs := locs) (cells := n) (slots := k) (As := ([] : List Value).map (mi_e s.heap.size)) (rest := st) (b := s.heap.size + a) (g := F0 m pc ls (.ref (s.heap.size + a) :: st)) (Ts := gw) (own := RL) (index := idx) ⟨hg.1.1, hg.1.2.1, hg.1.2.2.2.1, hown, hts⟩ hm (cwI 0 hts hgd rfl rfl rfl (hts _ hini) (hts _ hl) (hts _ hin) hnm ⟨hy1, hy2, hpl⟩ ⟨by show d' + 1 ≤ 10; omega, by show 8 + (M'.2.2.1 + 11) + 40 * d' ≤ 348; omega⟩) ⟨mi_blind, fun U hU hW => ⟨by rfl, by rw [hU]; exact hS.1, by rw [hU]; exact hP, hg.2.1.warm hW⟩⟩ rfl rfl hl9.1 rfl (lv_room hw) hd hr
  refine mi_ret hrun hS fun r h' H1 locs1 hq hp hs => ?_
  obtain ⟨rfl, k1⟩ := hq
  exact k1 H1 locs1 ls hp hs hl9
end LAWS
/-! the two objects as their constructors leave them -/
theorem pL_col {c : Nat} : ∀ {us : List (Nat × Nat × Nat)}, (∀ x ∈ us, x.2.1 < c) → ∀ a i, c ≤ i → pL us a i = none
  | [], _, _, _, _ => rfl
  | u :: us, h, a, i, hi => by
    unfold pL
    rw [if_neg (fun z => by have := h u (by simp); omega)]
    exact pL_col (fun x hx => h x (by simp [hx])) a i hi
theorem PT_row : ∀ r ∈ PT, r.length ≤ 30 := by decide +kernel
theorem UPS_lo : ∀ x ∈ (UPS.take 113).reverse, x.1 < 115 ∧ x.2.1 < 30 := by decide +kernel
theorem pU_in : ∀ a, a < 115 → ∀ i, i < 30 → pU 113 a i = PQ false a i := by decide +kernel
theorem PP_out (a i : Nat) (h : 115 ≤ a ∨ 30 ≤ i) : PP a i = none := by
  unfold PP
  rcases h with h | h
  · have e : PT.getD a [] = [] := by
      rw [List.getD_eq_getElem?_getD, List.getElem?_eq_none (show PT.length ≤ a from Nat.le_trans (Nat.le_of_ble_eq_true rfl) h)]
      rfl
    rw [e]
    rfl
  · rw [List.getD_eq_getElem?_getD (l := PT.getD a []), List.getElem?_eq_none]
    · rfl
    · refine Nat.le_trans ?_ h
      rw [List.getD_eq_getElem?_getD]
      cases hz : PT[a]? with
      | none => exact Nat.zero_le _
      | some r => exact PT_row r (List.mem_of_getElem? hz)
theorem PQ_out (a i : Nat) (h : 115 ≤ a ∨ 30 ≤ i) : PQ false a i = none := by
  unfold PQ
  split
  · split
    · exfalso; omega
    · exfalso; omega
    · exact PP_out _ _ h
  · exact PP_out _ _ h
theorem pU_all : pU 113 = PQ false := by
  funext a i
  by_cases h1 : a < 115
  · by_cases h2 : i < 30
    · exact pU_in a h1 i h2
    · rw [PQ_out a i (Or.inr (Nat.le_of_not_lt h2))]
      exact pL_col (fun x hx => (UPS_lo x hx).2) a i (Nat.le_of_not_lt h2)
  · rw [PQ_out a i (Or.inl (Nat.le_of_not_lt h1))]
    exact pL_none (fun x hx => Nat.lt_of_lt_of_le (UPS_lo x hx).1 (Nat.le_of_not_lt h1)) i
theorem zN_all : zN 115 113 = hS false (fun _ _ => 0) (fun _ _ => 0) := by
  unfold zN
  rw [pU_all]
  rfl
theorem rw_0 {r ra cap : Nat} (h1 : KK[r]? = some (5, 2)) (h2 : KK[ra]? = some (10, cap)) (h3 : ∀ sw, PQ sw r 0 = some ra) (h4 : cap < 100000) (h5 : r ≠ ra) : Rw (fun _ _ => 0) r ra cap [] := ⟨⟨h1, h2, h3, h4, h5⟩, Nat.zero_le _, rfl, fun j x hx => by simp at hx⟩
theorem bd_0 {bb : Nat} (h : bb = 22 ∨ bb = 37 ∨ bb = 49) : Bd (fun _ _ => 0) bb (fun _ => []) [] := by
  refine ⟨h, fun t ht => ?_, ?_⟩
  · rcases h with rfl | rfl | rfl <;> rcases (show t = 0 ∨ t = 1 ∨ t = 2 ∨ t = 3 by omega) with rfl | rfl | rfl | rfl <;> exact rw_0 rfl rfl (fun _ => rfl) (by decide) (by decide)
  · rcases h with rfl | rfl | rfl <;> exact rw_0 rfl rfl (fun _ => rfl) (by decide) (by decide)
theorem cd_0 {cb : Nat} (h : cb = 4 ∨ cb = 13) : Cd (fun _ _ => 0) cb [] := by
  refine ⟨h, Nat.zero_le _, rfl, fun j q hq => by simp at hq, ?_⟩
  rcases h with rfl | rfl <;> exact rw_0 rfl rfl (fun _ => rfl) (by decide) (by decide)
theorem hy_0 : Hy (fun _ _ => 0) [] := by
  refine ⟨0, by decide, rfl, rfl, Nat.zero_le _, fun i hi => ⟨[], ?_⟩, fun k q hk => by simp at hk⟩
  rcases (show i = 0 ∨ i = 1 ∨ i = 2 ∨ i = 3 ∨ i = 4 ∨ i = 5 ∨ i = 6 ∨ i = 7 ∨ i = 8 ∨ i = 9 by omega) with rfl | rfl | rfl | rfl | rfl | rfl | rfl | rfl | rfl | rfl <;> exact rw_0 rfl rfl (fun _ => rfl) (by decide) (by decide)
theorem im_0 : Im (fun _ _ => 0) (fun _ => none) := by
  intro i hi
  refine ⟨rfl, fun _ => [], [], ?_⟩
  rcases (show i = 0 ∨ i = 1 by omega) with rfl | rfl
  · exact bd_0 (by decide)
  · exact bd_0 (by decide)
theorem invC_0 : InvC false (fun _ _ => 0) [] [] (fun _ => []) [] [] (fun _ => none) :=
  ⟨⟨rw_0 rfl rfl (fun _ => rfl) (by decide) (by decide), fun b hb => absurd hb List.not_mem_nil⟩, cd_0 (Or.inl rfl), ⟨[], cd_0 (Or.inr rfl)⟩, bd_0 (Or.inl rfl), im_0, hy_0, ⟨[], rw_0 rfl rfl (fun _ => rfl) (by decide) (by decide)⟩, ⟨[], rw_0 rfl rfl (fun _ => rfl) (by decide) (by decide)⟩, ⟨[], rw_0 rfl rfl (fun _ => rfl) (by decide) (by decide)⟩, ⟨[], rw_0 rfl rfl (fun _ => rfl) (by decide) (by decide)⟩, ⟨[], rw_0 rfl rfl (fun _ => rfl) (by decide) (by decide)⟩⟩
theorem invM_0 : InvM (fun _ _ => 0) [] [] (fun _ => []) [] [] (fun _ => none) := by
  refine ⟨⟨Nat.zero_le _, rfl, fun j q hq => by simp at hq⟩, ⟨rfl, Nat.zero_le _, fun b hb => absurd hb List.not_mem_nil, fun j hj => absurd hj (Nat.not_lt_zero _)⟩, fun t _ => ⟨Nat.zero_le _, rfl, fun k c hk => by simp at hk⟩, ⟨Nat.zero_le _, rfl, fun k hk => absurd hk (Nat.not_lt_zero _)⟩, ⟨Nat.zero_le _, rfl, fun k q hk => by simp at hk⟩, fun i _ => rfl⟩
theorem any_0 : AnyW (zN 115 113) := by
  rw [zN_all]
  exact any_st invC_0 invM_0 (sok_0 ⟨Nat.zero_le _, fun j q hq => by simp at hq⟩)
/-! what the tables say: the classes' numbers and places, the array classes -/
theorem kn_of {own : String} {idx ci N : Nat} {s : State} {args : Array Value} (hts : ∀ w ∈ gw, w.before args s = true) (hl : mi_cn own idx ci N) : ∃ (y : ClassId × (Nat → Nat)), ∀ q, vwCl[ci]? = some q → u_Kn s q.1 q.2.1 q.2.2 y.1 y.2 := by
  obtain ⟨C, T, ty0, hci, hcl, hlk, hinst, hini, hws, hty, htf⟩ := hl
  obtain ⟨cC, iS, hk⟩ := u_known (C := C) (T := T) (N := N) (n := N) hts hws (hts _ hinst)
  refine ⟨(cC, iS), fun q hq => ?_⟩
  cases hcl.symm.trans hq
  exact hk
theorem kn_all {s : State} {args : Array Value} (hts : ∀ w ∈ gw, w.before args s = true) (ci : Nat) : ∃ (y : ClassId × (Nat → Nat)), ∀ q, vwCl[ci]? = some q → u_Kn s q.1 q.2.1 q.2.2 y.1 y.2 := by
  match ci with
  | 0 => exact kn_of hts cn_X8_26
  | 1 => exact kn_of hts cn_X8_16
  | 2 => exact kn_of hts cn_X8_40
  | 3 => exact kn_of hts cn_X8_33
  | 4 => exact kn_of hts cn_X8_9
  | 5 => exact kn_of hts cn_X8_61
  | 6 => exact kn_of hts cn_X8_47
  | 7 => exact kn_of hts cn_X8_54
  | 8 => exact kn_of hts cn_L_7
  | 9 => exact kn_of hts cn_L_10
  | j + 10 => exact ⟨(0, fun _ => 0), fun q hq => by cases hq⟩
theorem ar_p {s : State} {args : Array Value} {ty : FieldType} (h : (Cond.arrayClass ty).before args s = true) : ∃ cA : ClassId, ArrOfT s cA ty ∧ s.vm.findClass ("[" ++ ty.toString) = some cA := by
  obtain ⟨cA, kA, comp, h1, h2, h3⟩ := Cond.arrayClass_spec h
  exact ⟨cA, fun n z => ⟨fun k h => (by cases h), kA, h2, comp, h3⟩, h1⟩
theorem ar_o {s : State} {args : Array Value} {C : String} (h : (Cond.arrayOver (.object C)).before args s = true) : ∃ cA : ClassId, ArrOfT s cA (.object C) ∧ va_RA s cA (.object C) := by
  obtain ⟨comp, c, k, h1, h2, h3, h4, h5⟩ := Cond.arrayOver_spec h
  exact ⟨c, fun n z => ⟨fun k h => (by cases h), k, h3, comp, h4⟩, k, comp, h3, h4, h1, h5⟩
theorem mk_of {s : State} {b : Nat} (h0 : ∀ w ∈ lw_tbl, w.before #[Value.ref b] s = true) : ∃ (D : va_G) (cy : Nat → ClassId), mi_K D cy s := by
  have hts : ∀ w ∈ gw, w.before #[Value.ref b] s = true := gw_ok h0
  obtain ⟨f, hf⟩ := Classical.skolem.mp (kn_all hts)
  obtain ⟨a0, g0, n0⟩ := ar_p (hts _ gw_aint)
  obtain ⟨a1, g1, n1⟩ := ar_p (hts _ gw_along)
  obtain ⟨a2, g2, n2⟩ := ar_p (hts _ gw_aboolean)
  obtain ⟨a3, g3, n3⟩ := ar_o (h0 _ ao_0)
  obtain ⟨a4, g4, n4⟩ := ar_o (h0 _ ao_5)
  refine ⟨(fun k => (f k).1, fun k => (f k).2), fun k => match k with
    | 0 => a0
    | 1 => a1
    | 2 => a2
    | 3 => a3
    | _ => a4, ⟨fun c q hq => hf c q hq, fun k q hq => ?_⟩, va_AO.of (h0 _ ao_0), va_AO.of (h0 _ ao_5), fun w hw => ?_⟩
  · match k, hq with
    | 0, hq => cases hq; exact ⟨g0, n0⟩
    | 1, hq => cases hq; exact ⟨g1, n1⟩
    | 2, hq => cases hq; exact ⟨g2, n2⟩
    | 3, hq => cases hq; exact ⟨g3, n3⟩
    | 4, hq => cases hq; exact ⟨g4, n4⟩
    | j + 5, hq => cases hq
  · have h1 := h0 w (nest_in w hw)
    obtain ⟨a, i, y, b', rfl⟩ := mi_nest_w hw
    exact va_Nw.of rfl h1
