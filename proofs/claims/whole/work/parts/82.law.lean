/-! ===== THE LAW: its instructions over the two objects' world and the script ===== -/
def R_law : String := "MarkOrderLaw"
def lw_P (b : Addr) (xs : List Int32) (args : Array Value) (s : State) : Prop := args = #[.ref b] ∧ s.IntsAt b xs ∧ xs.length ≤ 2560 ∧ (Jvm.Cond.and given_1 narrow_1).before args s = true
def lw_Q (_ : Array Value) (s : State) (o : Outcome) (t : State) : Prop := o = .returned (some (.int 1)) ∧ Framed s o t [] 600000 7302250
def lw_Z (below : List Frame) (a : Array Value) (s : State) : State → Prop := fun t => ∃ o, t.status = .running ∧ Ended t below o ∧ lw_Q a s o t
/-- the law's own end, with 1 on the stack, nothing written that was there before, its room as the claim has it -/
theorem lw_ret {p : Program} {l : Launch} {e : Env} {s : State} {m : MethodId} {below : List Frame} {meth : Method} {c : Code} {b : Nat} (hx : p.tables.exec = Jvm.exec) (hb : c.code = code) (hr : meth.sig.returnType = ret) (hlocks : meth.locks = false) {pc : Nat} {H : Heap} {ls : Array Slot} (hdg : decode code pc = .ok (.ireturn, 1)) : W p l e room_1 s m #[Value.ref b] below meth c H [] 600000 7302250 (lw_Z below #[Value.ref b] s) (F0 m pc ls [.int 1]) := by
  intro T hT X
  obtain ⟨fs, hret, hrun, hended, hW, hframe⟩ := X.leave (v := some (.int 1)) (hlocks := hlocks) (fun h => by rw [hr] at h; cases h)
  have hmeth' : T.vm.method? m = some meth := X.method'
  refine ⟨T.setFrames fs, ?_, .returned (some (.int 1)), hrun, hended, rfl, ⟨_, rfl⟩, hW, hframe⟩
  jvm_step X.here [X.here.top, hx, hb, hdg, hmeth', hr, ret, narrow_b1]
  (try refine ⟨rfl, ?_⟩); (try refine ⟨rfl, ?_⟩)
  first | (intro acts; rw [hret _ acts rfl rfl rfl]) | rw [hret _ _ rfl rfl rfl]
  exact Steps.refl _
/-- what holds at the law's entry: the machine, the code, the tables' words (any of lw_tbl by 'hts w (by decide +kernel)'), the script of L ints xs at the cell b, what the Statement gives of the start (any of its parts by flat_of_before) -/
def lw_At (p : Program) (s : State) (m : MethodId) (meth : Method) (c : Code) (b L : Nat) (xs : Nat → Int32) : Prop :=
  p.tables.exec = Jvm.exec ∧ c.code = code ∧ meth.sig.returnType = ret ∧ c.maxLocals = 4 ∧ s.vm.findClass R_law = some m.cls ∧ (∀ w ∈ lw_tbl, w.before #[Value.ref b] s = true) ∧ va_X b L xs s s.heap ∧ b < s.heap.size ∧ meth.locks = false ∧ (Jvm.Cond.and given_1 narrow_1).before #[Value.ref b] s = true
def lG (b L : Nat) (xs : Nat → Int32) (D : va_G) (cy : Nat → ClassId) (p : Program) (s : State) (m : MethodId) (meth : Method) (c : Code) : Prop := lw_At p s m meth c b L xs ∧ mi_K D cy s ∧ L ≤ 2560
/-- the law goes on from pc to its end, with these locals, this stack, the world h -/
def lOk (p : Program) (l : Launch) (e : Env) (s : State) (m : MethodId) (below : List Frame) (meth : Method) (c : Code) (b : Nat) (D : va_G) (cy : Nat → ClassId) (n k pc : Nat) (lv : List (Nat × Value)) (st : List Value) (h : mi_H) : Prop :=
  ∀ (H : Heap) (locs : List Loc) (ls : Array Slot), mi_P D s.heap.size cy h H → va_S (mi_A s.heap.size) s.heap H locs → lv_has ls 4 lv → W p l e room_1 s m #[Value.ref b] below meth c H locs n k (lw_Z below #[Value.ref b] s) (F0 m pc ls st)
/-- the law's locals in its loop -/
def lvA (s : State) (b i : Nat) : List (Nat × Value) := [(3, .int (nI i)), (2, .ref (s.heap.size + 97)), (1, .ref (s.heap.size + 0)), (0, .ref b)]
section LAW
variable {p : Program} {l : Launch} {e : Env} {s : State} {m : MethodId} {below : List Frame} {meth : Method} {c : Code} {b L : Nat} {xs : Nat → Int32} {D : va_G} {cy : Nat → ClassId} {n k pc i : Nat} {lv : List (Nat × Value)} {st : List Value} {h : mi_H}
theorem law_nb (hg : lG b L xs D cy p s m meth c) : ¬ mi_A s.heap.size b := Nat.not_le.mpr hg.1.2.2.2.2.2.2.2.1
theorem law_a1 (hg : lG b L xs D cy p s m meth c) (hd : decode code pc = .ok (.aload_n 1, 1)) (kk : lOk p l e s m below meth c b D cy n k (pc + 1) (lvA s b i) (.ref (s.heap.size + 0) :: st) h) : lOk p l e s m below meth c b D cy n k pc (lvA s b i) st h :=
  fun H locs ls hP hS hl => lv_aload_n hg.1.1 hg.1.2.1 hd rfl (lv_at hl 2 rfl) (kk H locs ls hP hS hl)
theorem law_a2 (hg : lG b L xs D cy p s m meth c) (hd : decode code pc = .ok (.aload_n 2, 1)) (kk : lOk p l e s m below meth c b D cy n k (pc + 1) (lvA s b i) (.ref (s.heap.size + 97) :: st) h) : lOk p l e s m below meth c b D cy n k pc (lvA s b i) st h :=
  fun H locs ls hP hS hl => lv_aload_n hg.1.1 hg.1.2.1 hd rfl (lv_at hl 1 rfl) (kk H locs ls hP hS hl)
/-- script[i + j] -/
theorem law_ld {j : Nat} {x : Int} (hx : Int32.ofInt x = nI j) (hg : lG b L xs D cy p s m meth c) (d0 : decode code pc = .ok (.aload_n 0, 1)) (d1 : decode code (pc + 1) = .ok (.iload_n 3, 1)) (d2 : decode code (pc + 2) = .ok (.iconst x, 1)) (d3 : decode code (pc + 3) = .ok (.iadd, 1)) (d4 : decode code (pc + 4) = .ok (.iaload, 1)) (hi : i + j < L)
    (kk : lOk p l e s m below meth c b D cy n k (pc + 5) (lvA s b i) (.int (xs (i + j)) :: st) h) : lOk p l e s m below meth c b D cy n k pc (lvA s b i) st h := by
  intro H locs ls hP hS hl
  have hL := hg.2.2
  refine lv_aload_n hg.1.1 hg.1.2.1 d0 rfl (lv_at hl 3 rfl) ?_
  refine lv_iload_n hg.1.1 hg.1.2.1 d1 rfl (lv_at hl 0 rfl) ?_
  refine lv_iconst hg.1.1 hg.1.2.1 d2 hx ?_
  refine lv_iadd hg.1.1 hg.1.2.1 d3 ?_
  rw [nI_add]
  refine va_sld hg.1.1 hg.1.2.1 hg.1.2.2.2.2.2.2.1 hg.1.2.2.2.2.2.2.2.1 (law_nb hg) hS (vp_in_nI hi (by omega)) d4 ?_
  rw [nI_clamp (show i + j < 2 ^ 31 by omega)]
  exact kk H locs ls hP hS hl
theorem law_ld1 (hg : lG b L xs D cy p s m meth c) (d0 : decode code pc = .ok (.aload_n 0, 1)) (d1 : decode code (pc + 1) = .ok (.iload_n 3, 1)) (d2 : decode code (pc + 2) = .ok (.iconst 1, 1)) (d3 : decode code (pc + 3) = .ok (.iadd, 1)) (d4 : decode code (pc + 4) = .ok (.iaload, 1)) (hi : i + 1 < L) (kk : lOk p l e s m below meth c b D cy n k (pc + 5) (lvA s b i) (.int (xs (i + 1)) :: st) h) : lOk p l e s m below meth c b D cy n k pc (lvA s b i) st h := law_ld (j := 1) (by decide) hg d0 d1 d2 d3 d4 hi kk
theorem law_ld2 (hg : lG b L xs D cy p s m meth c) (d0 : decode code pc = .ok (.aload_n 0, 1)) (d1 : decode code (pc + 1) = .ok (.iload_n 3, 1)) (d2 : decode code (pc + 2) = .ok (.iconst 2, 1)) (d3 : decode code (pc + 3) = .ok (.iadd, 1)) (d4 : decode code (pc + 4) = .ok (.iaload, 1)) (hi : i + 2 < L) (kk : lOk p l e s m below meth c b D cy n k (pc + 5) (lvA s b i) (.int (xs (i + 2)) :: st) h) : lOk p l e s m below meth c b D cy n k pc (lvA s b i) st h := law_ld (j := 2) (by decide) hg d0 d1 d2 d3 d4 hi kk
theorem law_ld3 (hg : lG b L xs D cy p s m meth c) (d0 : decode code pc = .ok (.aload_n 0, 1)) (d1 : decode code (pc + 1) = .ok (.iload_n 3, 1)) (d2 : decode code (pc + 2) = .ok (.iconst 3, 1)) (d3 : decode code (pc + 3) = .ok (.iadd, 1)) (d4 : decode code (pc + 4) = .ok (.iaload, 1)) (hi : i + 3 < L) (kk : lOk p l e s m below meth c b D cy n k (pc + 5) (lvA s b i) (.int (xs (i + 3)) :: st) h) : lOk p l e s m below meth c b D cy n k pc (lvA s b i) st h := law_ld (j := 3) (by decide) hg d0 d1 d2 d3 d4 hi kk
theorem law_ld4 (hg : lG b L xs D cy p s m meth c) (d0 : decode code pc = .ok (.aload_n 0, 1)) (d1 : decode code (pc + 1) = .ok (.iload_n 3, 1)) (d2 : decode code (pc + 2) = .ok (.iconst 4, 1)) (d3 : decode code (pc + 3) = .ok (.iadd, 1)) (d4 : decode code (pc + 4) = .ok (.iaload, 1)) (hi : i + 4 < L) (kk : lOk p l e s m below meth c b D cy n k (pc + 5) (lvA s b i) (.int (xs (i + 4)) :: st) h) : lOk p l e s m below meth c b D cy n k pc (lvA s b i) st h := law_ld (j := 4) (by decide) hg d0 d1 d2 d3 d4 hi kk
theorem law_noref {base : Nat} {x : Value} (hx : vI x ∨ vJ x) : mi_e base x = x := by
  rcases hx with ⟨i, rfl⟩ | ⟨i, rfl⟩ <;> rfl
/-- a call of one of the two objects' methods -/
theorem law_callV {M' : mi_M} {d' idx nA ci N a : Nat} {as stk : List Value} {Q' : Option Value → mi_H → Prop} (hg : lG b L xs D cy p s m meth c) (hr : n ≤ 600000 ∧ k ≤ 7302250) (hh : h.1 = KK) (hd : decode code pc = .ok (.invokevirtual idx, 3)) (hl : Cond.methodLink RL idx M'.1 ∈ gw) (hv : mi_cv M' nA ci) (hk : KK[a]? = some (ci, N)) (hn : as.length = nA) (hst : stk = as.reverse ++ .ref (s.heap.size + a) :: st) (has : as.map (mi_e s.heap.size) = as) (hd1 : d' < 8 ∧ M'.2.2.1 ≤ 9) (hw : (st.map fun v => v.category).sum ≤ 8)
    (hc : mCl M' d' 0 0 (.ref a :: as) h Q') (kk : ∀ r h', Q' r h' → ∃ x, r = some x ∧ (vI x ∨ vJ x) ∧ lOk p l e s m below meth c b D cy n k (pc + 3) lv (x :: st) h') : lOk p l e s m below meth c b D cy n k pc lv stk h := by
  intro H locs ls hP hS hl9
  obtain ⟨⟨hcd, hini, hy1, hy2, hpl⟩, hin, hse, T, N', hcl⟩ := hv
  have hts : ∀ w ∈ gw, w.before #[Value.ref b] s = true := gw_ok hg.1.2.2.2.2.2.1
  have hown : s.vm.findClass RL = some m.cls := hg.1.2.2.2.2.1
  have hci : ci < 10 := (List.getElem?_eq_some_iff.mp hcl).1
  have hat := hP.2 a _ (show h.1[a]? = some (ci, N) by rw [hh]; exact hk)
  rw [mi_cc_o hci] at hat
  have hrun := va_runV (p := p) (l := l) (e := e) (R := room_1) (s := s) (m := m) (args := #[Value.ref b]) (below := below) (meth := meth) (c := c) (H := H) (locs := locs) (cells := n) (slots := k) (As := as.map (mi_e s.heap.size)) (rest := st) (b := s.heap.size + a) (g := F0 m pc ls stk) (Ts := gw) (own := RL) (index := idx) ⟨hg.1.1, hg.1.2.1, hg.1.2.2.2.1, hown, hts⟩ (hc D s.heap.size cy l) (cwV (C := M'.1.cls) nA hts (gw_in (own := RL) (idx := idx) (by
      intro w hw
      simp only [List.mem_cons, List.not_mem_nil, or_false] at hw
      rcases hw with rfl | rfl | rfl | rfl
      · exact hl
      · exact hin
      · exact hse
      · exact hini) hcd) rfl rfl rfl ⟨rfl, hy1, hy2, hpl⟩ ⟨by show d' + 1 ≤ 10; omega, by show 8 + (M'.2.2.1 + 11) + 40 * d' ≤ 348; omega⟩) ⟨mi_blind, by
      have hP1 : va_P D vwCl [(s.heap.size + a, .inr (ci, (List.range N).map (mi_fv s.heap.size (h.2.1 a) (h.2.2.1 a) ci)))] H := fun j q hj => by
        have hz : j < 1 := (List.getElem?_eq_some_iff.mp hj).1
        rw [show j = 0 by omega] at hj
        cases hj
        exact hat
      exact va_recv hg.2.1.1 hP1 (q0 := 0) hcl rfl, fun U hU hW => ⟨by rfl, by rw [hU]; exact hS.1, by rw [hU]; exact hP, hg.2.1.warm hW⟩⟩ rfl (by rw [List.length_map]; exact hn) hl9.1 (by rw [has]; exact hst) (lv_room hw) hd hr
  refine mi_ret hrun hS fun r h' H1 locs1 hq hp hs => ?_
  obtain ⟨x, rfl, hx, k1⟩ := kk r h' hq
  refine W.eq (g2 := F0 m (pc + 3) ls (x :: st)) ?_ (k1 H1 locs1 ls hp hs hl9)
  show F0 m (pc + 3) ls (mi_e s.heap.size x :: st) = _
  rw [law_noref hx]
theorem law_eq {v : Int32} {off : Int} (hg : lG b L xs D cy p s m meth c) (hd : decode code pc = .ok (.if_icmp .eq off, 3)) (ht : (pc : Int) + off = ((780 : Nat) : Int)) (kk : lOk p l e s m below meth c b D cy n k 780 lv st h) : lOk p l e s m below meth c b D cy n k pc lv (.int v :: .int v :: st) h :=
  fun H locs ls hP hS hl => lv_icmp_eq hg.1.1 hg.1.2.1 hd ht (fun _ => kk H locs ls hP hS hl) (fun z => absurd rfl z)
theorem law_eqJ {v : Int64} {off : Int} (hg : lG b L xs D cy p s m meth c) (hd : decode code pc = .ok (.lcmp, 1)) (hd2 : decode code (pc + 1) = .ok (.ifCond .eq off, 3)) (ht : ((pc + 1 : Nat) : Int) + off = ((780 : Nat) : Int)) (kk : lOk p l e s m below meth c b D cy n k 780 lv st h) : lOk p l e s m below meth c b D cy n k pc lv (.long v :: .long v :: st) h :=
  fun H locs ls hP hS hl => W.lcmp hg.1.1 hg.1.2.1 hd (lv_if_eq hg.1.1 hg.1.2.1 hd2 ht (fun _ => kk H locs ls hP hS hl) (fun z => absurd (by unfold lg_cmp; simp) z))
theorem AnyW.kk (hA : AnyW h) : h.1 = KK := by
  obtain ⟨sw, I, J, bs, T, tx, pp, hs, im, rfl, -⟩ := hA
  rfl
theorem lc_0 (hg : lG b L xs D cy p s m meth c) (hr : n ≤ 600000 ∧ k ≤ 7302250) (hi : i + 5 ≤ L) (hA : AnyW h) (kk : ∀ h', AnyW h' → lOk p l e s m below meth c b D cy n k 780 (lvA s b i) [] h') : lOk p l e s m below meth c b D cy n k 140 (lvA s b i) [] h := by
  refine law_a1 hg dL_law_140 ?_
  refine law_ld1 hg dL_law_141 dL_law_142 dL_law_143 dL_law_144 dL_law_145 (by omega) ?_
  refine law_callV (M' := mX8_type) (a := 0) (as := [.int (xs (i + 1))]) (st := []) hg hr hA.kk dL_law_146 ml_L_13 ke_X8_type rfl rfl rfl rfl (by decide) (by simp) (B_type _ h hA) (fun r h' hq => ?_)
  obtain ⟨x, rfl, ⟨v, rfl⟩, hh, hc⟩ := hq
  refine ⟨_, rfl, Or.inl ⟨_, rfl⟩, ?_⟩
  refine law_a2 hg dL_law_149 ?_
  refine law_ld1 hg dL_law_150 dL_law_151 dL_law_152 dL_law_153 dL_law_154 (by omega) ?_
  refine law_callV (M' := mX9_type) (as := [.int (xs (i + 1))]) (st := [.int v]) (a := 97) hg hr hh dL_law_155 ml_L_17 ke_X9_type rfl rfl rfl rfl (by decide) (by simp [Value.category]) hc (fun r h' hq => ?_)
  obtain ⟨rfl, hA2⟩ := hq
  refine ⟨_, rfl, Or.inl ⟨_, rfl⟩, ?_⟩
  exact law_eq hg dL_law_158 (by decide) (kk _ hA2)
theorem lc_1 (hg : lG b L xs D cy p s m meth c) (hr : n ≤ 600000 ∧ k ≤ 7302250) (hi : i + 5 ≤ L) (hA : AnyW h) (kk : ∀ h', AnyW h' → lOk p l e s m below meth c b D cy n k 780 (lvA s b i) [] h') : lOk p l e s m below meth c b D cy n k 163 (lvA s b i) [] h := by
  refine law_a1 hg dL_law_163 ?_
  refine law_callV (M' := mX8_clear) (a := 0) (as := []) (st := []) hg hr hA.kk dL_law_164 ml_L_18 ke_X8_clear rfl rfl rfl rfl (by decide) (by simp) (B_clear  h hA) (fun r h' hq => ?_)
  obtain ⟨x, rfl, ⟨v, rfl⟩, hh, hc⟩ := hq
  refine ⟨_, rfl, Or.inl ⟨_, rfl⟩, ?_⟩
  refine law_a2 hg dL_law_167 ?_
  refine law_callV (M' := mX9_clear) (as := []) (st := [.int v]) (a := 97) hg hr hh dL_law_168 ml_L_22 ke_X9_clear rfl rfl rfl rfl (by decide) (by simp [Value.category]) hc (fun r h' hq => ?_)
  obtain ⟨rfl, hA2⟩ := hq
  refine ⟨_, rfl, Or.inl ⟨_, rfl⟩, ?_⟩
  exact law_eq hg dL_law_171 (by decide) (kk _ hA2)
theorem lc_2 (hg : lG b L xs D cy p s m meth c) (hr : n ≤ 600000 ∧ k ≤ 7302250) (hi : i + 5 ≤ L) (hA : AnyW h) (kk : ∀ h', AnyW h' → lOk p l e s m below meth c b D cy n k 780 (lvA s b i) [] h') : lOk p l e s m below meth c b D cy n k 176 (lvA s b i) [] h := by
  refine law_a1 hg dL_law_176 ?_
  refine law_callV (M' := mX8_tables) (a := 0) (as := []) (st := []) hg hr hA.kk dL_law_177 ml_L_23 ke_X8_tables rfl rfl rfl rfl (by decide) (by simp) (B_tables  h hA) (fun r h' hq => ?_)
  obtain ⟨x, rfl, ⟨v, rfl⟩, hh, hc⟩ := hq
  refine ⟨_, rfl, Or.inl ⟨_, rfl⟩, ?_⟩
  refine law_a2 hg dL_law_180 ?_
  refine law_callV (M' := mX9_tables) (as := []) (st := [.int v]) (a := 97) hg hr hh dL_law_181 ml_L_26 ke_X9_tables rfl rfl rfl rfl (by decide) (by simp [Value.category]) hc (fun r h' hq => ?_)
  obtain ⟨rfl, hA2⟩ := hq
  refine ⟨_, rfl, Or.inl ⟨_, rfl⟩, ?_⟩
  exact law_eq hg dL_law_184 (by decide) (kk _ hA2)
theorem lc_3 (hg : lG b L xs D cy p s m meth c) (hr : n ≤ 600000 ∧ k ≤ 7302250) (hi : i + 5 ≤ L) (hA : AnyW h) (kk : ∀ h', AnyW h' → lOk p l e s m below meth c b D cy n k 780 (lvA s b i) [] h') : lOk p l e s m below meth c b D cy n k 189 (lvA s b i) [] h := by
  refine law_a1 hg dL_law_189 ?_
  refine law_ld1 hg dL_law_190 dL_law_191 dL_law_192 dL_law_193 dL_law_194 (by omega) ?_
  refine law_ld2 hg dL_law_195 dL_law_196 dL_law_197 dL_law_198 dL_law_199 (by omega) ?_
  refine law_callV (M' := mX8_code) (a := 0) (as := [.int (xs (i + 1)), .int (xs (i + 2))]) (st := []) hg hr hA.kk dL_law_200 ml_L_27 ke_X8_code rfl rfl rfl rfl (by decide) (by simp) (B_code _ _ h hA) (fun r h' hq => ?_)
  obtain ⟨x, rfl, ⟨v, rfl⟩, hh, hc⟩ := hq
  refine ⟨_, rfl, Or.inl ⟨_, rfl⟩, ?_⟩
  refine law_a2 hg dL_law_203 ?_
  refine law_ld1 hg dL_law_204 dL_law_205 dL_law_206 dL_law_207 dL_law_208 (by omega) ?_
  refine law_ld2 hg dL_law_209 dL_law_210 dL_law_211 dL_law_212 dL_law_213 (by omega) ?_
  refine law_callV (M' := mX9_code) (as := [.int (xs (i + 1)), .int (xs (i + 2))]) (st := [.int v]) (a := 97) hg hr hh dL_law_214 ml_L_31 ke_X9_code rfl rfl rfl rfl (by decide) (by simp [Value.category]) hc (fun r h' hq => ?_)
  obtain ⟨rfl, hA2⟩ := hq
  refine ⟨_, rfl, Or.inl ⟨_, rfl⟩, ?_⟩
  exact law_eq hg dL_law_217 (by decide) (kk _ hA2)
theorem lc_4 (hg : lG b L xs D cy p s m meth c) (hr : n ≤ 600000 ∧ k ≤ 7302250) (hi : i + 5 ≤ L) (hA : AnyW h) (kk : ∀ h', AnyW h' → lOk p l e s m below meth c b D cy n k 780 (lvA s b i) [] h') : lOk p l e s m below meth c b D cy n k 222 (lvA s b i) [] h := by
  refine law_a1 hg dL_law_222 ?_
  refine law_ld1 hg dL_law_223 dL_law_224 dL_law_225 dL_law_226 dL_law_227 (by omega) ?_
  refine law_ld2 hg dL_law_228 dL_law_229 dL_law_230 dL_law_231 dL_law_232 (by omega) ?_
  refine law_callV (M' := mX8_pair) (a := 0) (as := [.int (xs (i + 1)), .int (xs (i + 2))]) (st := []) hg hr hA.kk dL_law_233 ml_L_32 ke_X8_pair rfl rfl rfl rfl (by decide) (by simp) (B_pair _ _ h hA) (fun r h' hq => ?_)
  obtain ⟨x, rfl, ⟨v, rfl⟩, hh, hc⟩ := hq
  refine ⟨_, rfl, Or.inl ⟨_, rfl⟩, ?_⟩
  refine law_a2 hg dL_law_236 ?_
  refine law_ld1 hg dL_law_237 dL_law_238 dL_law_239 dL_law_240 dL_law_241 (by omega) ?_
  refine law_ld2 hg dL_law_242 dL_law_243 dL_law_244 dL_law_245 dL_law_246 (by omega) ?_
  refine law_callV (M' := mX9_pair) (as := [.int (xs (i + 1)), .int (xs (i + 2))]) (st := [.int v]) (a := 97) hg hr hh dL_law_247 ml_L_35 ke_X9_pair rfl rfl rfl rfl (by decide) (by simp [Value.category]) hc (fun r h' hq => ?_)
  obtain ⟨rfl, hA2⟩ := hq
  refine ⟨_, rfl, Or.inl ⟨_, rfl⟩, ?_⟩
  exact law_eq hg dL_law_250 (by decide) (kk _ hA2)
theorem lc_5 (hg : lG b L xs D cy p s m meth c) (hr : n ≤ 600000 ∧ k ≤ 7302250) (hi : i + 5 ≤ L) (hA : AnyW h) (kk : ∀ h', AnyW h' → lOk p l e s m below meth c b D cy n k 780 (lvA s b i) [] h') : lOk p l e s m below meth c b D cy n k 255 (lvA s b i) [] h := by
  refine law_a1 hg dL_law_255 ?_
  refine law_ld1 hg dL_law_256 dL_law_257 dL_law_258 dL_law_259 dL_law_260 (by omega) ?_
  refine law_ld2 hg dL_law_261 dL_law_262 dL_law_263 dL_law_264 dL_law_265 (by omega) ?_
  refine law_callV (M' := mX8_puts) (a := 0) (as := [.int (xs (i + 1)), .int (xs (i + 2))]) (st := []) hg hr hA.kk dL_law_266 ml_L_36 ke_X8_puts rfl rfl rfl rfl (by decide) (by simp) (B_puts _ _ h hA) (fun r h' hq => ?_)
  obtain ⟨x, rfl, ⟨v, rfl⟩, hh, hc⟩ := hq
  refine ⟨_, rfl, Or.inl ⟨_, rfl⟩, ?_⟩
  refine law_a2 hg dL_law_269 ?_
  refine law_ld1 hg dL_law_270 dL_law_271 dL_law_272 dL_law_273 dL_law_274 (by omega) ?_
  refine law_ld2 hg dL_law_275 dL_law_276 dL_law_277 dL_law_278 dL_law_279 (by omega) ?_
  refine law_callV (M' := mX9_puts) (as := [.int (xs (i + 1)), .int (xs (i + 2))]) (st := [.int v]) (a := 97) hg hr hh dL_law_280 ml_L_39 ke_X9_puts rfl rfl rfl rfl (by decide) (by simp [Value.category]) hc (fun r h' hq => ?_)
  obtain ⟨rfl, hA2⟩ := hq
  refine ⟨_, rfl, Or.inl ⟨_, rfl⟩, ?_⟩
  exact law_eq hg dL_law_283 (by decide) (kk _ hA2)
theorem lc_6 (hg : lG b L xs D cy p s m meth c) (hr : n ≤ 600000 ∧ k ≤ 7302250) (hi : i + 5 ≤ L) (hA : AnyW h) (kk : ∀ h', AnyW h' → lOk p l e s m below meth c b D cy n k 780 (lvA s b i) [] h') : lOk p l e s m below meth c b D cy n k 288 (lvA s b i) [] h := by
  refine law_a1 hg dL_law_288 ?_
  refine law_ld1 hg dL_law_289 dL_law_290 dL_law_291 dL_law_292 dL_law_293 (by omega) ?_
  refine law_callV (M' := mX8_cuts) (a := 0) (as := [.int (xs (i + 1))]) (st := []) hg hr hA.kk dL_law_294 ml_L_40 ke_X8_cuts rfl rfl rfl rfl (by decide) (by simp) (B_cuts _ h hA) (fun r h' hq => ?_)
  obtain ⟨x, rfl, ⟨v, rfl⟩, hh, hc⟩ := hq
  refine ⟨_, rfl, Or.inl ⟨_, rfl⟩, ?_⟩
  refine law_a2 hg dL_law_297 ?_
  refine law_ld1 hg dL_law_298 dL_law_299 dL_law_300 dL_law_301 dL_law_302 (by omega) ?_
  refine law_callV (M' := mX9_cuts) (as := [.int (xs (i + 1))]) (st := [.int v]) (a := 97) hg hr hh dL_law_303 ml_L_43 ke_X9_cuts rfl rfl rfl rfl (by decide) (by simp [Value.category]) hc (fun r h' hq => ?_)
  obtain ⟨rfl, hA2⟩ := hq
  refine ⟨_, rfl, Or.inl ⟨_, rfl⟩, ?_⟩
  exact law_eq hg dL_law_306 (by decide) (kk _ hA2)
theorem lc_7 (hg : lG b L xs D cy p s m meth c) (hr : n ≤ 600000 ∧ k ≤ 7302250) (hi : i + 5 ≤ L) (hA : AnyW h) (kk : ∀ h', AnyW h' → lOk p l e s m below meth c b D cy n k 780 (lvA s b i) [] h') : lOk p l e s m below meth c b D cy n k 311 (lvA s b i) [] h := by
  refine law_a1 hg dL_law_311 ?_
  refine law_ld1 hg dL_law_312 dL_law_313 dL_law_314 dL_law_315 dL_law_316 (by omega) ?_
  refine law_ld2 hg dL_law_317 dL_law_318 dL_law_319 dL_law_320 dL_law_321 (by omega) ?_
  refine law_callV (M' := mX8_appends) (a := 0) (as := [.int (xs (i + 1)), .int (xs (i + 2))]) (st := []) hg hr hA.kk dL_law_322 ml_L_44 ke_X8_appends rfl rfl rfl rfl (by decide) (by simp) (B_appends _ _ h hA) (fun r h' hq => ?_)
  obtain ⟨x, rfl, ⟨v, rfl⟩, hh, hc⟩ := hq
  refine ⟨_, rfl, Or.inl ⟨_, rfl⟩, ?_⟩
  refine law_a2 hg dL_law_325 ?_
  refine law_ld1 hg dL_law_326 dL_law_327 dL_law_328 dL_law_329 dL_law_330 (by omega) ?_
  refine law_ld2 hg dL_law_331 dL_law_332 dL_law_333 dL_law_334 dL_law_335 (by omega) ?_
  refine law_callV (M' := mX9_appends) (as := [.int (xs (i + 1)), .int (xs (i + 2))]) (st := [.int v]) (a := 97) hg hr hh dL_law_336 ml_L_47 ke_X9_appends rfl rfl rfl rfl (by decide) (by simp [Value.category]) hc (fun r h' hq => ?_)
  obtain ⟨rfl, hA2⟩ := hq
  refine ⟨_, rfl, Or.inl ⟨_, rfl⟩, ?_⟩
  exact law_eq hg dL_law_339 (by decide) (kk _ hA2)
theorem lc_8 (hg : lG b L xs D cy p s m meth c) (hr : n ≤ 600000 ∧ k ≤ 7302250) (hi : i + 5 ≤ L) (hA : AnyW h) (kk : ∀ h', AnyW h' → lOk p l e s m below meth c b D cy n k 780 (lvA s b i) [] h') : lOk p l e s m below meth c b D cy n k 344 (lvA s b i) [] h := by
  refine law_a1 hg dL_law_344 ?_
  refine law_ld1 hg dL_law_345 dL_law_346 dL_law_347 dL_law_348 dL_law_349 (by omega) ?_
  refine law_ld2 hg dL_law_350 dL_law_351 dL_law_352 dL_law_353 dL_law_354 (by omega) ?_
  refine law_callV (M' := mX8_forms) (a := 0) (as := [.int (xs (i + 1)), .int (xs (i + 2))]) (st := []) hg hr hA.kk dL_law_355 ml_L_48 ke_X8_forms rfl rfl rfl rfl (by decide) (by simp) (B_forms _ _ h hA) (fun r h' hq => ?_)
  obtain ⟨x, rfl, ⟨v, rfl⟩, hh, hc⟩ := hq
  refine ⟨_, rfl, Or.inl ⟨_, rfl⟩, ?_⟩
  refine law_a2 hg dL_law_358 ?_
  refine law_ld1 hg dL_law_359 dL_law_360 dL_law_361 dL_law_362 dL_law_363 (by omega) ?_
  refine law_ld2 hg dL_law_364 dL_law_365 dL_law_366 dL_law_367 dL_law_368 (by omega) ?_
  refine law_callV (M' := mX9_forms) (as := [.int (xs (i + 1)), .int (xs (i + 2))]) (st := [.int v]) (a := 97) hg hr hh dL_law_369 ml_L_51 ke_X9_forms rfl rfl rfl rfl (by decide) (by simp [Value.category]) hc (fun r h' hq => ?_)
  obtain ⟨rfl, hA2⟩ := hq
  refine ⟨_, rfl, Or.inl ⟨_, rfl⟩, ?_⟩
  exact law_eq hg dL_law_372 (by decide) (kk _ hA2)
theorem lc_9 (hg : lG b L xs D cy p s m meth c) (hr : n ≤ 600000 ∧ k ≤ 7302250) (hi : i + 5 ≤ L) (hA : AnyW h) (kk : ∀ h', AnyW h' → lOk p l e s m below meth c b D cy n k 780 (lvA s b i) [] h') : lOk p l e s m below meth c b D cy n k 377 (lvA s b i) [] h := by
  refine law_a1 hg dL_law_377 ?_
  refine law_callV (M' := mX8_undo) (a := 0) (as := []) (st := []) hg hr hA.kk dL_law_378 ml_L_52 ke_X8_undo rfl rfl rfl rfl (by decide) (by simp) (B_undo  h hA) (fun r h' hq => ?_)
  obtain ⟨x, rfl, ⟨v, rfl⟩, hh, hc⟩ := hq
  refine ⟨_, rfl, Or.inl ⟨_, rfl⟩, ?_⟩
  refine law_a2 hg dL_law_381 ?_
  refine law_callV (M' := mX9_undo) (as := []) (st := [.int v]) (a := 97) hg hr hh dL_law_382 ml_L_55 ke_X9_undo rfl rfl rfl rfl (by decide) (by simp [Value.category]) hc (fun r h' hq => ?_)
  obtain ⟨rfl, hA2⟩ := hq
  refine ⟨_, rfl, Or.inl ⟨_, rfl⟩, ?_⟩
  exact law_eq hg dL_law_385 (by decide) (kk _ hA2)
theorem lc_10 (hg : lG b L xs D cy p s m meth c) (hr : n ≤ 600000 ∧ k ≤ 7302250) (hi : i + 5 ≤ L) (hA : AnyW h) (kk : ∀ h', AnyW h' → lOk p l e s m below meth c b D cy n k 780 (lvA s b i) [] h') : lOk p l e s m below meth c b D cy n k 390 (lvA s b i) [] h := by
  refine law_a1 hg dL_law_390 ?_
  refine law_ld1 hg dL_law_391 dL_law_392 dL_law_393 dL_law_394 dL_law_395 (by omega) ?_
  refine law_ld2 hg dL_law_396 dL_law_397 dL_law_398 dL_law_399 dL_law_400 (by omega) ?_
  refine law_callV (M' := mX8_at) (a := 0) (as := [.int (xs (i + 1)), .int (xs (i + 2))]) (st := []) hg hr hA.kk dL_law_401 ml_L_56 ke_X8_at rfl rfl rfl rfl (by decide) (by simp) (B_at _ _ h hA) (fun r h' hq => ?_)
  obtain ⟨x, rfl, ⟨v, rfl⟩, hh, hc⟩ := hq
  refine ⟨_, rfl, Or.inl ⟨_, rfl⟩, ?_⟩
  refine law_a2 hg dL_law_404 ?_
  refine law_ld1 hg dL_law_405 dL_law_406 dL_law_407 dL_law_408 dL_law_409 (by omega) ?_
  refine law_ld2 hg dL_law_410 dL_law_411 dL_law_412 dL_law_413 dL_law_414 (by omega) ?_
  refine law_callV (M' := mX9_at) (as := [.int (xs (i + 1)), .int (xs (i + 2))]) (st := [.int v]) (a := 97) hg hr hh dL_law_415 ml_L_59 ke_X9_at rfl rfl rfl rfl (by decide) (by simp [Value.category]) hc (fun r h' hq => ?_)
  obtain ⟨rfl, hA2⟩ := hq
  refine ⟨_, rfl, Or.inl ⟨_, rfl⟩, ?_⟩
  exact law_eq hg dL_law_418 (by decide) (kk _ hA2)
theorem lc_11 (hg : lG b L xs D cy p s m meth c) (hr : n ≤ 600000 ∧ k ≤ 7302250) (hi : i + 5 ≤ L) (hA : AnyW h) (kk : ∀ h', AnyW h' → lOk p l e s m below meth c b D cy n k 780 (lvA s b i) [] h') : lOk p l e s m below meth c b D cy n k 423 (lvA s b i) [] h := by
  refine law_a1 hg dL_law_423 ?_
  refine law_ld1 hg dL_law_424 dL_law_425 dL_law_426 dL_law_427 dL_law_428 (by omega) ?_
  refine law_ld2 hg dL_law_429 dL_law_430 dL_law_431 dL_law_432 dL_law_433 (by omega) ?_
  refine law_ld3 hg dL_law_434 dL_law_435 dL_law_436 dL_law_437 dL_law_438 (by omega) ?_
  refine law_callV (M' := mX8_ruled) (a := 0) (as := [.int (xs (i + 1)), .int (xs (i + 2)), .int (xs (i + 3))]) (st := []) hg hr hA.kk dL_law_439 ml_L_60 ke_X8_ruled rfl rfl rfl rfl (by decide) (by simp) (B_ruled _ _ _ h hA) (fun r h' hq => ?_)
  obtain ⟨x, rfl, ⟨v, rfl⟩, hh, hc⟩ := hq
  refine ⟨_, rfl, Or.inl ⟨_, rfl⟩, ?_⟩
  refine law_a2 hg dL_law_442 ?_
  refine law_ld1 hg dL_law_443 dL_law_444 dL_law_445 dL_law_446 dL_law_447 (by omega) ?_
  refine law_ld2 hg dL_law_448 dL_law_449 dL_law_450 dL_law_451 dL_law_452 (by omega) ?_
  refine law_ld3 hg dL_law_453 dL_law_454 dL_law_455 dL_law_456 dL_law_457 (by omega) ?_
  refine law_callV (M' := mX9_ruled) (as := [.int (xs (i + 1)), .int (xs (i + 2)), .int (xs (i + 3))]) (st := [.int v]) (a := 97) hg hr hh dL_law_458 ml_L_64 ke_X9_ruled rfl rfl rfl rfl (by decide) (by simp [Value.category]) hc (fun r h' hq => ?_)
  obtain ⟨rfl, hA2⟩ := hq
  refine ⟨_, rfl, Or.inl ⟨_, rfl⟩, ?_⟩
  exact law_eq hg dL_law_461 (by decide) (kk _ hA2)
theorem lc_12 (hg : lG b L xs D cy p s m meth c) (hr : n ≤ 600000 ∧ k ≤ 7302250) (hi : i + 5 ≤ L) (hA : AnyW h) (kk : ∀ h', AnyW h' → lOk p l e s m below meth c b D cy n k 780 (lvA s b i) [] h') : lOk p l e s m below meth c b D cy n k 466 (lvA s b i) [] h := by
  refine law_a1 hg dL_law_466 ?_
  refine law_ld1 hg dL_law_467 dL_law_468 dL_law_469 dL_law_470 dL_law_471 (by omega) ?_
  refine law_ld2 hg dL_law_472 dL_law_473 dL_law_474 dL_law_475 dL_law_476 (by omega) ?_
  refine law_callV (M' := mX8_quick) (a := 0) (as := [.int (xs (i + 1)), .int (xs (i + 2))]) (st := []) hg hr hA.kk dL_law_477 ml_L_65 ke_X8_quick rfl rfl rfl rfl (by decide) (by simp) (B_quick _ _ h hA) (fun r h' hq => ?_)
  obtain ⟨x, rfl, ⟨v, rfl⟩, hh, hc⟩ := hq
  refine ⟨_, rfl, Or.inl ⟨_, rfl⟩, ?_⟩
  refine law_a2 hg dL_law_480 ?_
  refine law_ld1 hg dL_law_481 dL_law_482 dL_law_483 dL_law_484 dL_law_485 (by omega) ?_
  refine law_ld2 hg dL_law_486 dL_law_487 dL_law_488 dL_law_489 dL_law_490 (by omega) ?_
  refine law_callV (M' := mX9_quick) (as := [.int (xs (i + 1)), .int (xs (i + 2))]) (st := [.int v]) (a := 97) hg hr hh dL_law_491 ml_L_68 ke_X9_quick rfl rfl rfl rfl (by decide) (by simp [Value.category]) hc (fun r h' hq => ?_)
  obtain ⟨rfl, hA2⟩ := hq
  refine ⟨_, rfl, Or.inl ⟨_, rfl⟩, ?_⟩
  exact law_eq hg dL_law_494 (by decide) (kk _ hA2)
theorem lc_13 (hg : lG b L xs D cy p s m meth c) (hr : n ≤ 600000 ∧ k ≤ 7302250) (hi : i + 5 ≤ L) (hA : AnyW h) (kk : ∀ h', AnyW h' → lOk p l e s m below meth c b D cy n k 780 (lvA s b i) [] h') : lOk p l e s m below meth c b D cy n k 499 (lvA s b i) [] h := by
  refine law_a1 hg dL_law_499 ?_
  refine law_ld1 hg dL_law_500 dL_law_501 dL_law_502 dL_law_503 dL_law_504 (by omega) ?_
  refine law_ld2 hg dL_law_505 dL_law_506 dL_law_507 dL_law_508 dL_law_509 (by omega) ?_
  refine law_ld3 hg dL_law_510 dL_law_511 dL_law_512 dL_law_513 dL_law_514 (by omega) ?_
  refine law_callV (M' := mX8_same) (a := 0) (as := [.int (xs (i + 1)), .int (xs (i + 2)), .int (xs (i + 3))]) (st := []) hg hr hA.kk dL_law_515 ml_L_69 ke_X8_same rfl rfl rfl rfl (by decide) (by simp) (B_same _ _ _ h hA) (fun r h' hq => ?_)
  obtain ⟨x, rfl, ⟨v, rfl⟩, hh, hc⟩ := hq
  refine ⟨_, rfl, Or.inl ⟨_, rfl⟩, ?_⟩
  refine law_a2 hg dL_law_518 ?_
  refine law_ld1 hg dL_law_519 dL_law_520 dL_law_521 dL_law_522 dL_law_523 (by omega) ?_
  refine law_ld2 hg dL_law_524 dL_law_525 dL_law_526 dL_law_527 dL_law_528 (by omega) ?_
  refine law_ld3 hg dL_law_529 dL_law_530 dL_law_531 dL_law_532 dL_law_533 (by omega) ?_
  refine law_callV (M' := mX9_same) (as := [.int (xs (i + 1)), .int (xs (i + 2)), .int (xs (i + 3))]) (st := [.int v]) (a := 97) hg hr hh dL_law_534 ml_L_72 ke_X9_same rfl rfl rfl rfl (by decide) (by simp [Value.category]) hc (fun r h' hq => ?_)
  obtain ⟨rfl, hA2⟩ := hq
  refine ⟨_, rfl, Or.inl ⟨_, rfl⟩, ?_⟩
  exact law_eq hg dL_law_537 (by decide) (kk _ hA2)
theorem lc_14 (hg : lG b L xs D cy p s m meth c) (hr : n ≤ 600000 ∧ k ≤ 7302250) (hi : i + 5 ≤ L) (hA : AnyW h) (kk : ∀ h', AnyW h' → lOk p l e s m below meth c b D cy n k 780 (lvA s b i) [] h') : lOk p l e s m below meth c b D cy n k 542 (lvA s b i) [] h := by
  refine law_a1 hg dL_law_542 ?_
  refine law_ld1 hg dL_law_543 dL_law_544 dL_law_545 dL_law_546 dL_law_547 (by omega) ?_
  refine law_ld2 hg dL_law_548 dL_law_549 dL_law_550 dL_law_551 dL_law_552 (by omega) ?_
  refine law_ld3 hg dL_law_553 dL_law_554 dL_law_555 dL_law_556 dL_law_557 (by omega) ?_
  refine law_ld4 hg dL_law_558 dL_law_559 dL_law_560 dL_law_561 dL_law_562 (by omega) ?_
  refine law_callV (M' := mX8_seam) (a := 0) (as := [.int (xs (i + 1)), .int (xs (i + 2)), .int (xs (i + 3)), .int (xs (i + 4))]) (st := []) hg hr hA.kk dL_law_563 ml_L_73 ke_X8_seam rfl rfl rfl rfl (by decide) (by simp) (B_seam _ _ _ _ h hA) (fun r h' hq => ?_)
  obtain ⟨x, rfl, ⟨v, rfl⟩, hh, hc⟩ := hq
  refine ⟨_, rfl, Or.inl ⟨_, rfl⟩, ?_⟩
  refine law_a2 hg dL_law_566 ?_
  refine law_ld1 hg dL_law_567 dL_law_568 dL_law_569 dL_law_570 dL_law_571 (by omega) ?_
  refine law_ld2 hg dL_law_572 dL_law_573 dL_law_574 dL_law_575 dL_law_576 (by omega) ?_
  refine law_ld3 hg dL_law_577 dL_law_578 dL_law_579 dL_law_580 dL_law_581 (by omega) ?_
  refine law_ld4 hg dL_law_582 dL_law_583 dL_law_584 dL_law_585 dL_law_586 (by omega) ?_
  refine law_callV (M' := mX9_seam) (as := [.int (xs (i + 1)), .int (xs (i + 2)), .int (xs (i + 3)), .int (xs (i + 4))]) (st := [.int v]) (a := 97) hg hr hh dL_law_587 ml_L_77 ke_X9_seam rfl rfl rfl rfl (by decide) (by simp [Value.category]) hc (fun r h' hq => ?_)
  obtain ⟨rfl, hA2⟩ := hq
  refine ⟨_, rfl, Or.inl ⟨_, rfl⟩, ?_⟩
  exact law_eq hg dL_law_590 (by decide) (kk _ hA2)
theorem lc_15 (hg : lG b L xs D cy p s m meth c) (hr : n ≤ 600000 ∧ k ≤ 7302250) (hi : i + 5 ≤ L) (hA : AnyW h) (kk : ∀ h', AnyW h' → lOk p l e s m below meth c b D cy n k 780 (lvA s b i) [] h') : lOk p l e s m below meth c b D cy n k 595 (lvA s b i) [] h := by
  refine law_a1 hg dL_law_595 ?_
  refine law_ld1 hg dL_law_596 dL_law_597 dL_law_598 dL_law_599 dL_law_600 (by omega) ?_
  refine law_callV (M' := mX8_spellings) (a := 0) (as := [.int (xs (i + 1))]) (st := []) hg hr hA.kk dL_law_601 ml_L_78 ke_X8_spellings rfl rfl rfl rfl (by decide) (by simp) (B_spellings _ h hA) (fun r h' hq => ?_)
  obtain ⟨x, rfl, ⟨v, rfl⟩, hh, hc⟩ := hq
  refine ⟨_, rfl, Or.inr ⟨_, rfl⟩, ?_⟩
  refine law_a2 hg dL_law_604 ?_
  refine law_ld1 hg dL_law_605 dL_law_606 dL_law_607 dL_law_608 dL_law_609 (by omega) ?_
  refine law_callV (M' := mX9_spellings) (as := [.int (xs (i + 1))]) (st := [.long v]) (a := 97) hg hr hh dL_law_610 ml_L_82 ke_X9_spellings rfl rfl rfl rfl (by decide) (by simp [Value.category]) hc (fun r h' hq => ?_)
  obtain ⟨rfl, hA2⟩ := hq
  refine ⟨_, rfl, Or.inr ⟨_, rfl⟩, ?_⟩
  exact law_eqJ hg dL_law_613 dL_law_614 (by decide) (kk _ hA2)
theorem lc_16 (hg : lG b L xs D cy p s m meth c) (hr : n ≤ 600000 ∧ k ≤ 7302250) (hi : i + 5 ≤ L) (hA : AnyW h) (kk : ∀ h', AnyW h' → lOk p l e s m below meth c b D cy n k 780 (lvA s b i) [] h') : lOk p l e s m below meth c b D cy n k 619 (lvA s b i) [] h := by
  refine law_a1 hg dL_law_619 ?_
  refine law_ld1 hg dL_law_620 dL_law_621 dL_law_622 dL_law_623 dL_law_624 (by omega) ?_
  refine law_callV (M' := mX8_pipes) (a := 0) (as := [.int (xs (i + 1))]) (st := []) hg hr hA.kk dL_law_625 ml_L_83 ke_X8_pipes rfl rfl rfl rfl (by decide) (by simp) (B_pipes _ h hA) (fun r h' hq => ?_)
  obtain ⟨x, rfl, ⟨v, rfl⟩, hh, hc⟩ := hq
  refine ⟨_, rfl, Or.inl ⟨_, rfl⟩, ?_⟩
  refine law_a2 hg dL_law_628 ?_
  refine law_ld1 hg dL_law_629 dL_law_630 dL_law_631 dL_law_632 dL_law_633 (by omega) ?_
  refine law_callV (M' := mX9_pipes) (as := [.int (xs (i + 1))]) (st := [.int v]) (a := 97) hg hr hh dL_law_634 ml_L_86 ke_X9_pipes rfl rfl rfl rfl (by decide) (by simp [Value.category]) hc (fun r h' hq => ?_)
  obtain ⟨rfl, hA2⟩ := hq
  refine ⟨_, rfl, Or.inl ⟨_, rfl⟩, ?_⟩
  exact law_eq hg dL_law_637 (by decide) (kk _ hA2)
theorem lc_17 (hg : lG b L xs D cy p s m meth c) (hr : n ≤ 600000 ∧ k ≤ 7302250) (hi : i + 5 ≤ L) (hA : AnyW h) (kk : ∀ h', AnyW h' → lOk p l e s m below meth c b D cy n k 780 (lvA s b i) [] h') : lOk p l e s m below meth c b D cy n k 642 (lvA s b i) [] h := by
  refine law_a1 hg dL_law_642 ?_
  refine law_callV (M' := mX8_unpipe) (a := 0) (as := []) (st := []) hg hr hA.kk dL_law_643 ml_L_87 ke_X8_unpipe rfl rfl rfl rfl (by decide) (by simp) (B_unpipe  h hA) (fun r h' hq => ?_)
  obtain ⟨x, rfl, ⟨v, rfl⟩, hh, hc⟩ := hq
  refine ⟨_, rfl, Or.inl ⟨_, rfl⟩, ?_⟩
  refine law_a2 hg dL_law_646 ?_
  refine law_callV (M' := mX9_unpipe) (as := []) (st := [.int v]) (a := 97) hg hr hh dL_law_647 ml_L_90 ke_X9_unpipe rfl rfl rfl rfl (by decide) (by simp [Value.category]) hc (fun r h' hq => ?_)
  obtain ⟨rfl, hA2⟩ := hq
  refine ⟨_, rfl, Or.inl ⟨_, rfl⟩, ?_⟩
  exact law_eq hg dL_law_650 (by decide) (kk _ hA2)
theorem lc_18 (hg : lG b L xs D cy p s m meth c) (hr : n ≤ 600000 ∧ k ≤ 7302250) (hi : i + 5 ≤ L) (hA : AnyW h) (kk : ∀ h', AnyW h' → lOk p l e s m below meth c b D cy n k 780 (lvA s b i) [] h') : lOk p l e s m below meth c b D cy n k 655 (lvA s b i) [] h := by
  refine law_a1 hg dL_law_655 ?_
  refine law_ld1 hg dL_law_656 dL_law_657 dL_law_658 dL_law_659 dL_law_660 (by omega) ?_
  refine law_ld2 hg dL_law_661 dL_law_662 dL_law_663 dL_law_664 dL_law_665 (by omega) ?_
  refine law_callV (M' := mX8_piped) (a := 0) (as := [.int (xs (i + 1)), .int (xs (i + 2))]) (st := []) hg hr hA.kk dL_law_666 ml_L_91 ke_X8_piped rfl rfl rfl rfl (by decide) (by simp) (B_piped _ _ h hA) (fun r h' hq => ?_)
  obtain ⟨x, rfl, ⟨v, rfl⟩, hh, hc⟩ := hq
  refine ⟨_, rfl, Or.inl ⟨_, rfl⟩, ?_⟩
  refine law_a2 hg dL_law_669 ?_
  refine law_ld1 hg dL_law_670 dL_law_671 dL_law_672 dL_law_673 dL_law_674 (by omega) ?_
  refine law_ld2 hg dL_law_675 dL_law_676 dL_law_677 dL_law_678 dL_law_679 (by omega) ?_
  refine law_callV (M' := mX9_piped) (as := [.int (xs (i + 1)), .int (xs (i + 2))]) (st := [.int v]) (a := 97) hg hr hh dL_law_680 ml_L_94 ke_X9_piped rfl rfl rfl rfl (by decide) (by simp [Value.category]) hc (fun r h' hq => ?_)
  obtain ⟨rfl, hA2⟩ := hq
  refine ⟨_, rfl, Or.inl ⟨_, rfl⟩, ?_⟩
  exact law_eq hg dL_law_683 (by decide) (kk _ hA2)
theorem lc_19 (hg : lG b L xs D cy p s m meth c) (hr : n ≤ 600000 ∧ k ≤ 7302250) (hi : i + 5 ≤ L) (hA : AnyW h) (kk : ∀ h', AnyW h' → lOk p l e s m below meth c b D cy n k 780 (lvA s b i) [] h') : lOk p l e s m below meth c b D cy n k 688 (lvA s b i) [] h := by
  refine law_a1 hg dL_law_688 ?_
  refine law_ld1 hg dL_law_689 dL_law_690 dL_law_691 dL_law_692 dL_law_693 (by omega) ?_
  refine law_callV (M' := mX8_fixed) (a := 0) (as := [.int (xs (i + 1))]) (st := []) hg hr hA.kk dL_law_694 ml_L_95 ke_X8_fixed rfl rfl rfl rfl (by decide) (by simp) (B_fixed _ h hA) (fun r h' hq => ?_)
  obtain ⟨x, rfl, ⟨v, rfl⟩, hh, hc⟩ := hq
  refine ⟨_, rfl, Or.inl ⟨_, rfl⟩, ?_⟩
  refine law_a2 hg dL_law_697 ?_
  refine law_ld1 hg dL_law_698 dL_law_699 dL_law_700 dL_law_701 dL_law_702 (by omega) ?_
  refine law_callV (M' := mX9_fixed) (as := [.int (xs (i + 1))]) (st := [.int v]) (a := 97) hg hr hh dL_law_703 ml_L_98 ke_X9_fixed rfl rfl rfl rfl (by decide) (by simp [Value.category]) hc (fun r h' hq => ?_)
  obtain ⟨rfl, hA2⟩ := hq
  refine ⟨_, rfl, Or.inl ⟨_, rfl⟩, ?_⟩
  exact law_eq hg dL_law_706 (by decide) (kk _ hA2)
theorem lc_20 (hg : lG b L xs D cy p s m meth c) (hr : n ≤ 600000 ∧ k ≤ 7302250) (hi : i + 5 ≤ L) (hA : AnyW h) (kk : ∀ h', AnyW h' → lOk p l e s m below meth c b D cy n k 780 (lvA s b i) [] h') : lOk p l e s m below meth c b D cy n k 711 (lvA s b i) [] h := by
  refine law_a1 hg dL_law_711 ?_
  refine law_ld1 hg dL_law_712 dL_law_713 dL_law_714 dL_law_715 dL_law_716 (by omega) ?_
  refine law_callV (M' := mX8_keep) (a := 0) (as := [.int (xs (i + 1))]) (st := []) hg hr hA.kk dL_law_717 ml_L_99 ke_X8_keep rfl rfl rfl rfl (by decide) (by simp) (B_keep _ h hA) (fun r h' hq => ?_)
  obtain ⟨x, rfl, ⟨v, rfl⟩, hh, hc⟩ := hq
  refine ⟨_, rfl, Or.inl ⟨_, rfl⟩, ?_⟩
  refine law_a2 hg dL_law_720 ?_
  refine law_ld1 hg dL_law_721 dL_law_722 dL_law_723 dL_law_724 dL_law_725 (by omega) ?_
  refine law_callV (M' := mX9_keep) (as := [.int (xs (i + 1))]) (st := [.int v]) (a := 97) hg hr hh dL_law_726 ml_L_102 ke_X9_keep rfl rfl rfl rfl (by decide) (by simp [Value.category]) hc (fun r h' hq => ?_)
  obtain ⟨rfl, hA2⟩ := hq
  refine ⟨_, rfl, Or.inl ⟨_, rfl⟩, ?_⟩
  exact law_eq hg dL_law_729 (by decide) (kk _ hA2)
theorem lc_21 (hg : lG b L xs D cy p s m meth c) (hr : n ≤ 600000 ∧ k ≤ 7302250) (hi : i + 5 ≤ L) (hA : AnyW h) (kk : ∀ h', AnyW h' → lOk p l e s m below meth c b D cy n k 780 (lvA s b i) [] h') : lOk p l e s m below meth c b D cy n k 734 (lvA s b i) [] h := by
  refine law_a1 hg dL_law_734 ?_
  refine law_ld1 hg dL_law_735 dL_law_736 dL_law_737 dL_law_738 dL_law_739 (by omega) ?_
  refine law_callV (M' := mX8_back) (a := 0) (as := [.int (xs (i + 1))]) (st := []) hg hr hA.kk dL_law_740 ml_L_103 ke_X8_back rfl rfl rfl rfl (by decide) (by simp) (B_back _ h hA) (fun r h' hq => ?_)
  obtain ⟨x, rfl, ⟨v, rfl⟩, hh, hc⟩ := hq
  refine ⟨_, rfl, Or.inl ⟨_, rfl⟩, ?_⟩
  refine law_a2 hg dL_law_743 ?_
  refine law_ld1 hg dL_law_744 dL_law_745 dL_law_746 dL_law_747 dL_law_748 (by omega) ?_
  refine law_callV (M' := mX9_back) (as := [.int (xs (i + 1))]) (st := [.int v]) (a := 97) hg hr hh dL_law_749 ml_L_106 ke_X9_back rfl rfl rfl rfl (by decide) (by simp [Value.category]) hc (fun r h' hq => ?_)
  obtain ⟨rfl, hA2⟩ := hq
  refine ⟨_, rfl, Or.inl ⟨_, rfl⟩, ?_⟩
  exact law_eq hg dL_law_752 (by decide) (kk _ hA2)
theorem lc_22 (hg : lG b L xs D cy p s m meth c) (hr : n ≤ 600000 ∧ k ≤ 7302250) (hi : i + 5 ≤ L) (hA : AnyW h) (kk : ∀ h', AnyW h' → lOk p l e s m below meth c b D cy n k 780 (lvA s b i) [] h') : lOk p l e s m below meth c b D cy n k 757 (lvA s b i) [] h := by
  refine law_a1 hg dL_law_757 ?_
  refine law_ld1 hg dL_law_758 dL_law_759 dL_law_760 dL_law_761 dL_law_762 (by omega) ?_
  refine law_callV (M' := mX8_count) (a := 0) (as := [.int (xs (i + 1))]) (st := []) hg hr hA.kk dL_law_763 ml_L_107 ke_X8_count rfl rfl rfl rfl (by decide) (by simp) (B_count _ h hA) (fun r h' hq => ?_)
  obtain ⟨x, rfl, ⟨v, rfl⟩, hh, hc⟩ := hq
  refine ⟨_, rfl, Or.inl ⟨_, rfl⟩, ?_⟩
  refine law_a2 hg dL_law_766 ?_
  refine law_ld1 hg dL_law_767 dL_law_768 dL_law_769 dL_law_770 dL_law_771 (by omega) ?_
  refine law_callV (M' := mX9_count) (as := [.int (xs (i + 1))]) (st := [.int v]) (a := 97) hg hr hh dL_law_772 ml_L_110 ke_X9_count rfl rfl rfl rfl (by decide) (by simp [Value.category]) hc (fun r h' hq => ?_)
  obtain ⟨rfl, hA2⟩ := hq
  refine ⟨_, rfl, Or.inl ⟨_, rfl⟩, ?_⟩
  exact law_eq hg dL_law_775 (by decide) (kk _ hA2)
end LAW
