/-! ===== tables that can be told ===== -/
def okC (T : List CR) (c : Int32) : Prop := ∃ j : Nat, j < T.length ∧ c = nI j
def okR (T : List CR) (q : CR) : Prop :=
  (∃ c : Nat, c ≤ 9 ∧ q = addR T 0 (nI c) (-9) (-9)) ∨
  (∃ kd a b, (kd = 1 ∨ kd = 2) ∧ okC T a ∧ okC T b ∧ mF T a ∧ mS T kd a b ∧ (kd = 1 → pairC T a b = -9 ∧ (prs T).length < 7) ∧ q = addR T kd 0 a b) ∨
  (∃ a, okC T a ∧ q = addR T 3 (tC T a) a (-9))
def TOk (T : List CR) : Prop := T.length ≤ 24 ∧ ∀ j q, T[j]? = some q → okR (T.take j) q
theorem TOk.nil : TOk [] := ⟨Nat.zero_le _, fun j q h => by simp at h⟩
theorem TOk.app {T : List CR} {q : CR} (h : TOk T) (hn : T.length < 24) (hq : okR T q) : TOk (T ++ [q]) := by
  refine ⟨by simp; omega, fun j q' hj => ?_⟩
  rcases Nat.lt_or_ge j T.length with z | z
  · rw [List.getElem?_append_left z] at hj
    rw [List.take_append_of_le_length (by omega)]
    exact h.2 j q' hj
  · rw [List.getElem?_append_right z] at hj
    have hj2 : j - T.length < 1 := (List.getElem?_eq_some_iff.mp hj).1
    rw [show j = T.length by omega] at hj ⊢
    simp at hj
    subst hj
    rw [List.take_left]
    exact hq
theorem TOk.un {T : List CR} {q : CR} (h : TOk (T ++ [q])) : TOk T ∧ T.length < 24 ∧ okR T q := by
  have hl := h.1
  simp at hl
  refine ⟨⟨by omega, fun j q' hj => ?_⟩, by omega, ?_⟩
  · have hj1 : j < T.length := (List.getElem?_eq_some_iff.mp hj).1
    have := h.2 j q' (by rw [List.getElem?_append_left hj1]; exact hj)
    rw [List.take_append_of_le_length (by omega)] at this
    exact this
  · have := h.2 T.length q (by simp)
    rw [List.take_left] at this
    exact this
theorem TOk.ind {P : List CR → Prop} (h0 : P []) (hs : ∀ T q, TOk T → T.length < 24 → okR T q → P T → P (T ++ [q])) : ∀ (n : Nat) (T : List CR), T.length = n → TOk T → P T := by
  intro n
  induction n with
  | zero =>
    intro T hn _
    rw [List.length_eq_zero_iff.mp hn]
    exact h0
  | succ n ih =>
    intro T hn hT
    rcases List.eq_nil_or_concat T with rfl | ⟨T', q, rfl⟩
    · simp at hn
    · rw [List.concat_eq_append] at hn hT ⊢
      obtain ⟨h1, h2, h3⟩ := hT.un
      exact hs T' q h1 h2 h3 (ih T' (by simpa using hn) h1)
theorem tG_old {T : List CR} {q : CR} {c : Int32} (hl : T.length < 24) (h : okC T c) : tG (T ++ [q]) c = tG T c := by
  obtain ⟨j, hj, rfl⟩ := h
  rw [tG_in (by omega), tG_in (by omega), List.getElem?_append_left hj]
theorem tG_new {T : List CR} {q : CR} (hl : T.length < 24) : tG (T ++ [q]) (nI T.length) = some q := by
  rw [tG_in (by omega)]
  simp
theorem okC_app {T : List CR} {q : CR} {c : Int32} : okC (T ++ [q]) c ↔ okC T c ∨ c = nI T.length := by
  unfold okC
  constructor
  · rintro ⟨j, hj, rfl⟩
    simp at hj
    rcases Nat.lt_or_ge j T.length with z | z
    · exact Or.inl ⟨j, z, rfl⟩
    · exact Or.inr (by rw [show j = T.length by omega])
  · rintro (⟨j, hj, rfl⟩ | rfl)
    · exact ⟨j, by simp; omega, rfl⟩
    · exact ⟨T.length, by simp, rfl⟩
theorem tG_m9 (T : List CR) : tG T (-9) = none := by unfold tG; rw [if_pos (by decide)]
theorem tP_m9 (T : List CR) : tP T (-9) = [] := by unfold tP; rw [tG_m9]
theorem tK_old {T : List CR} {q : CR} {c : Int32} (hl : T.length < 24) (h : okC T c) : tK (T ++ [q]) c = tK T c := by unfold tK; rw [tG_old hl h]
theorem tC_old {T : List CR} {q : CR} {c : Int32} (hl : T.length < 24) (h : okC T c) : tC (T ++ [q]) c = tC T c := by unfold tC; rw [tG_old hl h]
theorem tF_old {T : List CR} {q : CR} {c : Int32} (hl : T.length < 24) (h : okC T c) : tF (T ++ [q]) c = tF T c := by unfold tF; rw [tG_old hl h]
theorem tS_old {T : List CR} {q : CR} {c : Int32} (hl : T.length < 24) (h : okC T c) : tS (T ++ [q]) c = tS T c := by unfold tS; rw [tG_old hl h]
theorem tP_old {T : List CR} {q : CR} {c : Int32} (hl : T.length < 24) (h : okC T c) : tP (T ++ [q]) c = tP T c := by unfold tP; rw [tG_old hl h]
theorem tK_new {T : List CR} {q : CR} (hl : T.length < 24) : tK (T ++ [q]) (nI T.length) = q.1 := by unfold tK; rw [tG_new hl]
theorem tC_new {T : List CR} {q : CR} (hl : T.length < 24) : tC (T ++ [q]) (nI T.length) = q.2.1 := by unfold tC; rw [tG_new hl]
theorem tF_new {T : List CR} {q : CR} (hl : T.length < 24) : tF (T ++ [q]) (nI T.length) = q.2.2.1 := by unfold tF; rw [tG_new hl]
theorem tS_new {T : List CR} {q : CR} (hl : T.length < 24) : tS (T ++ [q]) (nI T.length) = q.2.2.2.1 := by unfold tS; rw [tG_new hl]
theorem tP_new {T : List CR} {q : CR} (hl : T.length < 24) : tP (T ++ [q]) (nI T.length) = q.2.2.2.2 := by unfold tP; rw [tG_new hl]
/-- what holds of each code -/
def cOk (T : List CR) (c : Int32) : Prop := (∃ k : Nat, k ≤ 9 ∧ tC T c = nI k) ∧ (tK T c = 0 ∨ tK T c = 1 ∨ tK T c = 2 ∨ tK T c = 3) ∧ 0 < (tP T c).length ∧ (tP T c).length ≤ 4 ∧ (∀ p ∈ tP T c, okC T p ∧ tP T p = [p]) ∧ (tK T c = 0 → tP T c = [c]) ∧
  (tK T c = 1 → okC T (tF T c) ∧ okC T (tS T c) ∧ tP T (tS T c) = [tS T c] ∧ tP T c = tP T (tF T c) ++ [tS T c] ∧ tC T c = 0)
theorem TOk.all {T : List CR} (hT : TOk T) : ∀ c, okC T c → cOk T c := by
  refine TOk.ind (P := fun T => ∀ c, okC T c → cOk T c) (fun c h => ?_) (fun T q hT hl hq ih => ?_) T.length T rfl hT
  · obtain ⟨j, hj, -⟩ := h; simp at hj
  · have old : ∀ c, okC T c → cOk (T ++ [q]) c := by
      intro c hc
      obtain ⟨h1, h2, h3, h4, h5, h6, h7⟩ := ih c hc
      refine ⟨by rw [tC_old hl hc]; exact h1, by rw [tK_old hl hc]; exact h2, by rw [tP_old hl hc]; exact h3, by rw [tP_old hl hc]; exact h4, fun p hp => ?_, fun hk => ?_, fun hk => ?_⟩
      · rw [tP_old hl hc] at hp
        obtain ⟨g1, g2⟩ := h5 p hp
        exact ⟨okC_app.mpr (Or.inl g1), by rw [tP_old hl g1]; exact g2⟩
      · rw [tK_old hl hc] at hk
        rw [tP_old hl hc]
        exact h6 hk
      · rw [tK_old hl hc] at hk
        obtain ⟨g1, g2, g3, g4, g5⟩ := h7 hk
        rw [tF_old hl hc, tS_old hl hc, tP_old hl hc, tC_old hl hc, tP_old hl g1, tP_old hl g2]
        exact ⟨okC_app.mpr (Or.inl g1), okC_app.mpr (Or.inl g2), g3, g4, g5⟩
    have self : okC (T ++ [q]) (nI T.length) := okC_app.mpr (Or.inr rfl)
    intro c hc
    rcases okC_app.mp hc with hc | rfl
    · exact old c hc
    · unfold cOk
      rw [tC_new hl, tK_new hl, tP_new hl, tF_new hl, tS_new hl]
      rcases hq with ⟨k, hk, rfl⟩ | ⟨kd, a, b, hkd, ha, hb, hmf, hms, hpr, rfl⟩ | ⟨a, ha, rfl⟩
      · have e : (addR T 0 (nI k) (-9) (-9)).2.2.2.2 = [nI T.length] := by simp [addR, tP_m9]
        rw [e]
        refine ⟨⟨k, hk, rfl⟩, Or.inl rfl, by simp, by simp, fun p hp => ?_, fun _ => rfl, fun h => by exact absurd (show (0 : Int32) = 1 from h) (by decide)⟩
        simp at hp
        subst hp
        exact ⟨self, by rw [tP_new hl, e]⟩
      · have hb1 : tP T b = [b] := (ih b hb).2.2.2.2.2.1 hms.1
        have hk0 : ¬ kd = 0 := by rcases hkd with rfl | rfl <;> decide
        have e : (addR T kd 0 a b).2.2.2.2 = tP T a ++ [b] := by simp [addR, hk0, hb1]
        rw [e]
        have hlen := hmf.2
        refine ⟨⟨0, by omega, rfl⟩, ?_, by simp, by simp; omega, fun p hp => ?_, fun h => absurd (show kd = 0 from h) hk0, fun h => ?_⟩
        · rcases hkd with rfl | rfl
          · exact Or.inr (Or.inl rfl)
          · exact Or.inr (Or.inr (Or.inl rfl))
        · rw [List.mem_append, List.mem_singleton] at hp
          rcases hp with hp | rfl
          · obtain ⟨g1, g2⟩ := (ih a ha).2.2.2.2.1 p hp
            exact ⟨okC_app.mpr (Or.inl g1), by rw [tP_old hl g1]; exact g2⟩
          · exact ⟨okC_app.mpr (Or.inl hb), by rw [tP_old hl hb]; exact hb1⟩
        · show okC _ a ∧ okC _ b ∧ tP _ b = [b] ∧ tP T a ++ [b] = tP _ a ++ [b] ∧ (0 : Int32) = 0
          rw [tP_old hl ha, tP_old hl hb]
          exact ⟨okC_app.mpr (Or.inl ha), okC_app.mpr (Or.inl hb), hb1, rfl, rfl⟩
      · have e : (addR T 3 (tC T a) a (-9)).2.2.2.2 = tP T a := by simp [addR, tP_m9]
        rw [e]
        obtain ⟨h1, h2, h3, h4, h5, h6, h7⟩ := ih a ha
        refine ⟨h1, Or.inr (Or.inr (Or.inr rfl)), h3, h4, fun p hp => ?_, fun h => absurd (show (3 : Int32) = 0 from h) (by decide), fun h => absurd (show (3 : Int32) = 1 from h) (by decide)⟩
        obtain ⟨g1, g2⟩ := h5 p hp
        exact ⟨okC_app.mpr (Or.inl g1), by rw [tP_old hl g1]; exact g2⟩
theorem TOk.c0 {T : List CR} (hT : TOk T) {c : Int32} (hc : okC T c) : 0 ≤ tC T c := by
  obtain ⟨⟨k, hk, e⟩, -⟩ := hT.all c hc
  rw [e]
  exact nI_pos' (by omega)
/-! the pairs -/
theorem prs_mem {T : List CR} (hl : T.length < 100000) {c : Int32} : c ∈ prs T ↔ okC T c ∧ tK T c = 1 := by
  unfold prs okC
  rw [List.mem_map]
  constructor
  · rintro ⟨⟨q, j⟩, hq, rfl⟩
    rw [List.mem_filter, decide_eq_true_eq] at hq
    have h1 := List.mk_mem_zipIdx_iff_getElem?.mp hq.1
    have hj : j < T.length := (List.getElem?_eq_some_iff.mp h1).1
    refine ⟨⟨j, hj, rfl⟩, ?_⟩
    unfold tK
    rw [tG_in (by omega), h1]
    exact hq.2
  · rintro ⟨⟨j, hj, rfl⟩, hk⟩
    obtain ⟨q, hq, hg⟩ := tG_at hj hl
    refine ⟨(q, j), ?_, rfl⟩
    rw [List.mem_filter, decide_eq_true_eq]
    refine ⟨List.mk_mem_zipIdx_iff_getElem?.mpr hq, ?_⟩
    unfold tK at hk
    rw [hg] at hk
    exact hk
theorem fnd_or {p : Int32 → Bool} : ∀ (xs : List Int32), fnd p xs = -9 ∨ (fnd p xs ∈ xs ∧ p (fnd p xs) = true)
  | [] => Or.inl rfl
  | x :: xs => by
    unfold fnd
    split
    · next h => exact Or.inr ⟨by simp, h⟩
    · rcases fnd_or (p := p) xs with h | ⟨h1, h2⟩
      · exact Or.inl h
      · exact Or.inr ⟨by simp [h1], h2⟩
theorem fnd_none {p : Int32 → Bool} : ∀ {xs : List Int32}, (∀ x ∈ xs, x ≠ -9) → (fnd p xs = -9 ↔ ∀ x ∈ xs, ¬ p x = true)
  | [], _ => by simp [fnd]
  | x :: xs, h => by
    unfold fnd
    have ih := fnd_none (p := p) (xs := xs) (fun y hy => h y (by simp [hy]))
    split
    · next hp => simp [hp, h x (by simp)]
    · next hp => rw [ih]; simp [hp]
theorem okC_n9 {T : List CR} {c : Int32} (hl : T.length < 100000) (h : okC T c) : c ≠ -9 := by
  obtain ⟨j, hj, rfl⟩ := h
  exact nI_n9 (by omega)
theorem pairC_or {T : List CR} (hl : T.length < 100000) (a b : Int32) : pairC T a b = -9 ∨ (okC T (pairC T a b) ∧ tK T (pairC T a b) = 1 ∧ tF T (pairC T a b) = a ∧ tS T (pairC T a b) = b) := by
  rcases fnd_or (p := isPr T a b) (prs T) with h | ⟨h1, h2⟩
  · exact Or.inl h
  · obtain ⟨g1, g2⟩ := (prs_mem hl).mp h1
    exact Or.inr ⟨g1, g2, (isPr_iff.mp h2).1, (isPr_iff.mp h2).2⟩
theorem pairC_none {T : List CR} (hl : T.length < 100000) {a b : Int32} : pairC T a b = -9 ↔ ∀ c, okC T c → tK T c = 1 → ¬ (tF T c = a ∧ tS T c = b) := by
  unfold pairC
  rw [fnd_none (fun x hx => okC_n9 hl ((prs_mem hl).mp hx).1)]
  constructor
  · intro h c hc hk hab
    exact h c ((prs_mem hl).mpr ⟨hc, hk⟩) (isPr_iff.mpr hab)
  · intro h c hc hp
    obtain ⟨g1, g2⟩ := (prs_mem hl).mp hc
    exact h c g1 g2 (isPr_iff.mp hp)
/-- no two pairs of the same two -/
theorem TOk.uniq {T : List CR} (hT : TOk T) : ∀ c c', okC T c → okC T c' → tK T c = 1 → tK T c' = 1 → tF T c = tF T c' → tS T c = tS T c' → c = c' := by
  refine TOk.ind (P := fun T => ∀ c c', okC T c → okC T c' → tK T c = 1 → tK T c' = 1 → tF T c = tF T c' → tS T c = tS T c' → c = c') (fun c c' h => ?_) (fun T q hT hl hq ih => ?_) T.length T rfl hT
  · obtain ⟨j, hj, -⟩ := h; simp at hj
  · have key : ∀ c, okC T c → tK T c = 1 → q.1 = 1 → ¬ (tF T c = q.2.2.1 ∧ tS T c = q.2.2.2.1) := by
      intro c hc hk hq1
      rcases hq with ⟨k, hk, rfl⟩ | ⟨kd, a, b, hkd, ha, hb, hmf, hms, hpr, rfl⟩ | ⟨a, ha, rfl⟩
      · exact absurd (show (0 : Int32) = 1 from hq1) (by decide)
      · exact (pairC_none (by omega)).mp (hpr hq1).1 c hc hk
      · exact absurd (show (3 : Int32) = 1 from hq1) (by decide)
    intro c c' hc hc' hk hk' hf hs
    rcases okC_app.mp hc with hc | rfl <;> rcases okC_app.mp hc' with hc' | rfl
    · rw [tK_old hl hc] at hk
      rw [tK_old hl hc'] at hk'
      rw [tF_old hl hc, tF_old hl hc'] at hf
      rw [tS_old hl hc, tS_old hl hc'] at hs
      exact ih c c' hc hc' hk hk' hf hs
    · rw [tK_old hl hc] at hk
      rw [tK_new hl] at hk'
      rw [tF_old hl hc, tF_new hl] at hf
      rw [tS_old hl hc, tS_new hl] at hs
      exact absurd ⟨hf, hs⟩ (key c hc hk hk')
    · rw [tK_new hl] at hk
      rw [tK_old hl hc'] at hk'
      rw [tF_new hl, tF_old hl hc'] at hf
      rw [tS_new hl, tS_old hl hc'] at hs
      exact absurd ⟨hf.symm, hs.symm⟩ (key c' hc' hk' hk)
    · rfl
/-! what the rules do to the pieces' number -/
def okL (T : List CR) (xs : List Int32) : Prop := ∀ c ∈ xs, okC T c
def pcs (T : List CR) (xs : List Int32) : Nat := (xs.flatMap (tP T)).length
theorem pcs_nil (T : List CR) : pcs T [] = 0 := rfl
theorem pcs_cons (T : List CR) (c : Int32) (xs : List Int32) : pcs T (c :: xs) = (tP T c).length + pcs T xs := by simp [pcs]
theorem pcs_app (T : List CR) (xs ys : List Int32) : pcs T (xs ++ ys) = pcs T xs + pcs T ys := by simp [pcs]
theorem pcs_rev (T : List CR) : ∀ xs, pcs T xs.reverse = pcs T xs
  | [] => rfl
  | c :: xs => by rw [List.reverse_cons, pcs_app, pcs_rev T xs, pcs_cons, pcs_cons, pcs_nil]; omega
theorem pcs_insK (T : List CR) (key : Int32 → Int32) (c : Int32) : ∀ xs, pcs T (insK key c xs) = (tP T c).length + pcs T xs
  | [] => by simp [insK, pcs]
  | x :: xs => by
    unfold insK
    split
    · rw [pcs_cons, pcs_insK T key c xs, pcs_cons]; omega
    · rw [pcs_cons]
theorem pcs_srtR (T : List CR) (key : Int32 → Int32) : ∀ xs acc, pcs T (srtR key acc xs) = pcs T acc + pcs T xs
  | [], acc => by simp [srtR, pcs]
  | c :: cs, acc => by
    unfold srtR
    rw [pcs_srtR T key cs, pcs_cons]
    unfold ins1
    split
    · rw [pcs_cons]; omega
    · rw [pcs_insK]; omega
theorem pcs_srt (T : List CR) (key : Int32 → Int32) (xs : List Int32) : pcs T (srt key xs) = pcs T xs := by
  unfold srt
  rw [pcs_rev, pcs_srtR]
  simp [pcs]
theorem okL_srt {T : List CR} {key : Int32 → Int32} {xs : List Int32} (h : okL T xs) : okL T (srt key xs) := fun c hc => h c (srt_mem.mp hc)
/-- the plain ones -/
def plL (T : List CR) (xs : List Int32) : Prop := ∀ c ∈ xs, okC T c ∧ tP T c = [c]
theorem plL_pcs {T : List CR} : ∀ {xs : List Int32}, plL T xs → pcs T xs = xs.length
  | [], _ => rfl
  | c :: xs, h => by
    rw [pcs_cons, (h c (by simp)).2, plL_pcs (fun x hx => h x (by simp [hx]))]
    simp; omega
theorem apart_pl {T : List CR} (hT : TOk T) {xs : List Int32} (h : okL T xs) : plL T (apart T xs) := by
  intro p hp
  unfold apart at hp
  rw [srt_mem, List.mem_flatMap] at hp
  obtain ⟨c, hc, hp⟩ := hp
  exact (hT.all c (h c hc)).2.2.2.2.1 p hp
theorem apart_len (T : List CR) (xs : List Int32) : (apart T xs).length = pcs T xs := srt_len _ _
theorem len_pcs {T : List CR} (hT : TOk T) : ∀ {xs : List Int32}, okL T xs → xs.length ≤ pcs T xs
  | [], _ => Nat.zero_le _
  | c :: xs, h => by
    have h1 := (hT.all c (h c (by simp))).2.2.1
    have h2 := len_pcs hT (xs := xs) (fun x hx => h x (by simp [hx]))
    rw [pcs_cons]
    simp
    omega
theorem pcs_set {T : List CR} {p : Int32} : ∀ {xs : List Int32} {b : Nat}, b < xs.length → pcs T (xs.set b p) + (tP T (xs.getD b (-9))).length = pcs T xs + (tP T p).length
  | [], b, h => by simp at h
  | x :: xs, 0, _ => by
    show pcs T (p :: xs) + (tP T x).length = _
    rw [pcs_cons, pcs_cons]; omega
  | x :: xs, b + 1, h => by
    have := pcs_set (T := T) (p := p) (xs := xs) (b := b) (by simpa using h)
    show pcs T (x :: xs.set b p) + (tP T (xs.getD b (-9))).length = _
    rw [pcs_cons, pcs_cons]; omega
theorem jn_ok {T : List CR} (hT : TOk T) : ∀ (rest : List Int32) (bs : Option Nat) (out : List Int32), (∀ b, bs = some b → b < out.length) → okL T out → plL T rest → okL T (jn T bs out rest) ∧ pcs T (jn T bs out rest) = pcs T out + pcs T rest
  | [], bs, out, hb, h1, h2 => by
    unfold jn
    exact ⟨h1, by simp [pcs]⟩
  | c :: cs, bs, out, hb, h1, h2 => by
    have hl := hT.1
    have hc := h2 c (by simp)
    have h2' : plL T cs := fun x hx => h2 x (by simp [hx])
    unfold jn
    split
    · obtain ⟨g1, g2⟩ := jn_ok hT cs (if tC T c = 0 then some out.length else bs) (out ++ [c]) (by
        intro b hb'
        split at hb'
        · cases hb'; simp
        · have := hb b hb'; simp; omega) (by
        intro x hx
        rw [List.mem_append, List.mem_singleton] at hx
        rcases hx with hx | rfl
        · exact h1 x hx
        · exact hc.1) h2'
      refine ⟨g1, ?_⟩
      rw [g2, pcs_app, pcs_cons, pcs_cons, pcs_nil]; omega
    · next hp =>
      cases bs with
      | none => exact absurd rfl hp
      | some b =>
        have hb' := hb b rfl
        show okL T (jn T (some b) (out.set b _) cs) ∧ pcs T (jn T (some b) (out.set b _) cs) = _
        have e : jp T (some b) out c = pairC T (out.getD b (-9)) c := by
          have hp' : ¬ (if blk T out b c = true then -9 else pairC T (out.getD b (-9)) c) = -9 := hp
          show (if blk T out b c = true then -9 else pairC T (out.getD b (-9)) c) = _
          by_cases z : blk T out b c = true
          · rw [if_pos z] at hp'
            exact absurd rfl hp'
          · rw [if_neg z]
        rw [e] at hp ⊢
        obtain ⟨p1, p2, p3, p4⟩ := (pairC_or (by omega) (out.getD b (-9)) c).resolve_left hp
        obtain ⟨w1, w2, w3, w4, w5⟩ := (hT.all _ p1).2.2.2.2.2.2 p2
        rw [p3, p4] at w4
        obtain ⟨g1, g2⟩ := jn_ok hT cs (some b) (out.set b (pairC T (out.getD b (-9)) c)) (by intro b2 hb2; cases hb2; simpa using hb') (by
          intro x hx
          rcases List.mem_or_eq_of_mem_set hx with hx | rfl
          · exact h1 x hx
          · exact p1) h2'
        refine ⟨g1, ?_⟩
        have hs := pcs_set (T := T) (p := pairC T (out.getD b (-9)) c) hb'
        have hlen := congrArg List.length w4
        rw [List.length_append] at hlen
        simp only [List.length_cons, List.length_nil] at hlen
        rw [g2, pcs_cons, hc.2]
        simp only [List.length_cons, List.length_nil]
        omega
theorem bare_ok {T : List CR} {xs : List Int32} (h : okL T xs) : okL T (bare T xs) := fun c hc => h c (List.mem_filter.mp hc).1
theorem bare_pcs {T : List CR} : ∀ xs, pcs T (bare T xs) ≤ pcs T xs
  | [] => Nat.le_refl _
  | c :: xs => by
    have := bare_pcs (T := T) xs
    unfold bare at this ⊢
    rw [List.filter_cons]
    split
    · rw [pcs_cons, pcs_cons]; omega
    · rw [pcs_cons]; omega
theorem fst1_mem {T : List CR} {c : Int32} : ∀ {xs : List Int32} {b : Nat}, c ∈ fst1 T b xs → c ∈ xs
  | [], b, h => by simp [fst1] at h
  | x :: xs, b, h => by
    unfold fst1 at h
    generalize b + (if tC T x = 0 then 1 else 0) = b' at h
    split at h
    · simp at h
    · rcases List.mem_cons.mp h with h | h
      · simp [h]
      · simp [fst1_mem h]
theorem fst1_pcs {T : List CR} : ∀ (xs : List Int32) (b : Nat), pcs T (fst1 T b xs) ≤ pcs T xs
  | [], b => Nat.le_refl _
  | x :: xs, b => by
    unfold fst1
    generalize b + (if tC T x = 0 then 1 else 0) = b'
    have := fst1_pcs (T := T) xs b'
    split
    · rw [pcs_nil]; omega
    · rw [pcs_cons, pcs_cons]; omega
def ruleF (T : List CR) (rule : Nat) (xs : List Int32) : List Int32 := match rule with
  | 0 => apart T xs
  | 1 => jn T none [] (apart T xs)
  | 2 => srt (tC T) xs
  | 3 => bare T (apart T xs)
  | 4 => xs.reverse
  | 5 => fst1 T 0 xs
  | _ => []
theorem rule_ok {T : List CR} (hT : TOk T) {xs : List Int32} (h : okL T xs) (r : Nat) : okL T (ruleF T r xs) ∧ pcs T (ruleF T r xs) ≤ pcs T xs := by
  have ha := apart_pl hT h
  have hal : okL T (apart T xs) := fun c hc => (ha c hc).1
  have hap : pcs T (apart T xs) = pcs T xs := by rw [plL_pcs ha, apart_len]
  match r with
  | 0 => exact ⟨hal, by show pcs T (apart T xs) ≤ _; omega⟩
  | 1 =>
    obtain ⟨g1, g2⟩ := jn_ok hT (apart T xs) none [] (fun b h => by cases h) (fun c h => by simp at h) ha
    exact ⟨g1, by show pcs T (jn T none [] (apart T xs)) ≤ _; rw [g2, pcs_nil]; omega⟩
  | 2 => exact ⟨okL_srt h, by show pcs T (srt _ xs) ≤ _; rw [pcs_srt]; omega⟩
  | 3 => exact ⟨bare_ok hal, by have := bare_pcs (T := T) (apart T xs); show pcs T (bare T (apart T xs)) ≤ _; omega⟩
  | 4 => exact ⟨fun c hc => h c (List.mem_reverse.mp hc), by show pcs T xs.reverse ≤ _; rw [pcs_rev]; omega⟩
  | 5 => exact ⟨fun c hc => h c (fst1_mem hc), fst1_pcs xs 0⟩
  | _ + 6 => exact ⟨fun c hc => by simp [ruleF] at hc, Nat.zero_le _⟩
