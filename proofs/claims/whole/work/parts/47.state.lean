/-! ===== what the object holds, as a whole ===== -/
def AG (lo hi : Nat) (I I' : Nat → Nat → Int32) : Prop := ∀ a, lo ≤ a → a ≤ hi → I' a = I a
theorem Off.ag {S : List Nat} {I I' : Nat → Nat → Int32} {lo hi : Nat} (ho : Off S I I') (h : ∀ a ∈ S, a < lo ∨ hi < a) : AG lo hi I I' := fun a h1 h2 => ho a (fun z => by have := h a z; omega)
theorem AG.tr {lo hi : Nat} {I I' I'' : Nat → Nat → Int32} (h1 : AG lo hi I I') (h2 : AG lo hi I' I'') : AG lo hi I I'' := fun a x y => (h2 a x y).trans (h1 a x y)
theorem AG.rf {lo hi : Nat} {I : Nat → Nat → Int32} : AG lo hi I I := fun _ _ _ => rfl
theorem Rw.ag {lo hi : Nat} {I I' : Nat → Nat → Int32} {r ra cap : Nat} {xs : List Int32} (h : Rw I r ra cap xs) (ho : AG lo hi I I') (h1 : lo ≤ r ∧ r ≤ hi) (h2 : lo ≤ ra ∧ ra ≤ hi) : Rw I' r ra cap xs := ⟨h.1, h.2.1, by rw [ho r h1.1 h1.2]; exact h.2.2.1, by rw [ho ra h2.1 h2.2]; exact h.2.2.2⟩
theorem Ty.ag {I I' : Nat → Nat → Int32} {bs : List Nat} (h : Ty I bs) (ho : AG 2 3 I I') : Ty I' bs := ⟨h.1.ag ho (by omega) (by omega), h.2⟩
theorem cA_r (sw : Bool) : cA sw = 4 ∨ cA sw = 13 := by cases sw <;> simp [cA]
theorem Cd.ag {I I' : Nat → Nat → Int32} {cb : Nat} {T : List CR} (h : Cd I cb T) (ho : AG 4 21 I I') : Cd I' cb T := by
  have hr := h.1
  refine h.eq ?_ (fun i j h1 h2 _ => ?_) (fun j _ => ?_) ?_ ?_
  · rw [ho cb (by omega) (by omega)]
  · rw [ho (cb + i) (by omega) (by omega)]
  · rw [ho (cb + 6) (by omega) (by omega)]
  · exact ho _ (by omega) (by omega)
  · exact ho _ (by omega) (by omega)
theorem Bd.ag {lo hi : Nat} {I I' : Nat → Nat → Int32} {bb : Nat} {tx : Nat → List Int32} {pp : List Nat} (h : Bd I bb tx pp) (ho : AG lo hi I I') (h1 : lo ≤ bb + 2) (h2 : bb + 11 ≤ hi) : Bd I' bb tx pp :=
  ⟨h.1, fun t ht => (h.2.1 t ht).ag ho (by omega) (by omega), h.2.2.ag ho (by omega) (by omega)⟩
theorem Hy.ag {I I' : Nat → Nat → Int32} {hs : List (Nat × List Int32)} (h : Hy I hs) (ho : AG 61 83 I I') : Hy I' hs := by
  obtain ⟨L, h1, h2, h3, h4, h5, h6⟩ := h
  refine ⟨L, h1, by rw [ho 61 (by omega) (by omega)]; exact h2, by rw [ho 61 (by omega) (by omega)]; exact h3, h4, fun i hi => ?_, fun k q hk => ?_⟩
  · obtain ⟨ws, hw⟩ := h5 i hi
    exact ⟨ws, hw.ag ho (by omega) (by omega)⟩
  · obtain ⟨g1, g2⟩ := h6 k q hk
    have hi : hx10 L k < 10 := Nat.mod_lt _ (by omega)
    exact ⟨by rw [ho 63 (by omega) (by omega)]; exact g1, g2.ag ho (by omega) (by omega)⟩
abbrev ImT : Type := Nat → Option ((Nat → List Int32) × List Nat)
def Im1 (I : Nat → Nat → Int32) (i : Nat) (b : Option ((Nat → List Int32) × List Nat)) : Prop := match b with
  | none => I 36 i = 0 ∧ ∃ ty pq, Bd I (37 + 12 * i) ty pq
  | some b => I 36 i = 1 ∧ Bd I (37 + 12 * i) b.1 b.2
def Im (I : Nat → Nat → Int32) (im : ImT) : Prop := ∀ i, i < 2 → Im1 I i (im i)
theorem Im.ag {I I' : Nat → Nat → Int32} {im : ImT} (h : Im I im) (ho : AG 36 60 I I') : Im I' im := by
  intro i hi
  have := h i hi
  unfold Im1 at this ⊢
  cases hz : im i with
  | none =>
    rw [hz] at this
    obtain ⟨h1, ty, pq, h2⟩ := this
    exact ⟨by rw [ho 36 (by omega) (by omega)]; exact h1, ty, pq, h2.ag ho (by omega) (by omega)⟩
  | some b =>
    rw [hz] at this
    obtain ⟨h1, h2⟩ := this
    exact ⟨by rw [ho 36 (by omega) (by omega)]; exact h1, h2.ag ho (by omega) (by omega)⟩
/-- rows to work with -/
def Sc (I : Nat → Nat → Int32) : Prop := (∃ ws, Rw I 85 86 32 ws) ∧ (∃ ws, Rw I 87 88 128 ws) ∧ (∃ ws, Rw I 91 92 128 ws) ∧ (∃ ws, Rw I 93 94 128 ws) ∧ (∃ ws, Rw I 95 96 128 ws)
theorem Sc.ag {I I' : Nat → Nat → Int32} (h : Sc I) (ho : AG 85 96 I I') : Sc I' := by
  obtain ⟨⟨w1, h1⟩, ⟨w2, h2⟩, ⟨w3, h3⟩, ⟨w4, h4⟩, ⟨w5, h5⟩⟩ := h
  exact ⟨⟨w1, h1.ag ho (by omega) (by omega)⟩, ⟨w2, h2.ag ho (by omega) (by omega)⟩, ⟨w3, h3.ag ho (by omega) (by omega)⟩, ⟨w4, h4.ag ho (by omega) (by omega)⟩, ⟨w5, h5.ag ho (by omega) (by omega)⟩⟩
def InvC (sw : Bool) (I : Nat → Nat → Int32) (bs : List Nat) (T : List CR) (tx : Nat → List Int32) (pp : List Nat) (hs : List (Nat × List Int32)) (im : ImT) : Prop :=
  Ty I bs ∧ Cd I (cA sw) T ∧ (∃ T', Cd I (cA !sw) T') ∧ Bd I 22 tx pp ∧ Im I im ∧ Hy I hs ∧ Sc I
/-- what holds of the numbers, wherever they lie -/
def SOk (bs : List Nat) (T : List CR) (tx : Nat → List Int32) (pp : List Nat) (hs : List (Nat × List Int32)) (im : ImT) : Prop :=
  (bs.length ≤ 150 ∧ ∀ b ∈ bs, b < 256) ∧ TOk T ∧ (∀ t, t < 4 → okL T (tx t) ∧ (tx t).length ≤ 16) ∧ (pp.length ≤ 4 ∧ ∀ r ∈ pp, r < 6) ∧ (hs.length ≤ 10 ∧ ∀ q ∈ hs, q.1 < 4 ∧ okL T q.2 ∧ q.2.length ≤ 16) ∧ ∀ i b, i < 2 → im i = some b → (∀ t, t < 4 → okL T (b.1 t) ∧ (b.1 t).length ≤ 16) ∧ b.2.length ≤ 4 ∧ ∀ r ∈ b.2, r < 6
/-- the other object's cells stay -/
def Fr (I I' : Nat → Nat → Int32) : Prop := ∀ a, 97 ≤ a → I' a = I a
theorem Off.fr {S : List Nat} {I I' : Nat → Nat → Int32} (ho : Off S I I') (h : ∀ a ∈ S, a < 97) : Fr I I' := fun a ha => ho a (fun z => by have := h a z; omega)
theorem Fr.tr {I I' I'' : Nat → Nat → Int32} (h1 : Fr I I') (h2 : Fr I' I'') : Fr I I'' := fun a h => (h2 a h).trans (h1 a h)
theorem Fr.rf {I : Nat → Nat → Int32} : Fr I I := fun _ _ => rfl
theorem InvC.fr {sw : Bool} {I I' : Nat → Nat → Int32} {bs : List Nat} {T : List CR} {tx : Nat → List Int32} {pp : List Nat} {hs : List (Nat × List Int32)} {im : ImT} (h : InvC sw I bs T tx pp hs im) (ho : ∀ a, a < 97 → I' a = I a) : InvC sw I' bs T tx pp hs im := by
  obtain ⟨h1, h2, ⟨T', h3⟩, h4, h5, h6, h7⟩ := h
  have g : ∀ lo hi, hi < 97 → AG lo hi I I' := fun lo hi hh a x y => ho a (by omega)
  exact ⟨h1.ag (g _ _ (by omega)), h2.ag (g _ _ (by omega)), ⟨T', h3.ag (g _ _ (by omega))⟩, h4.ag (g 24 33 (by omega)) (by omega) (by omega), h5.ag (g _ _ (by omega)), h6.ag (g _ _ (by omega)), h7.ag (g _ _ (by omega))⟩
/-- only the rows to work with changed -/
theorem InvC.scr {sw : Bool} {I I' : Nat → Nat → Int32} {bs : List Nat} {T : List CR} {tx : Nat → List Int32} {pp : List Nat} {hs : List (Nat × List Int32)} {im : ImT} (h : InvC sw I bs T tx pp hs im) {S : List Nat} (ho : Off S I I') (hS' : ∀ a ∈ S, 85 ≤ a) (hsc : Sc I') : InvC sw I' bs T tx pp hs im := by
  obtain ⟨h1, h2, ⟨T', h3⟩, h4, h5, h6, h7⟩ := h
  have g : ∀ lo hi, hi < 85 → AG lo hi I I' := fun lo hi hh => ho.ag (fun a ha => by have := hS' a ha; omega)
  exact ⟨h1.ag (g _ _ (by omega)), h2.ag (g _ _ (by omega)), ⟨T', h3.ag (g _ _ (by omega))⟩, h4.ag (g 24 33 (by omega)) (by omega) (by omega), h5.ag (g _ _ (by omega)), h6.ag (g _ _ (by omega)), hsc⟩
theorem Bd.txt {I I' : Nat → Nat → Int32} {tx : Nat → List Int32} {pp : List Nat} (h : Bd I 22 tx pp) {t : Nat} {xs : List Int32} (hx : Rw I' (22 + 4 + 2 * t) (22 + 5 + 2 * t) 16 xs) (ho : Off [22 + 4 + 2 * t, 22 + 5 + 2 * t] I I') (ht : t < 4) : Bd I' 22 (va_up tx t xs) pp := by
  refine ⟨h.1, fun i hi => ?_, h.2.2.off ho (by simp; omega) (by simp; omega)⟩
  by_cases e : i = t
  · subst e
    rw [va_up_s]
    exact hx
  · rw [va_up_n e]
    exact (h.2.1 i hi).off ho (by simp; omega) (by simp; omega)
/-- a text has changed -/
theorem InvC.txt {sw : Bool} {I I' : Nat → Nat → Int32} {bs : List Nat} {T : List CR} {tx : Nat → List Int32} {pp : List Nat} {hs : List (Nat × List Int32)} {im : ImT} (h : InvC sw I bs T tx pp hs im) {t : Nat} {xs : List Int32} (hx : Rw I' (22 + 4 + 2 * t) (22 + 5 + 2 * t) 16 xs) (ho : Off [22 + 4 + 2 * t, 22 + 5 + 2 * t] I I') (ht : t < 4) : InvC sw I' bs T (va_up tx t xs) pp hs im := by
  obtain ⟨h1, h2, ⟨T', h3⟩, h4, h5, h6, h7⟩ := h
  have g : ∀ lo hi, hi < 26 ∨ 33 < lo → AG lo hi I I' := fun lo hi hh => ho.ag (fun a ha => by simp at ha; omega)
  exact ⟨h1.ag (g _ _ (by omega)), h2.ag (g _ _ (by omega)), ⟨T', h3.ag (g _ _ (by omega))⟩, h4.txt hx ho ht, h5.ag (g _ _ (by omega)), h6.ag (g _ _ (by omega)), h7.ag (g _ _ (by omega))⟩
theorem InvC.hst {sw : Bool} {I I' : Nat → Nat → Int32} {bs : List Nat} {T : List CR} {tx : Nat → List Int32} {pp : List Nat} {hs hs' : List (Nat × List Int32)} {im : ImT} (h : InvC sw I bs T tx pp hs im) (hh : Hy I' hs') (ho : Off hS10 I I') : InvC sw I' bs T tx pp hs' im := by
  obtain ⟨h1, h2, ⟨T', h3⟩, h4, h5, h6, h7⟩ := h
  exact ⟨h1.ag (ho.ag (by decide)), h2.ag (ho.ag (by decide)), ⟨T', h3.ag (ho.ag (by decide))⟩, h4.ag (lo := 24) (hi := 33) (ho.ag (by decide)) (by omega) (by omega), h5.ag (ho.ag (by decide)), hh, h7.ag (ho.ag (by decide))⟩
theorem hS10_r {a : Nat} (h : a ∈ hS10) : 61 ≤ a ∧ a ≤ 83 := by
  have : ∀ a ∈ hS10, 61 ≤ a ∧ a ≤ 83 := by decide
  exact this a h
theorem cS_r {sw : Bool} {a : Nat} (h : a ∈ cS (cA sw)) : 4 ≤ a ∧ a ≤ 21 := by
  have : ∀ sw, ∀ a ∈ cS (cA sw), 4 ≤ a ∧ a ≤ 21 := by decide
  exact this sw a h
/-- what look answers -/
def lk (xs : List Int32) (i : Int32) : Int32 := if i = -1 then nI xs.length else if i < 0 ∨ nI xs.length ≤ i then -1 else xs.getD i.toNatClampNeg (-9)
theorem lk_m1 (xs : List Int32) : lk xs (-1) = nI xs.length := by unfold lk; rw [if_pos rfl]
theorem lk_out {xs : List Int32} {i : Int32} (h1 : ¬ i = -1) (h2 : i < 0 ∨ nI xs.length ≤ i) : lk xs i = -1 := by unfold lk; rw [if_neg h1, if_pos h2]
theorem lk_in {xs : List Int32} {j : Nat} (hl : xs.length < 100000) (h : j < xs.length) : lk xs (nI j) = xs.getD j (-9) := by
  unfold lk
  rw [if_neg (fun z => nI_neg' (show j < 100000 by omega) (by rw [z]; decide)), if_neg, nI_clamp (by omega)]
  rintro (z | z)
  · exact nI_neg' (by omega) z
  · have := (nI_le' (by omega) (by omega)).mp z
    omega
theorem i32_gt {c : Int32} {n : Nat} (hn : n < 100000) (h : nI (n + 1) ≤ c) : ¬ c ≤ nI n := by
  rw [Int32.le_iff_toInt_le] at h ⊢
  rw [nI_toInt (by omega)] at h ⊢
  omega
theorem i32_ltg {c : Int32} {n : Nat} (hn : n < 100000) (h : nI (n + 1) ≤ c) : nI n < c := by
  rw [Int32.le_iff_toInt_le] at h
  rw [Int32.lt_iff_toInt_lt]
  rw [nI_toInt (by omega)] at h ⊢
  omega
theorem i32_out {c : Int32} {n : Nat} (hn : n < 100000) (h : c < 0 ∨ nI (n + 1) ≤ c) : c.toInt < 0 ∨ (n : Int) < c.toInt := by
  rcases h with h | h
  · exact Or.inl (by rw [Int32.lt_iff_toInt_lt] at h; exact h)
  · right
    rw [Int32.le_iff_toInt_le, nI_toInt (by omega)] at h
    omega
