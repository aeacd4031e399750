/-! ===== how many rows of codes come apart alike: from the left and from the right ===== -/
abbrev Tl : Type := Nat × (Nat → Bool)
def sm (f : Tl → Nat) : List Tl → Nat
  | [] => 0
  | t :: ts => f t + sm f ts
theorem sm_cong {f g : Tl → Nat} : ∀ {cs : List Tl}, (∀ t ∈ cs, f t = g t) → sm f cs = sm g cs
  | [], _ => rfl
  | t :: ts, h => by rw [sm, sm, h t (by simp), sm_cong (fun x hx => h x (by simp [hx]))]
theorem sm_add (f g : Tl → Nat) : ∀ cs, sm (fun t => f t + g t) cs = sm f cs + sm g cs
  | [] => rfl
  | t :: ts => by rw [sm, sm, sm, sm_add f g ts]; omega
theorem sm_zero : ∀ (cs : List Tl), sm (fun _ => 0) cs = 0
  | [] => rfl
  | t :: ts => by rw [sm, sm_zero ts]
theorem sm_swap (f : Tl → Tl → Nat) (ds : List Tl) : ∀ cs, sm (fun c => sm (fun d => f c d) ds) cs = sm (fun d => sm (fun c => f c d) cs) ds
  | [] => by rw [sm]; exact (sm_zero ds).symm
  | c :: cs => by
    rw [sm, sm_swap f ds cs, ← sm_add]
    exact sm_cong (fun d _ => by rw [sm])
theorem sm_app (f : Tl → Nat) : ∀ (xs ys : List Tl), sm f (xs ++ ys) = sm f xs + sm f ys
  | [], ys => by rw [List.nil_append, sm, Nat.zero_add]
  | x :: xs, ys => by rw [List.cons_append, sm, sm, sm_app f xs ys]; omega
theorem sm_if (p : Prop) [Decidable p] (f : Tl → Nat) (cs : List Tl) : (if p then sm f cs else 0) = sm (fun t => if p then f t else 0) cs := by
  split
  · rfl
  · exact (sm_zero cs).symm
def tR (cs : List Tl) : Nat → Nat → Nat → Nat
  | 0, i, j => if i = j then 1 else 0
  | n + 1, i, j => if i = j then 1 else sm (fun t => if t.1 ≤ j - i ∧ t.2 (j - t.1) = true then tR cs n i (j - t.1) else 0) cs
def tL (cs : List Tl) : Nat → Nat → Nat → Nat
  | 0, i, j => if i = j then 1 else 0
  | n + 1, i, j => if i = j then 1 else sm (fun t => if t.1 ≤ j - i ∧ t.2 i = true then tL cs n (i + t.1) j else 0) cs
theorem tR_fuel {cs : List Tl} (h1 : ∀ t ∈ cs, 1 ≤ t.1) : ∀ (n m i j : Nat), i ≤ j → j - i ≤ n → j - i ≤ m → tR cs n i j = tR cs m i j
  | 0, m, i, j, h, hn, hm => by
    have e : i = j := by omega
    cases m <;> simp [tR, e]
  | n + 1, 0, i, j, h, hn, hm => by
    have e : i = j := by omega
    simp [tR, e]
  | n + 1, m + 1, i, j, h, hn, hm => by
    unfold tR
    by_cases e : i = j
    · simp [e]
    · rw [if_neg e, if_neg e]
      refine sm_cong (fun t ht => ?_)
      have := h1 t ht
      by_cases z : t.1 ≤ j - i ∧ t.2 (j - t.1) = true
      · rw [if_pos z, if_pos z]
        exact tR_fuel h1 n m i (j - t.1) (by omega) (by omega) (by omega)
      · rw [if_neg z, if_neg z]
theorem tL_fuel {cs : List Tl} (h1 : ∀ t ∈ cs, 1 ≤ t.1) : ∀ (n m i j : Nat), i ≤ j → j - i ≤ n → j - i ≤ m → tL cs n i j = tL cs m i j
  | 0, m, i, j, h, hn, hm => by
    have e : i = j := by omega
    cases m <;> simp [tL, e]
  | n + 1, 0, i, j, h, hn, hm => by
    have e : i = j := by omega
    simp [tL, e]
  | n + 1, m + 1, i, j, h, hn, hm => by
    unfold tL
    by_cases e : i = j
    · simp [e]
    · rw [if_neg e, if_neg e]
      refine sm_cong (fun t ht => ?_)
      have := h1 t ht
      by_cases z : t.1 ≤ j - i ∧ t.2 i = true
      · rw [if_pos z, if_pos z]
        exact tL_fuel h1 n m (i + t.1) j (by omega) (by omega) (by omega)
      · rw [if_neg z, if_neg z]
/-- one step, at any fuel that is enough -/
theorem tR_step {cs : List Tl} (h1 : ∀ t ∈ cs, 1 ≤ t.1) {n i j : Nat} (h : i < j) (hn : j - i ≤ n) : tR cs n i j = sm (fun t => if t.1 ≤ j - i ∧ t.2 (j - t.1) = true then tR cs n i (j - t.1) else 0) cs := by
  rw [tR_fuel h1 n (n + 1) i j (by omega) hn (by omega), tR, if_neg (by omega)]
theorem tL_step {cs : List Tl} (h1 : ∀ t ∈ cs, 1 ≤ t.1) {n i j : Nat} (h : i < j) (hn : j - i ≤ n) : tL cs n i j = sm (fun t => if t.1 ≤ j - i ∧ t.2 i = true then tL cs n (i + t.1) j else 0) cs := by
  rw [tL_fuel h1 n (n + 1) i j (by omega) hn (by omega), tL, if_neg (by omega)]
theorem tR_eq {cs : List Tl} {n i : Nat} : tR cs n i i = 1 := by cases n <;> simp [tR]
theorem tL_eq {cs : List Tl} {n i : Nat} : tL cs n i i = 1 := by cases n <;> simp [tL]
theorem tRL {cs : List Tl} (h1 : ∀ t ∈ cs, 1 ≤ t.1) (n : Nat) : ∀ (d i j : Nat), j - i = d → i ≤ j → d ≤ n → tR cs n i j = tL cs n i j := by
  intro d
  induction d using Nat.strongRecOn with
  | ind d ih =>
    intro i j hd hij hn
    by_cases e : i = j
    · subst e; rw [tR_eq, tL_eq]
    · have hlt : i < j := by omega
      rw [tR_step h1 hlt (by omega), tL_step h1 hlt (by omega)]
      -- the two sides, each opened once more on its other end
      have eR : ∀ t ∈ cs, (if t.1 ≤ j - i ∧ t.2 (j - t.1) = true then tR cs n i (j - t.1) else 0) = (if t.1 = j - i ∧ t.2 i = true then 1 else 0) + sm (fun u => if (t.1 + u.1 ≤ j - i ∧ t.2 (j - t.1) = true) ∧ u.2 i = true then tR cs n (i + u.1) (j - t.1) else 0) cs := by
        intro t ht
        have ht1 := h1 t ht
        by_cases z : t.1 ≤ j - i ∧ t.2 (j - t.1) = true
        · rw [if_pos z]
          by_cases zz : t.1 = j - i
          · have : j - t.1 = i := by omega
            rw [this] at z ⊢
            rw [tR_eq, if_pos ⟨zz, z.2⟩, sm_cong (g := fun _ => 0) (fun u hu => by have := h1 u hu; rw [if_neg (by omega)]), sm_zero]
          · rw [if_neg (by omega), Nat.zero_add, ih (j - t.1 - i) (by omega) i (j - t.1) rfl (by omega) (by omega), tL_step h1 (by omega) (by omega)]
            refine sm_cong (fun u hu => ?_)
            have hu1 := h1 u hu
            by_cases y : t.1 + u.1 ≤ j - i ∧ u.2 i = true
            · rw [if_pos ⟨by omega, y.2⟩, if_pos ⟨⟨y.1, z.2⟩, y.2⟩]
              exact (ih (j - t.1 - (i + u.1)) (by omega) (i + u.1) (j - t.1) rfl (by omega) (by omega)).symm
            · rw [if_neg (fun w => y ⟨by omega, w.2⟩), if_neg (fun w => y ⟨w.1.1, w.2⟩)]
        · rw [if_neg z]
          have z1 : ¬ (t.1 = j - i ∧ t.2 i = true) := by
            rintro ⟨w1, w2⟩
            apply z
            refine ⟨by omega, ?_⟩
            rw [show j - t.1 = i by omega]
            exact w2
          rw [if_neg z1, sm_cong (g := fun _ => 0) (fun u hu => by rw [if_neg (fun w => z ⟨by omega, w.1.2⟩)]), sm_zero]
      have eL : ∀ u ∈ cs, (if u.1 ≤ j - i ∧ u.2 i = true then tL cs n (i + u.1) j else 0) = (if u.1 = j - i ∧ u.2 i = true then 1 else 0) + sm (fun t => if (t.1 + u.1 ≤ j - i ∧ t.2 (j - t.1) = true) ∧ u.2 i = true then tR cs n (i + u.1) (j - t.1) else 0) cs := by
        intro u hu
        have hu1 := h1 u hu
        by_cases z : u.1 ≤ j - i ∧ u.2 i = true
        · rw [if_pos z]
          by_cases zz : u.1 = j - i
          · have : i + u.1 = j := by omega
            rw [this, tL_eq, if_pos ⟨zz, z.2⟩, sm_cong (g := fun _ => 0) (fun t ht => by have := h1 t ht; rw [if_neg (by omega)]), sm_zero]
          · rw [if_neg (by omega), Nat.zero_add, ← ih (j - (i + u.1)) (by omega) (i + u.1) j rfl (by omega) (by omega), tR_step h1 (by omega) (by omega)]
            refine sm_cong (fun t ht => ?_)
            have ht1 := h1 t ht
            by_cases y : t.1 + u.1 ≤ j - i ∧ t.2 (j - t.1) = true
            · rw [if_pos ⟨by omega, y.2⟩, if_pos ⟨y, z.2⟩]
            · rw [if_neg (fun w => y ⟨by omega, w.2⟩), if_neg (fun w => y w.1)]
        · rw [if_neg z, if_neg (fun w => z ⟨by omega, w.2⟩), sm_cong (g := fun _ => 0) (fun t ht => by rw [if_neg (fun w => z ⟨by omega, w.2⟩)]), sm_zero]
      rw [sm_cong eR, sm_cong eL, sm_add, sm_add]
      congr 1
      exact sm_swap (fun t u => if (t.1 + u.1 ≤ j - i ∧ t.2 (j - t.1) = true) ∧ u.2 i = true then tR cs n (i + u.1) (j - t.1) else 0) cs cs
/-! the tiles of a table on a row -/
def stnB (ps xs : List Int32) (s : Nat) : Bool := (List.range ps.length).all (fun k => decide (s + k < xs.length) && decide (xs.getD (s + k) (-9) = ps.getD k (-9)))
theorem stnB_iff {ps xs : List Int32} {s : Nat} : stnB ps xs s = true ↔ stn ps xs s := by
  unfold stnB stn
  rw [List.all_eq_true]
  constructor
  · intro h k hk
    have := h k (List.mem_range.mpr hk)
    rw [Bool.and_eq_true, decide_eq_true_eq, decide_eq_true_eq] at this
    exact this
  · intro h k hk
    rw [Bool.and_eq_true, decide_eq_true_eq, decide_eq_true_eq]
    exact h k (List.mem_range.mp hk)
def tile (T : List CR) (xs : List Int32) (j : Nat) : Tl := ((tP T (nI j)).length, stnB (tP T (nI j)) xs)
def tiles (T : List CR) (xs : List Int32) : List Tl := (List.range T.length).map (tile T xs)
theorem tiles_1 {T : List CR} (hT : TOk T) (xs : List Int32) : ∀ t ∈ tiles T xs, 1 ≤ t.1 := by
  intro t ht
  obtain ⟨j, hj, rfl⟩ := List.mem_map.mp ht
  exact (hT.all (nI j) ⟨j, List.mem_range.mp hj, rfl⟩).2.2.1
theorem tiles_take {T : List CR} {xs : List Int32} {j : Nat} (h : j < T.length) : (tiles T xs).take (j + 1) = (tiles T xs).take j ++ [tile T xs j] := by
  rw [List.take_succ]
  unfold tiles
  rw [List.getElem?_map, List.getElem?_range h]
  rfl
abbrev MO : Nat := 1000000000000000000
def sat (n : Nat) : Nat := min n MO
theorem sat_add (a b : Nat) : sat (sat a + sat b) = sat (a + b) := by unfold sat; omega
theorem sat_le (a : Nat) : sat a ≤ MO := by unfold sat; omega
/-- how many rows of codes have pieces that are xs -/
def spell (T : List CR) (xs : List Int32) : Nat := tR (tiles T xs) xs.length 0 xs.length
