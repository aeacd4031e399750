/-! ===== Reader: bytes and tokens ===== -/
def lead (f : Nat → Bool) : List Nat → Nat
  | [] => 0
  | x :: xs => if f x = true then lead f xs + 1 else 0
def isL (k : Nat) : Bool := decide (97 ≤ k) && decide (k ≤ 122)
def isD (k : Nat) : Bool := decide (48 ≤ k) && decide (k ≤ 57)
theorem isL_iff {k : Nat} : isL k = true ↔ 97 ≤ k ∧ k ≤ 122 := by simp [isL]
theorem isD_iff {k : Nat} : isD k = true ↔ 48 ≤ k ∧ k ≤ 57 := by simp [isD]
def isB (k : Nat) : Bool := decide (k = 32)
theorem lead_le (f : Nat → Bool) : ∀ xs, lead f xs ≤ xs.length
  | [] => Nat.le_refl _
  | x :: xs => by
    have := lead_le f xs
    unfold lead
    split <;> simp <;> omega
theorem lead_drop {f : Nat → Bool} {bs : List Nat} {k : Nat} (h : k < bs.length) : lead f (bs.drop k) = if f (bs.getD k 0) = true then lead f (bs.drop (k + 1)) + 1 else 0 := by
  rw [drop_n h, lead]
theorem lead_end {f : Nat → Bool} {bs : List Nat} {k : Nat} (h : bs.length ≤ k) : lead f (bs.drop k) = 0 := by
  rw [List.drop_of_length_le h, lead]
theorem lead_dle {f : Nat → Bool} {bs : List Nat} {k : Nat} (h : k ≤ bs.length) : k + lead f (bs.drop k) ≤ bs.length := by
  have := lead_le f (bs.drop k)
  simp at this
  omega
def skp (bs : List Nat) (p : Nat) : Nat := p + lead isB (bs.drop p)
theorem skp_le {bs : List Nat} {p : Nat} (h : p ≤ bs.length) : skp bs p ≤ bs.length := lead_dle h
theorem skp_ge (bs : List Nat) (p : Nat) : p ≤ skp bs p := Nat.le_add_right _ _
def runL (bs : List Nat) (p : Nat) : Nat := lead isL (bs.drop p)
def runD (bs : List Nat) (p : Nat) : Nat := lead isD (bs.drop p)
def nv : Nat → List Nat → Nat
  | v, [] => v
  | v, x :: xs => nv (min (v * 10 + x - 48) 100) xs
def numV (bs : List Nat) (p : Nat) : Nat := nv 0 ((bs.drop p).take (runD bs p))
theorem nv_le : ∀ (xs : List Nat) (v : Nat), v ≤ 100 → nv v xs ≤ 100
  | [], v, h => h
  | x :: xs, v, _ => nv_le xs _ (by omega)
def tkK (bs : List Nat) (p : Nat) : Nat := if bs.length ≤ p then 0 else if isL (bs.getD p 0) = true then 1 else if isD (bs.getD p 0) = true then (if (1 < runD bs p ∧ bs.getD p 0 = 48) ∨ 99 < numV bs p then 4 else 2) else if bs.getD p 0 = 59 then 3 else 4
def tkE (bs : List Nat) (p : Nat) : Nat := if bs.length ≤ p then p else if isL (bs.getD p 0) = true then p + runL bs p else if isD (bs.getD p 0) = true then p + runD bs p else p + 1
def tkV (bs : List Nat) (p : Nat) : Nat := if isL (bs.getD p 0) = true then (if 1 < runL bs p then 0 else bs.getD p 0) else numV bs p
theorem tkE_le {bs : List Nat} {p : Nat} (h : p ≤ bs.length) : tkE bs p ≤ bs.length := by
  unfold tkE
  split
  · exact h
  · split
    · exact lead_dle h
    · split
      · exact lead_dle h
      · omega

/-- the reader's numbers -/
def Fl (I : Nat → Nat → Int32) (pl sx tk va kd cl fi se : Int32) : Prop := I 1 1 = pl ∧ I 1 2 = sx ∧ I 1 3 = tk ∧ I 1 4 = va ∧ I 1 5 = kd ∧ I 1 6 = cl ∧ I 1 7 = fi ∧ I 1 8 = se
theorem Fl.w_pl {I : Nat → Nat → Int32} {pl sx tk va kd cl fi se x : Int32} (h : Fl I pl sx tk va kd cl fi se) : Fl (wI I 1 1 x) x sx tk va kd cl fi se := ⟨wI_s _ _ _ _, (wI_j (by decide)).trans h.2.1, (wI_j (by decide)).trans h.2.2.1, (wI_j (by decide)).trans h.2.2.2.1, (wI_j (by decide)).trans h.2.2.2.2.1, (wI_j (by decide)).trans h.2.2.2.2.2.1, (wI_j (by decide)).trans h.2.2.2.2.2.2.1, (wI_j (by decide)).trans h.2.2.2.2.2.2.2⟩
theorem Fl.pl {I : Nat → Nat → Int32} {pl sx tk va kd cl fi se : Int32} (h : Fl I pl sx tk va kd cl fi se) : I 1 1 = pl := h.1
theorem Fl.w_sx {I : Nat → Nat → Int32} {pl sx tk va kd cl fi se x : Int32} (h : Fl I pl sx tk va kd cl fi se) : Fl (wI I 1 2 x) pl x tk va kd cl fi se := ⟨(wI_j (by decide)).trans h.1, wI_s _ _ _ _, (wI_j (by decide)).trans h.2.2.1, (wI_j (by decide)).trans h.2.2.2.1, (wI_j (by decide)).trans h.2.2.2.2.1, (wI_j (by decide)).trans h.2.2.2.2.2.1, (wI_j (by decide)).trans h.2.2.2.2.2.2.1, (wI_j (by decide)).trans h.2.2.2.2.2.2.2⟩
theorem Fl.sx {I : Nat → Nat → Int32} {pl sx tk va kd cl fi se : Int32} (h : Fl I pl sx tk va kd cl fi se) : I 1 2 = sx := h.2.1
theorem Fl.w_tk {I : Nat → Nat → Int32} {pl sx tk va kd cl fi se x : Int32} (h : Fl I pl sx tk va kd cl fi se) : Fl (wI I 1 3 x) pl sx x va kd cl fi se := ⟨(wI_j (by decide)).trans h.1, (wI_j (by decide)).trans h.2.1, wI_s _ _ _ _, (wI_j (by decide)).trans h.2.2.2.1, (wI_j (by decide)).trans h.2.2.2.2.1, (wI_j (by decide)).trans h.2.2.2.2.2.1, (wI_j (by decide)).trans h.2.2.2.2.2.2.1, (wI_j (by decide)).trans h.2.2.2.2.2.2.2⟩
theorem Fl.tk {I : Nat → Nat → Int32} {pl sx tk va kd cl fi se : Int32} (h : Fl I pl sx tk va kd cl fi se) : I 1 3 = tk := h.2.2.1
theorem Fl.w_va {I : Nat → Nat → Int32} {pl sx tk va kd cl fi se x : Int32} (h : Fl I pl sx tk va kd cl fi se) : Fl (wI I 1 4 x) pl sx tk x kd cl fi se := ⟨(wI_j (by decide)).trans h.1, (wI_j (by decide)).trans h.2.1, (wI_j (by decide)).trans h.2.2.1, wI_s _ _ _ _, (wI_j (by decide)).trans h.2.2.2.2.1, (wI_j (by decide)).trans h.2.2.2.2.2.1, (wI_j (by decide)).trans h.2.2.2.2.2.2.1, (wI_j (by decide)).trans h.2.2.2.2.2.2.2⟩
theorem Fl.va {I : Nat → Nat → Int32} {pl sx tk va kd cl fi se : Int32} (h : Fl I pl sx tk va kd cl fi se) : I 1 4 = va := h.2.2.2.1
theorem Fl.w_kd {I : Nat → Nat → Int32} {pl sx tk va kd cl fi se x : Int32} (h : Fl I pl sx tk va kd cl fi se) : Fl (wI I 1 5 x) pl sx tk va x cl fi se := ⟨(wI_j (by decide)).trans h.1, (wI_j (by decide)).trans h.2.1, (wI_j (by decide)).trans h.2.2.1, (wI_j (by decide)).trans h.2.2.2.1, wI_s _ _ _ _, (wI_j (by decide)).trans h.2.2.2.2.2.1, (wI_j (by decide)).trans h.2.2.2.2.2.2.1, (wI_j (by decide)).trans h.2.2.2.2.2.2.2⟩
theorem Fl.kd {I : Nat → Nat → Int32} {pl sx tk va kd cl fi se : Int32} (h : Fl I pl sx tk va kd cl fi se) : I 1 5 = kd := h.2.2.2.2.1
theorem Fl.w_cl {I : Nat → Nat → Int32} {pl sx tk va kd cl fi se x : Int32} (h : Fl I pl sx tk va kd cl fi se) : Fl (wI I 1 6 x) pl sx tk va kd x fi se := ⟨(wI_j (by decide)).trans h.1, (wI_j (by decide)).trans h.2.1, (wI_j (by decide)).trans h.2.2.1, (wI_j (by decide)).trans h.2.2.2.1, (wI_j (by decide)).trans h.2.2.2.2.1, wI_s _ _ _ _, (wI_j (by decide)).trans h.2.2.2.2.2.2.1, (wI_j (by decide)).trans h.2.2.2.2.2.2.2⟩
theorem Fl.cl {I : Nat → Nat → Int32} {pl sx tk va kd cl fi se : Int32} (h : Fl I pl sx tk va kd cl fi se) : I 1 6 = cl := h.2.2.2.2.2.1
theorem Fl.w_fi {I : Nat → Nat → Int32} {pl sx tk va kd cl fi se x : Int32} (h : Fl I pl sx tk va kd cl fi se) : Fl (wI I 1 7 x) pl sx tk va kd cl x se := ⟨(wI_j (by decide)).trans h.1, (wI_j (by decide)).trans h.2.1, (wI_j (by decide)).trans h.2.2.1, (wI_j (by decide)).trans h.2.2.2.1, (wI_j (by decide)).trans h.2.2.2.2.1, (wI_j (by decide)).trans h.2.2.2.2.2.1, wI_s _ _ _ _, (wI_j (by decide)).trans h.2.2.2.2.2.2.2⟩
theorem Fl.fi {I : Nat → Nat → Int32} {pl sx tk va kd cl fi se : Int32} (h : Fl I pl sx tk va kd cl fi se) : I 1 7 = fi := h.2.2.2.2.2.2.1
theorem Fl.w_se {I : Nat → Nat → Int32} {pl sx tk va kd cl fi se x : Int32} (h : Fl I pl sx tk va kd cl fi se) : Fl (wI I 1 8 x) pl sx tk va kd cl fi x := ⟨(wI_j (by decide)).trans h.1, (wI_j (by decide)).trans h.2.1, (wI_j (by decide)).trans h.2.2.1, (wI_j (by decide)).trans h.2.2.2.1, (wI_j (by decide)).trans h.2.2.2.2.1, (wI_j (by decide)).trans h.2.2.2.2.2.1, (wI_j (by decide)).trans h.2.2.2.2.2.2.1, wI_s _ _ _ _⟩
theorem Fl.se {I : Nat → Nat → Int32} {pl sx tk va kd cl fi se : Int32} (h : Fl I pl sx tk va kd cl fi se) : I 1 8 = se := h.2.2.2.2.2.2.2
theorem Fl.off {S : List Nat} {I I' : Nat → Nat → Int32} {pl sx tk va kd cl fi se : Int32} (h : Fl I pl sx tk va kd cl fi se) (ho : Off S I I') (hs : 1 ∉ S) : Fl I' pl sx tk va kd cl fi se := by
  unfold Fl
  rw [ho 1 hs]
  exact h
/-- the bytes that are typed -/
def Ty (I : Nat → Nat → Int32) (bs : List Nat) : Prop := Rw I 2 3 150 (bs.map nI) ∧ ∀ b ∈ bs, b < 256
theorem Ty.off {S : List Nat} {I I' : Nat → Nat → Int32} {bs : List Nat} (h : Ty I bs) (ho : Off S I I') (h1 : 2 ∉ S) (h2 : 3 ∉ S) : Ty I' bs := ⟨h.1.off ho h1 h2, h.2⟩
theorem Ty.len {I : Nat → Nat → Int32} {bs : List Nat} (h : Ty I bs) : bs.length ≤ 150 := by have := h.1.2.1; simpa using this
theorem Ty.lt {I : Nat → Nat → Int32} {bs : List Nat} (h : Ty I bs) {k : Nat} (hk : k < bs.length) : bs.getD k 0 < 256 := h.2 _ (by rw [List.getD_eq_getElem?_getD, List.getElem?_eq_getElem hk]; exact List.getElem_mem _)
section READER
variable {sw : Bool} {I : Nat → Nat → Int32} {J : Nat → Nat → Int64} {Q : Option Value → mi_H → Prop} {bs : List Nat} {pl sx tk va kd cl fi se : Int32}
theorem c_typed (hQ : Q (some (.ref 2)) (hS sw I J)) : mCl mX4_typed 0 0 0 [.ref 1] (hS sw I J) Q := by
  refine mCl.of (by decide) rfl (Nat.le_of_ble_eq_true rfl) ?_
  show mOk _ _ _ _ _ [some (.ref 1)] _ _ _ _ _
  refine mOk.aload0n dX4_typed_0 rfl ?_
  refine mOk.getR dX4_typed_1 fl_X4_14 (by first | assumption | rfl) (by first | assumption | rfl) ?_
  refine mOk.aret dX4_typed_4 rfl hQ
theorem c_blen (h : Ty I bs) (hQ : Q (some (.int (nI bs.length))) (hS sw I J)) : mCl mX5_length 0 0 0 [.ref 2] (hS sw I J) Q := c_length h.1 (by rw [List.length_map]; exact hQ)
theorem c_byte (h : Ty I bs) {k : Nat} (hk : k < bs.length) (hQ : Q (some (.int (nI (bs.getD k 0)))) (hS sw I J)) : mCl mX5_cell 1 0 0 [.ref 2, .int (nI k)] (hS sw I J) Q := c_cell_in h.1 (by rw [List.length_map]; exact hk) (by rw [map_n hk]; exact hQ)
theorem c_isLetter {k : Nat} (hk : k < 256) (hQ : Q (some (.int (if isL k = true then 1 else 0))) (hS sw I J)) : mCl mX4_isLetter 0 0 0 [.int (nI k)] (hS sw I J) Q := by
  refine mCl.of (by decide) rfl (Nat.le_of_ble_eq_true rfl) ?_
  show mOk _ _ _ _ _ [some (.int (nI k))] _ _ _ _ _
  refine mOk.iload0n dX4_isLetter_0 rfl ?_
  refine mOk.bipush (x := nI 97) dX4_isLetter_1 (by decide) ?_
  refine mOk.iclt (tgt := 16) dX4_isLetter_3 (by decide) (fun c3 => ?_) (fun c3 => ?_)
  · have := (nI_lt' (by omega) (by omega)).mp c3
    refine mOk.iconst (x := 0) dX4_isLetter_16 (by decide) ?_
    refine mOk.zret dX4_isLetter_17 rfl (by decide) ?_
    rw [if_neg (by rw [isL_iff]; omega)] at hQ
    exact hQ
  · have h3 := mt (nI_lt' (by omega) (by omega)).mpr c3
    refine mOk.iload0n dX4_isLetter_6 rfl ?_
    refine mOk.bipush (x := nI 122) dX4_isLetter_7 (by decide) ?_
    refine mOk.icgt (tgt := 16) dX4_isLetter_9 (by decide) (fun c9 => ?_) (fun c9 => ?_)
    · have := (nI_lt' (by omega) (by omega)).mp c9
      refine mOk.iconst (x := 0) dX4_isLetter_16 (by decide) ?_
      refine mOk.zret dX4_isLetter_17 rfl (by decide) ?_
      rw [if_neg (by rw [isL_iff]; omega)] at hQ
      exact hQ
    · have := mt (nI_lt' (by omega) (by omega)).mpr c9
      refine mOk.iconst (x := 1) dX4_isLetter_12 (by decide) ?_
      refine mOk.goto (tgt := 17) dX4_isLetter_13 (by decide) ?_
      refine mOk.zret dX4_isLetter_17 rfl (by decide) ?_
      rw [if_pos (by rw [isL_iff]; omega)] at hQ
      exact hQ
theorem c_isDigit {k : Nat} (hk : k < 256) (hQ : Q (some (.int (if isD k = true then 1 else 0))) (hS sw I J)) : mCl mX4_isDigit 0 0 0 [.int (nI k)] (hS sw I J) Q := by
  refine mCl.of (by decide) rfl (Nat.le_of_ble_eq_true rfl) ?_
  show mOk _ _ _ _ _ [some (.int (nI k))] _ _ _ _ _
  refine mOk.iload0n dX4_isDigit_0 rfl ?_
  refine mOk.bipush (x := nI 48) dX4_isDigit_1 (by decide) ?_
  refine mOk.iclt (tgt := 16) dX4_isDigit_3 (by decide) (fun c3 => ?_) (fun c3 => ?_)
  · have := (nI_lt' (by omega) (by omega)).mp c3
    refine mOk.iconst (x := 0) dX4_isDigit_16 (by decide) ?_
    refine mOk.zret dX4_isDigit_17 rfl (by decide) ?_
    rw [if_neg (by rw [isD_iff]; omega)] at hQ
    exact hQ
  · have h3 := mt (nI_lt' (by omega) (by omega)).mpr c3
    refine mOk.iload0n dX4_isDigit_6 rfl ?_
    refine mOk.bipush (x := nI 57) dX4_isDigit_7 (by decide) ?_
    refine mOk.icgt (tgt := 16) dX4_isDigit_9 (by decide) (fun c9 => ?_) (fun c9 => ?_)
    · have := (nI_lt' (by omega) (by omega)).mp c9
      refine mOk.iconst (x := 0) dX4_isDigit_16 (by decide) ?_
      refine mOk.zret dX4_isDigit_17 rfl (by decide) ?_
      rw [if_neg (by rw [isD_iff]; omega)] at hQ
      exact hQ
    · have := mt (nI_lt' (by omega) (by omega)).mpr c9
      refine mOk.iconst (x := 1) dX4_isDigit_12 (by decide) ?_
      refine mOk.goto (tgt := 17) dX4_isDigit_13 (by decide) ?_
      refine mOk.zret dX4_isDigit_17 rfl (by decide) ?_
      rw [if_pos (by rw [isD_iff]; omega)] at hQ
      exact hQ
/-- letters: to the end of the run -/
theorem l_letters {I0 : Nat → Nat → Int32} {p k0 : Nat} (hQ : ∀ I', Fl I' (nI (k0 + runL bs k0)) (nI p) (nI 1) (nI (if 1 < k0 + runL bs k0 - p then 0 else bs.getD p 0)) kd cl fi se → Ty I' bs → Off [1] I0 I' → Q none (hS sw I' J)) (hp : p ≤ k0) :
    ∀ (m k : Nat) (I : Nat → Nat → Int32), k + m = bs.length → p ≤ k → k + runL bs k = k0 + runL bs k0 → Fl I (nI k) (nI p) (nI 1) (nI (bs.getD p 0)) kd cl fi se → Ty I bs → Off [1] I0 I → mOk mX4_takeLetters 2 0 0 20 [some (.ref 1)] [] (hS sw I J) 0 0 Q := by
  have fin : ∀ (k : Nat) (I : Nat → Nat → Int32), k ≤ bs.length → p ≤ k → k = k0 + runL bs k0 → Fl I (nI k) (nI p) (nI 1) (nI (bs.getD p 0)) kd cl fi se → Ty I bs → Off [1] I0 I → mOk mX4_takeLetters 2 0 0 64 [some (.ref 1)] [] (hS sw I J) 0 0 Q := by
    intro k I hk hpk he h hT ho
    have hl := hT.len
    refine mOk.aload0n dX4_takeLetters_64 rfl ?_
    refine mOk.getIv dX4_takeLetters_65 fl_X4_25 (by first | assumption | rfl) h.pl ?_
    refine mOk.aload0n dX4_takeLetters_68 rfl ?_
    refine mOk.getIv dX4_takeLetters_69 fl_X4_39 (by first | assumption | rfl) h.sx ?_
    refine mOk.isub dX4_takeLetters_72 ?_
    refine mOk.top (pk_sub hpk) ?_
    refine mOk.iconst (x := nI 1) dX4_takeLetters_73 (by decide) ?_
    refine mOk.icle (tgt := 82) dX4_takeLetters_74 (by decide) (fun c74 => ?_) (fun c74 => ?_)
    · have := (nI_le' (by omega) (by omega)).mp c74
      refine mOk.vret dX4_takeLetters_82 rfl (by decide) ?_
      refine hQ I ?_ hT ho
      rw [← he, if_neg (by omega)]
      exact h
    · have := mt (nI_le' (by omega) (by omega)).mpr c74
      refine mOk.aload0n dX4_takeLetters_77 rfl ?_
      refine mOk.iconst (x := nI 0) dX4_takeLetters_78 (by decide) ?_
      refine mOk.putIt dX4_takeLetters_79 fl_X4_62 (by first | assumption | rfl) ?_
      refine mOk.vret dX4_takeLetters_82 rfl (by decide) ?_
      refine hQ _ ?_ (hT.off (S := [1]) (Off.w (by simp)) (by decide) (by decide)) (ho.tr (Off.w (by simp)))
      rw [← he, if_pos (by omega)]
      exact h.w_va
  intro m
  induction m with
  | zero =>
    intro k I hk hpk hr h hT ho
    have hl := hT.len
    refine mOk.aload0n dX4_takeLetters_20 rfl ?_
    refine mOk.getIv dX4_takeLetters_21 fl_X4_25 (by first | assumption | rfl) h.pl ?_
    refine mOk.aload0n dX4_takeLetters_24 rfl ?_
    refine mOk.getR dX4_takeLetters_25 fl_X4_14 (by first | assumption | rfl) (by first | assumption | rfl) ?_
    refine mOk.callV0 (M' := mX5_length) dX4_takeLetters_28 ml_X4_97 ke_X5_length (by first | assumption | rfl) (by decide) (by decide) (by simp [Value.category]) (c_blen hT ?_)
    refine mOk.icge (tgt := 64) dX4_takeLetters_31 (by decide) (fun c31 => ?_) (fun c31 => absurd ((nI_le' (by omega) (by omega)).mpr (by omega)) c31)
    exact fin k I (by omega) hpk (by rw [← hr, runL, lead_end (by omega)]; omega) h hT ho
  | succ m ih =>
    intro k I hk hpk hr h hT ho
    have hl := hT.len
    refine mOk.aload0n dX4_takeLetters_20 rfl ?_
    refine mOk.getIv dX4_takeLetters_21 fl_X4_25 (by first | assumption | rfl) h.pl ?_
    refine mOk.aload0n dX4_takeLetters_24 rfl ?_
    refine mOk.getR dX4_takeLetters_25 fl_X4_14 (by first | assumption | rfl) (by first | assumption | rfl) ?_
    refine mOk.callV0 (M' := mX5_length) dX4_takeLetters_28 ml_X4_97 ke_X5_length (by first | assumption | rfl) (by decide) (by decide) (by simp [Value.category]) (c_blen hT ?_)
    refine mOk.icge (tgt := 64) dX4_takeLetters_31 (by decide) (fun c31 => absurd c31 (mt (nI_le' (by omega) (by omega)).mp (by omega))) (fun c31 => ?_)
    refine mOk.aload0n dX4_takeLetters_34 rfl ?_
    refine mOk.getR dX4_takeLetters_35 fl_X4_14 (by first | assumption | rfl) (by first | assumption | rfl) ?_
    refine mOk.aload0n dX4_takeLetters_38 rfl ?_
    refine mOk.getIv dX4_takeLetters_39 fl_X4_25 (by first | assumption | rfl) h.pl ?_
    refine mOk.callV1 (M' := mX5_cell) dX4_takeLetters_42 ml_X4_101 ke_X5_cell (by first | assumption | rfl) (by decide) (by decide) (by simp [Value.category]) (c_byte hT (by omega) ?_)
    refine mOk.callS1 (M' := mX4_isLetter) dX4_takeLetters_45 ml_X4_104 ke_X4_isLetter rfl (by decide) (by decide) (by simp [Value.category]) (c_isLetter (hT.lt (by omega)) ?_)
    have hd := lead_drop (f := isL) (bs := bs) (k := k) (by omega)
    by_cases z : isL (bs.getD k 0) = true
    · rw [if_pos z] at hd ⊢
      refine mOk.ifeq (tgt := 64) dX4_takeLetters_48 (by decide) (fun c48 => absurd c48 ((by decide))) (fun c48 => ?_)
      refine mOk.aload0n dX4_takeLetters_51 rfl ?_
      refine mOk.dup dX4_takeLetters_52 rfl ?_
      refine mOk.getIv dX4_takeLetters_53 fl_X4_25 (by first | assumption | rfl) h.pl ?_
      refine mOk.iconst (x := nI 1) dX4_takeLetters_56 (by decide) ?_
      refine mOk.iadd dX4_takeLetters_57 ?_
      refine mOk.top (nI_1 k) ?_
      refine mOk.putIt dX4_takeLetters_58 fl_X4_25 (by first | assumption | rfl) ?_
      refine mOk.goto (tgt := 20) dX4_takeLetters_61 (by decide) ?_
      exact ih (k + 1) _ (by omega) (by omega) (by unfold runL at hr ⊢; omega) h.w_pl (hT.off (S := [1]) (Off.w (by simp)) (by decide) (by decide)) (ho.tr (Off.w (by simp)))
    · rw [if_neg z] at hd ⊢
      refine mOk.ifeq (tgt := 64) dX4_takeLetters_48 (by decide) (fun c48 => ?_) (fun c48 => absurd (rfl) c48)
      exact fin k I (by omega) hpk (by unfold runL at hr ⊢; omega) h hT ho
theorem c_letters {p : Nat} (hp : p < bs.length) (h : Fl I (nI p) (nI p) tk va kd cl fi se) (hT : Ty I bs) (hQ : ∀ I', Fl I' (nI (p + runL bs p)) (nI p) (nI 1) (nI (if 1 < runL bs p then 0 else bs.getD p 0)) kd cl fi se → Ty I' bs → Off [1] I I' → Q none (hS sw I' J)) : mCl mX4_takeLetters 2 0 0 [.ref 1] (hS sw I J) Q := by
  refine mCl.of (by decide) rfl (Nat.le_of_ble_eq_true rfl) ?_
  show mOk _ _ _ _ _ [some (.ref 1)] _ _ _ _ _
  refine mOk.aload0n dX4_takeLetters_0 rfl ?_
  refine mOk.iconst (x := nI 1) dX4_takeLetters_1 (by decide) ?_
  refine mOk.putIt dX4_takeLetters_2 fl_X4_32 (by first | assumption | rfl) ?_
  have h1 := h.w_tk (x := nI 1)
  have hT1 := hT.off (S := [1]) (I' := wI I 1 3 (nI 1)) (Off.w (by simp)) (by decide) (by decide)
  refine mOk.aload0n dX4_takeLetters_5 rfl ?_
  refine mOk.aload0n dX4_takeLetters_6 rfl ?_
  refine mOk.getR dX4_takeLetters_7 fl_X4_14 (by first | assumption | rfl) (by first | assumption | rfl) ?_
  refine mOk.aload0n dX4_takeLetters_10 rfl ?_
  refine mOk.getIv dX4_takeLetters_11 fl_X4_25 (by first | assumption | rfl) h1.pl ?_
  refine mOk.callV1 (M' := mX5_cell) dX4_takeLetters_14 ml_X4_101 ke_X5_cell (by first | assumption | rfl) (by decide) (by decide) (by simp [Value.category]) (c_byte hT1 hp ?_)
  refine mOk.putIt dX4_takeLetters_17 fl_X4_62 (by first | assumption | rfl) ?_
  refine l_letters (I0 := I) (p := p) (k0 := p) (kd := kd) (cl := cl) (fi := fi) (se := se) (bs := bs) ?_ (Nat.le_refl _) (bs.length - p) p _ (by omega) (Nat.le_refl _) rfl h1.w_va (hT1.off (S := [1]) (Off.w (by simp)) (by decide) (by decide)) ((Off.w (a := 1) (by simp)).tr (Off.w (by simp)))
  intro I' hf
  rw [show p + runL bs p - p = runL bs p by omega] at hf
  exact hQ I' hf
/-- digits: to the end of the run -/
theorem l_digits {I0 : Nat → Nat → Int32} {p k0 : Nat} {tk0 : Int32} (hk0 : p = k0) (hpb : p < bs.length) (hQ : ∀ I', Fl I' (nI (p + runD bs p)) (nI p) (nI (if (1 < runD bs p ∧ bs.getD p 0 = 48) ∨ 99 < numV bs p then 4 else 2)) (nI (numV bs p)) kd cl fi se → Ty I' bs → Off [1] I0 I' → Q none (hS sw I' J)) :
    ∀ (m k v : Nat) (I : Nat → Nat → Int32), k + m = bs.length → p ≤ k → v ≤ 100 → k + runD bs k = p + runD bs p → nv v ((bs.drop k).take (runD bs k)) = numV bs p → Fl I (nI k) (nI p) tk0 (nI v) kd cl fi se → Ty I bs → Off [1] I0 I → mOk mX4_takeNumber 2 0 0 5 [some (.ref 1), none] [] (hS sw I J) 0 0 Q := by
  have fin : ∀ (k v : Nat) (I : Nat → Nat → Int32), k ≤ bs.length → p ≤ k → v ≤ 100 → k = p + runD bs p → v = numV bs p → Fl I (nI k) (nI p) tk0 (nI v) kd cl fi se → Ty I bs → Off [1] I0 I → mOk mX4_takeNumber 2 0 0 80 [some (.ref 1), none] [] (hS sw I J) 0 0 Q := by
    intro k v I hk hpk hv he hve h hT ho
    have hl := hT.len
    have hb := hT.lt hpb
    have last : ∀ (za : Nat), (za = 0 ∨ za = 1) → (za = 1 ↔ (1 < runD bs p ∧ bs.getD p 0 = 48)) → mOk mX4_takeNumber 2 0 0 114 [some (.ref 1), none] [.int (nI za)] (hS sw I J) 0 0 Q := by
      intro za hza hzi
      have finT : ∀ (x : Nat), x = (if (1 < runD bs p ∧ bs.getD p 0 = 48) ∨ 99 < numV bs p then 4 else 2) → mOk mX4_takeNumber 2 0 0 134 [some (.ref 1), some (.int (nI za))] [.int (nI x), .ref 1] (hS sw I J) 0 0 Q := by
        intro x hxx
        refine mOk.putIt dX4_takeNumber_134 fl_X4_32 (by first | assumption | rfl) ?_
        refine mOk.vret dX4_takeNumber_137 rfl (by decide) ?_
        refine hQ _ ?_ (hT.off (S := [1]) (Off.w (by simp)) (by decide) (by decide)) (ho.tr (Off.w (by simp)))
        rw [← he, ← hve, hve, ← hxx]
        rw [← hve]
        exact h.w_tk
      rcases hza with rfl | rfl
      · have hn : ¬ (1 < runD bs p ∧ bs.getD p 0 = 48) := fun z => absurd (hzi.mpr z) (by decide)
        refine mOk.istore1n dX4_takeNumber_114 rfl (by decide) rfl ?_
        refine mOk.aload0n dX4_takeNumber_115 rfl ?_
        refine mOk.iload1n dX4_takeNumber_116 rfl ?_
        refine mOk.ifne (tgt := 129) dX4_takeNumber_117 (by decide) (fun c117 => absurd (rfl) c117) (fun c117 => ?_)
        refine mOk.aload0n dX4_takeNumber_120 rfl ?_
        refine mOk.getIv dX4_takeNumber_121 fl_X4_62 (by first | assumption | rfl) h.va ?_
        refine mOk.bipush (x := nI 99) dX4_takeNumber_124 (by decide) ?_
        refine mOk.icle (tgt := 133) dX4_takeNumber_126 (by decide) (fun c126 => ?_) (fun c126 => ?_)
        · have := (nI_le' (by omega) (by omega)).mp c126
          refine mOk.iconst (x := nI 2) dX4_takeNumber_133 (by decide) ?_
          exact finT 2 (by rw [if_neg (by omega)])
        · have := mt (nI_le' (by omega) (by omega)).mpr c126
          refine mOk.iconst (x := nI 4) dX4_takeNumber_129 (by decide) ?_
          refine mOk.goto (tgt := 134) dX4_takeNumber_130 (by decide) ?_
          exact finT 4 (by rw [if_pos (Or.inr (by omega))])
      · refine mOk.istore1n dX4_takeNumber_114 rfl (by decide) rfl ?_
        refine mOk.aload0n dX4_takeNumber_115 rfl ?_
        refine mOk.iload1n dX4_takeNumber_116 rfl ?_
        refine mOk.ifne (tgt := 129) dX4_takeNumber_117 (by decide) (fun c117 => ?_) (fun c117 => absurd c117 ((by decide)))
        refine mOk.iconst (x := nI 4) dX4_takeNumber_129 (by decide) ?_
        refine mOk.goto (tgt := 134) dX4_takeNumber_130 (by decide) ?_
        exact finT 4 (by rw [if_pos (Or.inl (hzi.mp rfl))])
    refine mOk.aload0n dX4_takeNumber_80 rfl ?_
    refine mOk.getIv dX4_takeNumber_81 fl_X4_25 (by first | assumption | rfl) h.pl ?_
    refine mOk.aload0n dX4_takeNumber_84 rfl ?_
    refine mOk.getIv dX4_takeNumber_85 fl_X4_39 (by first | assumption | rfl) h.sx ?_
    refine mOk.isub dX4_takeNumber_88 ?_
    refine mOk.top (pk_sub hpk) ?_
    refine mOk.iconst (x := nI 1) dX4_takeNumber_89 (by decide) ?_
    refine mOk.icle (tgt := 113) dX4_takeNumber_90 (by decide) (fun c90 => ?_) (fun c90 => ?_)
    · have := (nI_le' (by omega) (by omega)).mp c90
      refine mOk.iconst (x := nI 0) dX4_takeNumber_113 (by decide) ?_
      exact last 0 (Or.inl rfl) ⟨fun z => absurd z (by decide), fun z => by omega⟩
    · have h90 := mt (nI_le' (by omega) (by omega)).mpr c90
      refine mOk.aload0n dX4_takeNumber_93 rfl ?_
      refine mOk.getR dX4_takeNumber_94 fl_X4_14 (by first | assumption | rfl) (by first | assumption | rfl) ?_
      refine mOk.aload0n dX4_takeNumber_97 rfl ?_
      refine mOk.getIv dX4_takeNumber_98 fl_X4_39 (by first | assumption | rfl) h.sx ?_
      refine mOk.callV1 (M' := mX5_cell) dX4_takeNumber_101 ml_X4_101 ke_X5_cell (by first | assumption | rfl) (by decide) (by decide) (by simp [Value.category]) (c_byte hT hpb ?_)
      refine mOk.bipush (x := nI 48) dX4_takeNumber_104 (by decide) ?_
      refine mOk.icne (tgt := 113) dX4_takeNumber_106 (by decide) (fun c106 => ?_) (fun c106 => ?_)
      · refine mOk.iconst (x := nI 0) dX4_takeNumber_113 (by decide) ?_
        exact last 0 (Or.inl rfl) ⟨fun z => absurd z (by decide), fun z => absurd (by rw [z.2]) c106⟩
      · have := (nI_eq' (by omega) (by omega)).mp c106
        refine mOk.iconst (x := nI 1) dX4_takeNumber_109 (by decide) ?_
        refine mOk.goto (tgt := 114) dX4_takeNumber_110 (by decide) ?_
        exact last 1 (Or.inr rfl) ⟨fun _ => ⟨by omega, this⟩, fun _ => rfl⟩
  intro m
  induction m with
  | zero =>
    intro k v I hk hpk hv hr hn h hT ho
    have hl := hT.len
    refine mOk.aload0n dX4_takeNumber_5 rfl ?_
    refine mOk.getIv dX4_takeNumber_6 fl_X4_25 (by first | assumption | rfl) h.pl ?_
    refine mOk.aload0n dX4_takeNumber_9 rfl ?_
    refine mOk.getR dX4_takeNumber_10 fl_X4_14 (by first | assumption | rfl) (by first | assumption | rfl) ?_
    refine mOk.callV0 (M' := mX5_length) dX4_takeNumber_13 ml_X4_97 ke_X5_length (by first | assumption | rfl) (by decide) (by decide) (by simp [Value.category]) (c_blen hT ?_)
    refine mOk.icge (tgt := 80) dX4_takeNumber_16 (by decide) (fun c16 => ?_) (fun c16 => absurd ((nI_le' (by omega) (by omega)).mpr (by omega)) c16)
    have e0 : runD bs k = 0 := lead_end (by omega)
    rw [e0] at hr hn
    exact fin k v I (by omega) hpk hv (by omega) (by rw [List.take_zero] at hn; exact hn) h hT ho
  | succ m ih =>
    intro k v I hk hpk hv hr hn h hT ho
    have hl := hT.len
    have hb := hT.lt (show k < bs.length by omega)
    refine mOk.aload0n dX4_takeNumber_5 rfl ?_
    refine mOk.getIv dX4_takeNumber_6 fl_X4_25 (by first | assumption | rfl) h.pl ?_
    refine mOk.aload0n dX4_takeNumber_9 rfl ?_
    refine mOk.getR dX4_takeNumber_10 fl_X4_14 (by first | assumption | rfl) (by first | assumption | rfl) ?_
    refine mOk.callV0 (M' := mX5_length) dX4_takeNumber_13 ml_X4_97 ke_X5_length (by first | assumption | rfl) (by decide) (by decide) (by simp [Value.category]) (c_blen hT ?_)
    refine mOk.icge (tgt := 80) dX4_takeNumber_16 (by decide) (fun c16 => absurd c16 (mt (nI_le' (by omega) (by omega)).mp (by omega))) (fun c16 => ?_)
    refine mOk.aload0n dX4_takeNumber_19 rfl ?_
    refine mOk.getR dX4_takeNumber_20 fl_X4_14 (by first | assumption | rfl) (by first | assumption | rfl) ?_
    refine mOk.aload0n dX4_takeNumber_23 rfl ?_
    refine mOk.getIv dX4_takeNumber_24 fl_X4_25 (by first | assumption | rfl) h.pl ?_
    refine mOk.callV1 (M' := mX5_cell) dX4_takeNumber_27 ml_X4_101 ke_X5_cell (by first | assumption | rfl) (by decide) (by decide) (by simp [Value.category]) (c_byte hT (by omega) ?_)
    refine mOk.callS1 (M' := mX4_isDigit) dX4_takeNumber_30 ml_X4_110 ke_X4_isDigit rfl (by decide) (by decide) (by simp [Value.category]) (c_isDigit hb ?_)
    have hd : runD bs k = _ := lead_drop (f := isD) (bs := bs) (k := k) (by omega)
    by_cases z : isD (bs.getD k 0) = true
    · rw [if_pos z] at hd ⊢
      have hz := isD_iff.mp z
      refine mOk.ifeq (tgt := 80) dX4_takeNumber_33 (by decide) (fun c33 => absurd c33 ((by decide))) (fun c33 => ?_)
      refine mOk.aload0n dX4_takeNumber_36 rfl ?_
      refine mOk.aload0n dX4_takeNumber_37 rfl ?_
      refine mOk.getIv dX4_takeNumber_38 fl_X4_62 (by first | assumption | rfl) h.va ?_
      refine mOk.bipush (x := nI 10) dX4_takeNumber_41 (by decide) ?_
      refine mOk.imul dX4_takeNumber_43 ?_
      refine mOk.top (pk_mul v 10) ?_
      refine mOk.aload0n dX4_takeNumber_44 rfl ?_
      refine mOk.getR dX4_takeNumber_45 fl_X4_14 (by first | assumption | rfl) (by first | assumption | rfl) ?_
      refine mOk.aload0n dX4_takeNumber_48 rfl ?_
      refine mOk.getIv dX4_takeNumber_49 fl_X4_25 (by first | assumption | rfl) h.pl ?_
      refine mOk.callV1 (M' := mX5_cell) dX4_takeNumber_52 ml_X4_101 ke_X5_cell (by first | assumption | rfl) (by decide) (by decide) (by simp [Value.category]) (c_byte hT (by omega) ?_)
      refine mOk.iadd dX4_takeNumber_55 ?_
      refine mOk.top (nI_add (v * 10) (bs.getD k 0)) ?_
      refine mOk.bipush (x := nI 48) dX4_takeNumber_56 (by decide) ?_
      refine mOk.isub dX4_takeNumber_58 ?_
      refine mOk.top (pk_sub (a := v * 10 + bs.getD k 0) (b := 48) (by omega)) ?_
      refine mOk.bipush (x := nI 100) dX4_takeNumber_59 (by decide) ?_
      refine mOk.mmin dX4_takeNumber_61 ml_X4_116 (by decide) (by decide) (by simp [Value.category]) ?_
      refine mOk.top (min_nI (a := v * 10 + bs.getD k 0 - 48) (b := 100) (by omega) (by omega)) ?_
      refine mOk.putIt dX4_takeNumber_64 fl_X4_62 (by first | assumption | rfl) ?_
      have h1 := h.w_va (x := nI (min (v * 10 + bs.getD k 0 - 48) 100))
      refine mOk.aload0n dX4_takeNumber_67 rfl ?_
      refine mOk.dup dX4_takeNumber_68 rfl ?_
      refine mOk.getIv dX4_takeNumber_69 fl_X4_25 (by first | assumption | rfl) h1.pl ?_
      refine mOk.iconst (x := nI 1) dX4_takeNumber_72 (by decide) ?_
      refine mOk.iadd dX4_takeNumber_73 ?_
      refine mOk.top (nI_1 k) ?_
      refine mOk.putIt dX4_takeNumber_74 fl_X4_25 (by first | assumption | rfl) ?_
      refine mOk.goto (tgt := 5) dX4_takeNumber_77 (by decide) ?_
      refine ih (k + 1) (min (v * 10 + bs.getD k 0 - 48) 100) _ (by omega) (by omega) (by omega) (by unfold runD at hr hd ⊢; omega) ?_ h1.w_pl ((hT.off (S := [1]) (Off.w (by simp)) (by decide) (by decide)).off (S := [1]) (Off.w (by simp)) (by decide) (by decide)) (ho.tr ((Off.w (a := 1) (by simp)).tr (Off.w (by simp))))
      rw [← hn, hd, drop_n (show k < bs.length by omega), List.take_succ_cons]
      rfl
    · rw [if_neg z] at hd ⊢
      refine mOk.ifeq (tgt := 80) dX4_takeNumber_33 (by decide) (fun c33 => ?_) (fun c33 => absurd (rfl) c33)
      rw [hd] at hr hn
      exact fin k v I (by omega) hpk hv (by omega) (by rw [List.take_zero] at hn; exact hn) h hT ho
theorem c_digits {p : Nat} (hp : p < bs.length) (h : Fl I (nI p) (nI p) tk va kd cl fi se) (hT : Ty I bs) (hQ : ∀ I', Fl I' (nI (p + runD bs p)) (nI p) (nI (if (1 < runD bs p ∧ bs.getD p 0 = 48) ∨ 99 < numV bs p then 4 else 2)) (nI (numV bs p)) kd cl fi se → Ty I' bs → Off [1] I I' → Q none (hS sw I' J)) : mCl mX4_takeNumber 2 0 0 [.ref 1] (hS sw I J) Q := by
  refine mCl.of (by decide) rfl (Nat.le_of_ble_eq_true rfl) ?_
  show mOk _ _ _ _ _ [some (.ref 1), none] _ _ _ _ _
  refine mOk.aload0n dX4_takeNumber_0 rfl ?_
  refine mOk.iconst (x := nI 0) dX4_takeNumber_1 (by decide) ?_
  refine mOk.putIt dX4_takeNumber_2 fl_X4_62 (by first | assumption | rfl) ?_
  exact l_digits (I0 := I) (k0 := p) rfl hp hQ (bs.length - p) p 0 _ (by omega) (Nat.le_refl _) (by omega) rfl rfl h.w_va (hT.off (S := [1]) (Off.w (by simp)) (by decide) (by decide)) (Off.w (by simp))
/-- what the reader holds of the token that begins at p -/
def Tk (I : Nat → Nat → Int32) (bs : List Nat) (p : Nat) (kd cl fi se : Int32) : Prop := p ≤ bs.length ∧ ∃ va, Fl I (nI (tkE bs p)) (nI p) (nI (tkK bs p)) va kd cl fi se ∧ ((tkK bs p = 1 ∨ tkK bs p = 2) → va = nI (tkV bs p))
theorem l_step {I0 : Nat → Nat → Int32} {p0 : Nat} {st0 tk0 va0 : Int32} (hQ : ∀ I', Tk I' bs (skp bs p0) kd cl fi se → Ty I' bs → Off [1] I0 I' → Q none (hS sw I' J)) :
    ∀ (m p : Nat) (I : Nat → Nat → Int32), p + m = bs.length → skp bs p = skp bs p0 → Fl I (nI p) st0 tk0 va0 kd cl fi se → Ty I bs → Off [1] I0 I → mOk mX4_step 3 0 0 0 [some (.ref 1)] [] (hS sw I J) 0 0 Q := by
  have fin : ∀ (p : Nat) (I : Nat → Nat → Int32), p ≤ bs.length → p = skp bs p0 → Fl I (nI p) st0 tk0 va0 kd cl fi se → Ty I bs → Off [1] I0 I → mOk mX4_step 3 0 0 43 [some (.ref 1)] [] (hS sw I J) 0 0 Q := by
    intro p I hp he h hT ho
    have hl := hT.len
    refine mOk.aload0n dX4_step_43 rfl ?_
    refine mOk.aload0n dX4_step_44 rfl ?_
    refine mOk.getIv dX4_step_45 fl_X4_25 (by first | assumption | rfl) h.pl ?_
    refine mOk.putIt dX4_step_48 fl_X4_39 (by first | assumption | rfl) ?_
    have h1 := h.w_sx (x := nI p)
    have hT1 := hT.off (S := [1]) (I' := wI I 1 2 (nI p)) (Off.w (by simp)) (by decide) (by decide)
    have ho1 : Off [1] I0 (wI I 1 2 (nI p)) := ho.tr (Off.w (by simp))
    refine mOk.aload0n dX4_step_51 rfl ?_
    refine mOk.getIv dX4_step_52 fl_X4_25 (by first | assumption | rfl) h1.pl ?_
    refine mOk.aload0n dX4_step_55 rfl ?_
    refine mOk.getR dX4_step_56 fl_X4_14 (by first | assumption | rfl) (by first | assumption | rfl) ?_
    refine mOk.callV0 (M' := mX5_length) dX4_step_59 ml_X4_97 ke_X5_length (by first | assumption | rfl) (by decide) (by decide) (by simp [Value.category]) (c_blen hT1 ?_)
    refine mOk.iclt (tgt := 73) dX4_step_62 (by decide) (fun c62 => ?_) (fun c62 => ?_)
    · have hlt := (nI_lt' (by omega) (by omega)).mp c62
      have hb := hT.lt hlt
      refine mOk.aload0n dX4_step_73 rfl ?_
      refine mOk.getR dX4_step_74 fl_X4_14 (by first | assumption | rfl) (by first | assumption | rfl) ?_
      refine mOk.aload0n dX4_step_77 rfl ?_
      refine mOk.getIv dX4_step_78 fl_X4_25 (by first | assumption | rfl) h1.pl ?_
      refine mOk.callV1 (M' := mX5_cell) dX4_step_81 ml_X4_101 ke_X5_cell (by first | assumption | rfl) (by decide) (by decide) (by simp [Value.category]) (c_byte hT1 hlt ?_)
      refine mOk.callS1 (M' := mX4_isLetter) dX4_step_84 ml_X4_104 ke_X4_isLetter rfl (by decide) (by decide) (by simp [Value.category]) (c_isLetter hb ?_)
      by_cases zl : isL (bs.getD p 0) = true
      · rw [if_pos zl]
        refine mOk.ifeq (tgt := 97) dX4_step_87 (by decide) (fun c87 => absurd c87 ((by decide))) (fun c87 => ?_)
        refine mOk.aload0n dX4_step_90 rfl ?_
        refine mOk.callV0 (M' := mX4_takeLetters) dX4_step_91 ml_X4_107 ke_X4_takeLetters (by first | assumption | rfl) (by decide) (by decide) (by simp [Value.category]) (c_letters hlt h1 hT1 ?_)
        intro I2 h2 hT2 ho2
        refine mOk.goto (tgt := 156) dX4_step_94 (by decide) ?_
        refine mOk.vret dX4_step_156 rfl (by decide) ?_
        refine hQ I2 ?_ hT2 (ho1.tr ho2)
        rw [← he]
        refine ⟨hp, _, ?_, fun _ => rfl⟩
        have e1 : tkE bs p = p + runL bs p := by unfold tkE; rw [if_neg (by omega), if_pos zl]
        have e2 : tkK bs p = 1 := by unfold tkK; rw [if_neg (by omega), if_pos zl]
        have e3 : tkV bs p = if 1 < runL bs p then 0 else bs.getD p 0 := by unfold tkV; rw [if_pos zl]
        rw [e1, e2, e3]
        exact h2
      · rw [if_neg zl]
        refine mOk.ifeq (tgt := 97) dX4_step_87 (by decide) (fun c87 => ?_) (fun c87 => absurd (rfl) c87)
        refine mOk.aload0n dX4_step_97 rfl ?_
        refine mOk.getR dX4_step_98 fl_X4_14 (by first | assumption | rfl) (by first | assumption | rfl) ?_
        refine mOk.aload0n dX4_step_101 rfl ?_
        refine mOk.getIv dX4_step_102 fl_X4_25 (by first | assumption | rfl) h1.pl ?_
        refine mOk.callV1 (M' := mX5_cell) dX4_step_105 ml_X4_101 ke_X5_cell (by first | assumption | rfl) (by decide) (by decide) (by simp [Value.category]) (c_byte hT1 hlt ?_)
        refine mOk.callS1 (M' := mX4_isDigit) dX4_step_108 ml_X4_110 ke_X4_isDigit rfl (by decide) (by decide) (by simp [Value.category]) (c_isDigit hb ?_)
        by_cases zd : isD (bs.getD p 0) = true
        · rw [if_pos zd]
          refine mOk.ifeq (tgt := 121) dX4_step_111 (by decide) (fun c111 => absurd c111 ((by decide))) (fun c111 => ?_)
          refine mOk.aload0n dX4_step_114 rfl ?_
          refine mOk.callV0 (M' := mX4_takeNumber) dX4_step_115 ml_X4_113 ke_X4_takeNumber (by first | assumption | rfl) (by decide) (by decide) (by simp [Value.category]) (c_digits hlt h1 hT1 ?_)
          intro I2 h2 hT2 ho2
          refine mOk.goto (tgt := 156) dX4_step_118 (by decide) ?_
          refine mOk.vret dX4_step_156 rfl (by decide) ?_
          refine hQ I2 ?_ hT2 (ho1.tr ho2)
          rw [← he]
          refine ⟨hp, _, ?_, fun _ => rfl⟩
          have e1 : tkE bs p = p + runD bs p := by unfold tkE; rw [if_neg (by omega), if_neg zl, if_pos zd]
          have e2 : tkK bs p = if (1 < runD bs p ∧ bs.getD p 0 = 48) ∨ 99 < numV bs p then 4 else 2 := by unfold tkK; rw [if_neg (by omega), if_neg zl, if_pos zd]
          have e3 : tkV bs p = numV bs p := by unfold tkV; rw [if_neg zl]
          rw [e1, e2, e3]
          exact h2
        · rw [if_neg zd]
          refine mOk.ifeq (tgt := 121) dX4_step_111 (by decide) (fun c111 => ?_) (fun c111 => absurd (rfl) c111)
          refine mOk.aload0n dX4_step_121 rfl ?_
          refine mOk.aload0n dX4_step_122 rfl ?_
          refine mOk.getR dX4_step_123 fl_X4_14 (by first | assumption | rfl) (by first | assumption | rfl) ?_
          refine mOk.aload0n dX4_step_126 rfl ?_
          refine mOk.getIv dX4_step_127 fl_X4_25 (by first | assumption | rfl) h1.pl ?_
          refine mOk.callV1 (M' := mX5_cell) dX4_step_130 ml_X4_101 ke_X5_cell (by first | assumption | rfl) (by decide) (by decide) (by simp [Value.category]) (c_byte hT1 hlt ?_)
          have last : ∀ x : Nat, x = tkK bs p → mOk mX4_step 3 0 0 143 [some (.ref 1)] [.int (nI x), .ref 1] (hS sw (wI I 1 2 (nI p)) J) 0 0 Q := by
            intro x hxx
            refine mOk.putIt dX4_step_143 fl_X4_32 (by first | assumption | rfl) ?_
            have h2 := h1.w_tk (x := nI x)
            refine mOk.aload0n dX4_step_146 rfl ?_
            refine mOk.dup dX4_step_147 rfl ?_
            refine mOk.getIv dX4_step_148 fl_X4_25 (by first | assumption | rfl) h2.pl ?_
            refine mOk.iconst (x := nI 1) dX4_step_151 (by decide) ?_
            refine mOk.iadd dX4_step_152 ?_
            refine mOk.top (nI_1 p) ?_
            refine mOk.putIt dX4_step_153 fl_X4_25 (by first | assumption | rfl) ?_
            refine mOk.vret dX4_step_156 rfl (by decide) ?_
            refine hQ _ ?_ ((hT1.off (S := [1]) (Off.w (by simp)) (by decide) (by decide)).off (S := [1]) (Off.w (by simp)) (by decide) (by decide)) (ho1.tr ((Off.w (a := 1) (by simp)).tr (Off.w (by simp))))
            rw [← he]
            have e1 : tkE bs p = p + 1 := by unfold tkE; rw [if_neg (by omega), if_neg zl, if_neg zd]
            have e2 : tkK bs p = if bs.getD p 0 = 59 then 3 else 4 := by unfold tkK; rw [if_neg (by omega), if_neg zl, if_neg zd]
            refine ⟨hp, va0, ?_, fun z => ?_⟩
            · rw [e1, ← hxx]
              exact h2.w_pl
            · exfalso
              rw [e2] at z
              split at z <;> omega
          have e2 : tkK bs p = if bs.getD p 0 = 59 then 3 else 4 := by unfold tkK; rw [if_neg (by omega), if_neg zl, if_neg zd]
          refine mOk.bipush (x := nI 59) dX4_step_133 (by decide) ?_
          refine mOk.icne (tgt := 142) dX4_step_135 (by decide) (fun c135 => ?_) (fun c135 => ?_)
          · refine mOk.iconst (x := nI 4) dX4_step_142 (by decide) ?_
            exact last 4 (by rw [e2, if_neg (fun z => c135 (by rw [z]))])
          · refine mOk.iconst (x := nI 3) dX4_step_138 (by decide) ?_
            refine mOk.goto (tgt := 143) dX4_step_139 (by decide) ?_
            exact last 3 (by rw [e2, if_pos ((nI_eq' (by omega) (by omega)).mp c135)])
    · have hge := mt (nI_lt' (by omega) (by omega)).mpr c62
      refine mOk.aload0n dX4_step_65 rfl ?_
      refine mOk.iconst (x := nI 0) dX4_step_66 (by decide) ?_
      refine mOk.putIt dX4_step_67 fl_X4_32 (by first | assumption | rfl) ?_
      refine mOk.goto (tgt := 156) dX4_step_70 (by decide) ?_
      refine mOk.vret dX4_step_156 rfl (by decide) ?_
      refine hQ _ ?_ (hT1.off (S := [1]) (Off.w (by simp)) (by decide) (by decide)) (ho1.tr (Off.w (by simp)))
      rw [← he]
      have e1 : tkE bs p = p := by unfold tkE; rw [if_pos (by omega)]
      have e2 : tkK bs p = 0 := by unfold tkK; rw [if_pos (by omega)]
      refine ⟨hp, va0, ?_, fun z => ?_⟩
      · rw [e1, e2]
        exact h1.w_tk
      · exfalso
        rw [e2] at z
        omega
  intro m
  induction m with
  | zero =>
    intro p I hp hs h hT ho
    have hl := hT.len
    refine mOk.aload0n dX4_step_0 rfl ?_
    refine mOk.getIv dX4_step_1 fl_X4_25 (by first | assumption | rfl) h.pl ?_
    refine mOk.aload0n dX4_step_4 rfl ?_
    refine mOk.getR dX4_step_5 fl_X4_14 (by first | assumption | rfl) (by first | assumption | rfl) ?_
    refine mOk.callV0 (M' := mX5_length) dX4_step_8 ml_X4_97 ke_X5_length (by first | assumption | rfl) (by decide) (by decide) (by simp [Value.category]) (c_blen hT ?_)
    refine mOk.icge (tgt := 43) dX4_step_11 (by decide) (fun c11 => ?_) (fun c11 => absurd ((nI_le' (by omega) (by omega)).mpr (by omega)) c11)
    exact fin p I (by omega) (by rw [← hs, skp, lead_end (by omega)]; omega) h hT ho
  | succ m ih =>
    intro p I hp hs h hT ho
    have hl := hT.len
    have hb := hT.lt (show p < bs.length by omega)
    have hd := lead_drop (f := isB) (bs := bs) (k := p) (by omega)
    refine mOk.aload0n dX4_step_0 rfl ?_
    refine mOk.getIv dX4_step_1 fl_X4_25 (by first | assumption | rfl) h.pl ?_
    refine mOk.aload0n dX4_step_4 rfl ?_
    refine mOk.getR dX4_step_5 fl_X4_14 (by first | assumption | rfl) (by first | assumption | rfl) ?_
    refine mOk.callV0 (M' := mX5_length) dX4_step_8 ml_X4_97 ke_X5_length (by first | assumption | rfl) (by decide) (by decide) (by simp [Value.category]) (c_blen hT ?_)
    refine mOk.icge (tgt := 43) dX4_step_11 (by decide) (fun c11 => absurd c11 (mt (nI_le' (by omega) (by omega)).mp (by omega))) (fun c11 => ?_)
    refine mOk.aload0n dX4_step_14 rfl ?_
    refine mOk.getR dX4_step_15 fl_X4_14 (by first | assumption | rfl) (by first | assumption | rfl) ?_
    refine mOk.aload0n dX4_step_18 rfl ?_
    refine mOk.getIv dX4_step_19 fl_X4_25 (by first | assumption | rfl) h.pl ?_
    refine mOk.callV1 (M' := mX5_cell) dX4_step_22 ml_X4_101 ke_X5_cell (by first | assumption | rfl) (by decide) (by decide) (by simp [Value.category]) (c_byte hT (by omega) ?_)
    refine mOk.bipush (x := nI 32) dX4_step_25 (by decide) ?_
    refine mOk.icne (tgt := 43) dX4_step_27 (by decide) (fun c27 => ?_) (fun c27 => ?_)
    · rw [if_neg (by simp only [isB, decide_eq_true_eq]; exact fun z => c27 (by rw [z]))] at hd
      exact fin p I (by omega) (by rw [← hs, skp, hd]; omega) h hT ho
    · rw [if_pos (by simp only [isB, decide_eq_true_eq]; exact (nI_eq' (by omega) (by omega)).mp c27)] at hd
      refine mOk.aload0n dX4_step_30 rfl ?_
      refine mOk.dup dX4_step_31 rfl ?_
      refine mOk.getIv dX4_step_32 fl_X4_25 (by first | assumption | rfl) h.pl ?_
      refine mOk.iconst (x := nI 1) dX4_step_35 (by decide) ?_
      refine mOk.iadd dX4_step_36 ?_
      refine mOk.top (nI_1 p) ?_
      refine mOk.putIt dX4_step_37 fl_X4_25 (by first | assumption | rfl) ?_
      refine mOk.goto (tgt := 0) dX4_step_40 (by decide) ?_
      exact ih (p + 1) _ (by omega) (by rw [← hs]; unfold skp; omega) h.w_pl (hT.off (S := [1]) (Off.w (by simp)) (by decide) (by decide)) (ho.tr (Off.w (by simp)))
theorem c_step {p : Nat} (hp : p ≤ bs.length) (h : Fl I (nI p) sx tk va kd cl fi se) (hT : Ty I bs) (hQ : ∀ I', Tk I' bs (skp bs p) kd cl fi se → Ty I' bs → Off [1] I I' → Q none (hS sw I' J)) : mCl mX4_step 3 0 0 [.ref 1] (hS sw I J) Q := by
  refine mCl.of (by decide) rfl (Nat.le_of_ble_eq_true rfl) ?_
  show mOk _ _ _ _ _ [some (.ref 1)] _ _ _ _ _
  exact l_step (I0 := I) hQ (bs.length - p) p I (by omega) rfl h hT Off.rf
end READER
