section ME
variable {M : mi_M} {d mc ms pc n k : Nat} {L : List (Option Value)} {st : List Value} {h : mi_H} {Q : Option Value → mi_H → Prop}
theorem mOk.callV0 {M' : mi_M} {d' mc' ms' idx ci N b : Nat}  (hd : decode M.2.1 pc = .ok (.invokevirtual idx, 3)) (hl : Cond.methodLink M.1.cls idx M'.1 ∈ gw) (hv : mi_cv M' 0 ci) (hk : h.1[b]? = some (ci, N)) (hd1 : d' < d ∧ M'.2.2.1 ≤ 21) (hr : n + mc' ≤ mc ∧ k + ms' ≤ ms) (hw : (st.map fun v => v.category).sum ≤ 8) (hc : mCl M' d' mc' ms' [.ref b] h (mi_k M d mc ms (pc + 3) L st (n + mc') (k + ms') Q)) : mOk M d mc ms pc L (.ref b :: st) h n k Q := mOk.callV (as := []) hd hl hv hk rfl rfl hd1 hr hw hc
theorem mOk.callV1 {M' : mi_M} {d' mc' ms' idx ci N b : Nat} {x1 : Value} (hd : decode M.2.1 pc = .ok (.invokevirtual idx, 3)) (hl : Cond.methodLink M.1.cls idx M'.1 ∈ gw) (hv : mi_cv M' 1 ci) (hk : h.1[b]? = some (ci, N)) (hd1 : d' < d ∧ M'.2.2.1 ≤ 21) (hr : n + mc' ≤ mc ∧ k + ms' ≤ ms) (hw : (st.map fun v => v.category).sum ≤ 8) (hc : mCl M' d' mc' ms' [.ref b, x1] h (mi_k M d mc ms (pc + 3) L st (n + mc') (k + ms') Q)) : mOk M d mc ms pc L (x1 :: .ref b :: st) h n k Q := mOk.callV (as := [x1]) hd hl hv hk rfl rfl hd1 hr hw hc
theorem mOk.callV2 {M' : mi_M} {d' mc' ms' idx ci N b : Nat} {x1 x2 : Value} (hd : decode M.2.1 pc = .ok (.invokevirtual idx, 3)) (hl : Cond.methodLink M.1.cls idx M'.1 ∈ gw) (hv : mi_cv M' 2 ci) (hk : h.1[b]? = some (ci, N)) (hd1 : d' < d ∧ M'.2.2.1 ≤ 21) (hr : n + mc' ≤ mc ∧ k + ms' ≤ ms) (hw : (st.map fun v => v.category).sum ≤ 8) (hc : mCl M' d' mc' ms' [.ref b, x1, x2] h (mi_k M d mc ms (pc + 3) L st (n + mc') (k + ms') Q)) : mOk M d mc ms pc L (x2 :: x1 :: .ref b :: st) h n k Q := mOk.callV (as := [x1, x2]) hd hl hv hk rfl rfl hd1 hr hw hc
theorem mOk.callV3 {M' : mi_M} {d' mc' ms' idx ci N b : Nat} {x1 x2 x3 : Value} (hd : decode M.2.1 pc = .ok (.invokevirtual idx, 3)) (hl : Cond.methodLink M.1.cls idx M'.1 ∈ gw) (hv : mi_cv M' 3 ci) (hk : h.1[b]? = some (ci, N)) (hd1 : d' < d ∧ M'.2.2.1 ≤ 21) (hr : n + mc' ≤ mc ∧ k + ms' ≤ ms) (hw : (st.map fun v => v.category).sum ≤ 8) (hc : mCl M' d' mc' ms' [.ref b, x1, x2, x3] h (mi_k M d mc ms (pc + 3) L st (n + mc') (k + ms') Q)) : mOk M d mc ms pc L (x3 :: x2 :: x1 :: .ref b :: st) h n k Q := mOk.callV (as := [x1, x2, x3]) hd hl hv hk rfl rfl hd1 hr hw hc
theorem mOk.callV4 {M' : mi_M} {d' mc' ms' idx ci N b : Nat} {x1 x2 x3 x4 : Value} (hd : decode M.2.1 pc = .ok (.invokevirtual idx, 3)) (hl : Cond.methodLink M.1.cls idx M'.1 ∈ gw) (hv : mi_cv M' 4 ci) (hk : h.1[b]? = some (ci, N)) (hd1 : d' < d ∧ M'.2.2.1 ≤ 21) (hr : n + mc' ≤ mc ∧ k + ms' ≤ ms) (hw : (st.map fun v => v.category).sum ≤ 8) (hc : mCl M' d' mc' ms' [.ref b, x1, x2, x3, x4] h (mi_k M d mc ms (pc + 3) L st (n + mc') (k + ms') Q)) : mOk M d mc ms pc L (x4 :: x3 :: x2 :: x1 :: .ref b :: st) h n k Q := mOk.callV (as := [x1, x2, x3, x4]) hd hl hv hk rfl rfl hd1 hr hw hc
theorem mOk.callS1 {M' : mi_M} {d' mc' ms' idx : Nat} {x1 : Value} (hd : decode M.2.1 pc = .ok (.invokestatic idx, 3)) (hl : Cond.methodLink M.1.cls idx M'.1 ∈ gw) (hv : mi_cs M' 1) (ho : M'.1.cls = M.1.cls) (hd1 : d' < d ∧ M'.2.2.1 ≤ 21) (hr : n + mc' ≤ mc ∧ k + ms' ≤ ms) (hw : (st.map fun v => v.category).sum ≤ 8) (hc : mCl M' d' mc' ms' [x1] h (mi_k M d mc ms (pc + 3) L st (n + mc') (k + ms') Q)) : mOk M d mc ms pc L (x1 :: st) h n k Q := mOk.callS (as := [x1]) hd hl hv ho rfl rfl hd1 hr hw hc
theorem mOk.callS2 {M' : mi_M} {d' mc' ms' idx : Nat} {x1 x2 : Value} (hd : decode M.2.1 pc = .ok (.invokestatic idx, 3)) (hl : Cond.methodLink M.1.cls idx M'.1 ∈ gw) (hv : mi_cs M' 2) (ho : M'.1.cls = M.1.cls) (hd1 : d' < d ∧ M'.2.2.1 ≤ 21) (hr : n + mc' ≤ mc ∧ k + ms' ≤ ms) (hw : (st.map fun v => v.category).sum ≤ 8) (hc : mCl M' d' mc' ms' [x1, x2] h (mi_k M d mc ms (pc + 3) L st (n + mc') (k + ms') Q)) : mOk M d mc ms pc L (x2 :: x1 :: st) h n k Q := mOk.callS (as := [x1, x2]) hd hl hv ho rfl rfl hd1 hr hw hc
theorem mOk.callS3 {M' : mi_M} {d' mc' ms' idx : Nat} {x1 x2 x3 : Value} (hd : decode M.2.1 pc = .ok (.invokestatic idx, 3)) (hl : Cond.methodLink M.1.cls idx M'.1 ∈ gw) (hv : mi_cs M' 3) (ho : M'.1.cls = M.1.cls) (hd1 : d' < d ∧ M'.2.2.1 ≤ 21) (hr : n + mc' ≤ mc ∧ k + ms' ≤ ms) (hw : (st.map fun v => v.category).sum ≤ 8) (hc : mCl M' d' mc' ms' [x1, x2, x3] h (mi_k M d mc ms (pc + 3) L st (n + mc') (k + ms') Q)) : mOk M d mc ms pc L (x3 :: x2 :: x1 :: st) h n k Q := mOk.callS (as := [x1, x2, x3]) hd hl hv ho rfl rfl hd1 hr hw hc
theorem mOk.callI0 {M' : mi_M} {d' mc' ms' idx b : Nat}  (hd : decode M.2.1 pc = .ok (.invokespecial idx, 3)) (hl : Cond.methodLink M.1.cls idx M'.1 ∈ gw) (hv : mi_ci M' 0) (hrt : M'.2.2.2 = none) (hd1 : d' < d ∧ M'.2.2.1 ≤ 21) (hr : n + mc' ≤ mc ∧ k + ms' ≤ ms) (hw : (st.map fun v => v.category).sum ≤ 8) (hc : mCl M' d' mc' ms' [.ref b] h (mi_k M d mc ms (pc + 3) L st (n + mc') (k + ms') Q)) : mOk M d mc ms pc L (.ref b :: st) h n k Q := mOk.callI (as := []) hd hl hv hrt rfl rfl hd1 hr hw hc
theorem mOk.callIN0 {M' : mi_M} {d' mc' ms' idx b : Nat} {host : String}  (hd : decode M.2.1 pc = .ok (.invokespecial idx, 3)) (hl : Cond.methodLinkNest M.1.cls idx M'.1 host ∈ mi_nest) (hv : mi_ci M' 0) (hrt : M'.2.2.2 = none) (hd1 : d' < d ∧ M'.2.2.1 ≤ 21) (hr : n + mc' ≤ mc ∧ k + ms' ≤ ms) (hw : (st.map fun v => v.category).sum ≤ 8) (hc : mCl M' d' mc' ms' [.ref b] h (mi_k M d mc ms (pc + 3) L st (n + mc') (k + ms') Q)) : mOk M d mc ms pc L (.ref b :: st) h n k Q := mOk.callIN (as := []) hd hl hv hrt rfl rfl hd1 hr hw hc
theorem mOk.callI1 {M' : mi_M} {d' mc' ms' idx b : Nat} {x1 : Value} (hd : decode M.2.1 pc = .ok (.invokespecial idx, 3)) (hl : Cond.methodLink M.1.cls idx M'.1 ∈ gw) (hv : mi_ci M' 1) (hrt : M'.2.2.2 = none) (hd1 : d' < d ∧ M'.2.2.1 ≤ 21) (hr : n + mc' ≤ mc ∧ k + ms' ≤ ms) (hw : (st.map fun v => v.category).sum ≤ 8) (hc : mCl M' d' mc' ms' [.ref b, x1] h (mi_k M d mc ms (pc + 3) L st (n + mc') (k + ms') Q)) : mOk M d mc ms pc L (x1 :: .ref b :: st) h n k Q := mOk.callI (as := [x1]) hd hl hv hrt rfl rfl hd1 hr hw hc
theorem mOk.callIN1 {M' : mi_M} {d' mc' ms' idx b : Nat} {host : String} {x1 : Value} (hd : decode M.2.1 pc = .ok (.invokespecial idx, 3)) (hl : Cond.methodLinkNest M.1.cls idx M'.1 host ∈ mi_nest) (hv : mi_ci M' 1) (hrt : M'.2.2.2 = none) (hd1 : d' < d ∧ M'.2.2.1 ≤ 21) (hr : n + mc' ≤ mc ∧ k + ms' ≤ ms) (hw : (st.map fun v => v.category).sum ≤ 8) (hc : mCl M' d' mc' ms' [.ref b, x1] h (mi_k M d mc ms (pc + 3) L st (n + mc') (k + ms') Q)) : mOk M d mc ms pc L (x1 :: .ref b :: st) h n k Q := mOk.callIN (as := [x1]) hd hl hv hrt rfl rfl hd1 hr hw hc
def wI (I : Nat → Nat → Int32) (a i : Nat) (x : Int32) : Nat → Nat → Int32 := va_up I a (va_up (I a) i x)
def wJ (J : Nat → Nat → Int64) (a i : Nat) (x : Int64) : Nat → Nat → Int64 := va_up J a (va_up (J a) i x)
theorem wI_s (I : Nat → Nat → Int32) (a i : Nat) (x : Int32) : wI I a i x a i = x := by simp [wI, va_up]
theorem wI_c {I : Nat → Nat → Int32} {a b i : Nat} {x : Int32} (h : b ≠ a) : wI I a i x b = I b := by simp [wI, va_up, h]
theorem wI_j {I : Nat → Nat → Int32} {a b i j : Nat} {x : Int32} (h : j ≠ i) : wI I a i x b j = I b j := by
  unfold wI va_up
  by_cases e : b = a
  · rw [if_pos e, if_neg h, e]
  · rw [if_neg e]
theorem wI_o {I : Nat → Nat → Int32} {a b i j : Nat} {x : Int32} (h : ¬ (b = a ∧ j = i)) : wI I a i x b j = I b j := by
  by_cases e : b = a
  · exact wI_j (fun z => h ⟨e, z⟩)
  · rw [wI_c e]
theorem wJ_s (J : Nat → Nat → Int64) (a i : Nat) (x : Int64) : wJ J a i x a i = x := by simp [wJ, va_up]
theorem wJ_c {J : Nat → Nat → Int64} {a b i : Nat} {x : Int64} (h : b ≠ a) : wJ J a i x b = J b := by simp [wJ, va_up, h]
theorem wJ_j {J : Nat → Nat → Int64} {a b i j : Nat} {x : Int64} (h : j ≠ i) : wJ J a i x b j = J b j := by
  unfold wJ va_up
  by_cases e : b = a
  · rw [if_pos e, if_neg h, e]
  · rw [if_neg e]
theorem mOk.getIv {idx ci N f a : Nat} {fin : Bool} {x : Int32} (hd : decode M.2.1 pc = .ok (.getfield idx, 3)) (hl : mi_fl M.1.cls idx ci N f fin false) (hk : h.1[a]? = some (ci, N)) (hv : h.2.2.1 a f = x) (kk : mOk M d mc ms (pc + 3) L (.int x :: st) h n k Q) : mOk M d mc ms pc L (.ref a :: st) h n k Q := mOk.getI hd hl hk (hv ▸ kk)
theorem mOk.ialdv {a N j : Nat} {i x : Int32} (hd : decode M.2.1 pc = .ok (.iaload, 1)) (hk : h.1[a]? = some (10, N)) (hi : i = nI j) (hj : j < N) (hN : N < 2147483648) (hv : h.2.2.1 a j = x) (kk : mOk M d mc ms (pc + 1) L (.int x :: st) h n k Q) : mOk M d mc ms pc L (.int i :: .ref a :: st) h n k Q := mOk.iald hd hk hi hj hN (hv ▸ kk)
theorem mOk.zaldv {a N j : Nat} {i x : Int32} (hd : decode M.2.1 pc = .ok (.baload, 1)) (hk : h.1[a]? = some (12, N)) (hi : i = nI j) (hj : j < N) (hN : N < 2147483648) (hv : h.2.2.1 a j = x) (kk : mOk M d mc ms (pc + 1) L (.int x :: st) h n k Q) : mOk M d mc ms pc L (.int i :: .ref a :: st) h n k Q := mOk.zald hd hk hi hj hN (hv ▸ kk)
theorem mOk.laldv {a N j : Nat} {i : Int32} {x : Int64} (hd : decode M.2.1 pc = .ok (.laload, 1)) (hk : h.1[a]? = some (11, N)) (hi : i = nI j) (hj : j < N) (hN : N < 2147483648) (hv : h.2.2.2 a j = x) (kk : mOk M d mc ms (pc + 1) L (.long x :: st) h n k Q) : mOk M d mc ms pc L (.int i :: .ref a :: st) h n k Q := mOk.lald hd hk hi hj hN (hv ▸ kk)
variable {K : List (Nat × Nat)} {P : Nat → Nat → Option Nat} {I : Nat → Nat → Int32} {J : Nat → Nat → Int64}
theorem mOk.putIt {idx ci N f a : Nat} {x : Int32} (hd : decode M.2.1 pc = .ok (.putfield idx, 3)) (hl : mi_fl M.1.cls idx ci N f false false) (hk : K[a]? = some (ci, N)) (kk : mOk M d mc ms (pc + 3) L st (K, P, wI I a f x, J) n k Q) : mOk M d mc ms pc L (.int x :: .ref a :: st) (K, P, I, J) n k Q := mOk.putI (h := (K, P, I, J)) hd hl hk kk
theorem mOk.iastt {a N j : Nat} {i x : Int32} (hd : decode M.2.1 pc = .ok (.iastore, 1)) (hk : K[a]? = some (10, N)) (hi : i = nI j) (hj : j < N) (hN : N < 2147483648) (kk : mOk M d mc ms (pc + 1) L st (K, P, wI I a j x, J) n k Q) : mOk M d mc ms pc L (.int x :: .int i :: .ref a :: st) (K, P, I, J) n k Q := mOk.iast (h := (K, P, I, J)) hd hk hi hj hN kk
theorem mOk.zastt {a N j : Nat} {i x : Int32} (hd : decode M.2.1 pc = .ok (.bastore, 1)) (hk : K[a]? = some (12, N)) (hi : i = nI j) (hj : j < N) (hN : N < 2147483648) (hx : x = 0 ∨ x = 1) (kk : mOk M d mc ms (pc + 1) L st (K, P, wI I a j x, J) n k Q) : mOk M d mc ms pc L (.int x :: .int i :: .ref a :: st) (K, P, I, J) n k Q := mOk.zast (h := (K, P, I, J)) hd hk hi hj hN hx kk
theorem mOk.lastt {a N j : Nat} {i : Int32} {x : Int64} (hd : decode M.2.1 pc = .ok (.lastore, 1)) (hk : K[a]? = some (11, N)) (hi : i = nI j) (hj : j < N) (hN : N < 2147483648) (kk : mOk M d mc ms (pc + 1) L st (K, P, I, wJ J a j x) n k Q) : mOk M d mc ms pc L (.long x :: .int i :: .ref a :: st) (K, P, I, J) n k Q := mOk.last (h := (K, P, I, J)) hd hk hi hj hN kk
theorem mOk.inc1 {x : Int32} {j : Nat} (e : x = nI j) : x + Int32.ofInt 1 = nI (j + 1) := by rw [e]; exact nI_1 j

end ME
theorem cl_an_X0_9 : Cond.classLink RX0 9 RX5 ∈ gw := by
  obtain ⟨C, T, ty0, -, h1, h2, -⟩ := cn_X0_9
  cases h1
  exact h2
theorem cl_an_X2_9 : Cond.classLink RX2 9 RX5 ∈ gw := by
  obtain ⟨C, T, ty0, -, h1, h2, -⟩ := cn_X2_9
  cases h1
  exact h2
theorem cl_an_X3_9 : Cond.classLink RX3 9 RX0 ∈ gw := by
  obtain ⟨C, T, ty0, -, h1, h2, -⟩ := cn_X3_9
  cases h1
  exact h2
/-- the cells of the class's object and of the reference, as their constructors make them: kinds and sizes -/
def KK : List (Nat × Nat) := [(8, 11), (4, 9), (5, 2), (10, 150), (1, 8), (10, 24), (10, 24), (10, 24), (10, 24), (10, 24), (10, 96), (5, 2), (10, 7), (1, 8), (10, 24), (10, 24), (10, 24), (10, 24), (10, 24), (10, 96), (5, 2), (10, 7), (0, 2), (14, 4), (5, 2), (10, 4), (5, 2), (10, 16), (5, 2), (10, 16), (5, 2), (10, 16), (5, 2), (10, 16), (3, 2), (13, 2), (12, 2), (0, 2), (14, 4), (5, 2), (10, 4), (5, 2), (10, 16), (5, 2), (10, 16), (5, 2), (10, 16), (5, 2), (10, 16), (0, 2), (14, 4), (5, 2), (10, 4), (5, 2), (10, 16), (5, 2), (10, 16), (5, 2), (10, 16), (5, 2), (10, 16), (2, 4), (14, 10), (10, 10), (5, 2), (10, 16), (5, 2), (10, 16), (5, 2), (10, 16), (5, 2), (10, 16), (5, 2), (10, 16), (5, 2), (10, 16), (5, 2), (10, 16), (5, 2), (10, 16), (5, 2), (10, 16), (5, 2), (10, 16), (6, 2), (5, 2), (10, 32), (5, 2), (10, 128), (7, 1), (11, 129), (5, 2), (10, 128), (5, 2), (10, 128), (5, 2), (10, 128), (9, 26), (10, 24), (10, 24), (10, 24), (10, 24), (10, 24), (10, 96), (10, 150), (10, 193), (10, 4), (10, 64), (10, 4), (10, 180), (10, 128), (10, 128), (10, 128), (11, 65), (10, 148)]
def PT : List (List (Option Nat)) := [[some 1, some 4, some 13, some 22, some 34, some 61, some 84, some 89, some 91, some 93, some 95], [some 2], [some 3], [], [some 5, some 6, some 7, some 8, some 9, some 10, some 11], [], [], [], [], [], [], [some 12], [], [some 14, some 15, some 16, some 17, some 18, some 19, some 20], [], [], [], [], [], [], [some 21], [], [some 23, some 24], [some 26, some 28, some 30, some 32], [some 25], [], [some 27], [], [some 29], [], [some 31], [], [some 33], [], [some 35, some 36], [some 37, some 49], [], [some 38, some 39], [some 41, some 43, some 45, some 47], [some 40], [], [some 42], [], [some 44], [], [some 46], [], [some 48], [], [some 50, some 51], [some 53, some 55, some 57, some 59], [some 52], [], [some 54], [], [some 56], [], [some 58], [], [some 60], [], [some 62, some 63], [some 64, some 66, some 68, some 70, some 72, some 74, some 76, some 78, some 80, some 82], [], [some 65], [], [some 67], [], [some 69], [], [some 71], [], [some 73], [], [some 75], [], [some 77], [], [some 79], [], [some 81], [], [some 83], [], [some 85, some 87], [some 86], [], [some 88], [], [some 90], [], [some 92], [], [some 94], [], [some 96], [], [none, some 98, some 99, some 100, some 101, some 102, some 103, some 104, none, none, none, some 105, some 106, some 107, none, some 108, some 109, none, none, some 110, none, some 111, none, some 112, some 113, some 114], [], [], [], [], [], [], [], [], [], [], [], [], [], [], [], [], []]
def PP (a i : Nat) : Option Nat := (PT.getD a []).getD i none
/-- which of the two tables is in use -/
def cA (sw : Bool) : Nat := if sw then 13 else 4
def PQ (sw : Bool) (a i : Nat) : Option Nat := match a with
  | 0 => match i with
    | 1 => some (cA sw)
    | 2 => some (cA !sw)
    | j => PP 0 j
  | b => PP b i
abbrev hS (sw : Bool) (I : Nat → Nat → Int32) (J : Nat → Nat → Int64) : mi_H := (KK, PQ sw, I, J)

