/-- what a call of a method takes of the tables -/
def mi_ce (M : mi_M) (n : Nat) : Prop := Cond.code M.1 M.2.1 M.2.2.1 M.2.2.2 ∈ gw ∧ Cond.initialized M.1.cls ∈ gw ∧ (M.1.cls ≠ "java/lang/invoke/MethodHandle" ∧ M.1.cls ≠ "java/lang/invoke/VarHandle" ∧ (parseMethodDescriptor M.1.desc).map (fun d => d.parameters.length) = some n)
def mi_cv (M : mi_M) (n ci : Nat) : Prop := mi_ce M n ∧ Cond.instanceMethod M.1 ∈ gw ∧ Cond.selects M.1.cls M.1 M.1 ∈ gw ∧ ∃ (T : u_T) (N : Nat), vwCl[ci]? = some (M.1.cls, T, N)
def mi_cs (M : mi_M) (n : Nat) : Prop := mi_ce M n ∧ Cond.static M.1 ∈ gw
def mi_ci (M : mi_M) (n : Nat) : Prop := mi_ce M n ∧ Cond.instanceMethod M.1 ∈ gw ∧ M.1.name = "<init>"
/-- a field's link: own class, index, class and size of the object, place; final; a reference -/
def mi_rfs : List (List Bool) := [[true, true], [true, true, true, true, true, true, true, false], [true, true, false, false], [true, true], [true, false, false, false, false, false, false, false, false], [true, false], [true, true], [true], [true, true, true, true, true, true, true, true, true, true, true], [false, true, true, true, true, true, true, true, false, false, false, true, true, true, false, true, true, false, false, true, false, true, false, true, true, true]]
def mi_rf (ci f : Nat) : Bool := (mi_rfs.getD ci []).getD f false
def mi_fl (own : String) (idx ci N f : Nat) (fin rf : Bool) : Prop := ∃ (C : String) (T : u_T) (ty0 : Nat → FieldType), ci < 10 ∧ f < N ∧ vwCl[ci]? = some (C, T, N) ∧ Cond.fieldLink own idx C (T f).2.1 (T f).2.2.1 ∈ gw ∧ (∀ w ∈ u_ws C T N, w ∈ gw) ∧ (T f).1 = C ∧ (∀ k, k < N → parseFieldDescriptor (T k).2.2.1 = some (ty0 k)) ∧ (∀ a, a < N → ∀ b, b < N → a ≠ b → (T a).2.1 ≠ (T b).2.1) ∧ (T f).2.2.2 = fin ∧ mi_rf ci f = rf ∧ (match rf with
  | true => (∃ x, ty0 f = .object x) ∨ ∃ x, ty0 f = .array x
  | false => ty0 f = .int)
/-- a class that is made -/
def mi_cn (own : String) (idx ci N : Nat) : Prop := ∃ (C : String) (T : u_T) (ty0 : Nat → FieldType), ci < 10 ∧ vwCl[ci]? = some (C, T, N) ∧ Cond.classLink own idx C ∈ gw ∧ Cond.instantiable C N ∈ gw ∧ Cond.initialized C ∈ gw ∧ (∀ w ∈ u_ws C T N, w ∈ gw) ∧ (∀ k, k < N → parseFieldDescriptor (T k).2.2.1 = some (ty0 k)) ∧ (∀ k, k < N → match mi_rf ci k with
  | true => (∃ x, ty0 k = .object x) ∨ ∃ x, ty0 k = .array x
  | false => ty0 k = .int)

theorem gwc_0 : ∀ w ∈ u_ws RX0 TX0 2, w ∈ gw := by
  intro w hw
  obtain ⟨k, hk, rfl⟩ := List.mem_map.mp hw
  have hk := List.mem_range.mp hk
  rcases (show k = 0 ∨ k = 1 by omega) with rfl | rfl
  · exact gw_t 115 (by decide +kernel) rfl
  · exact gw_t 117 (by decide +kernel) rfl
theorem gwc_1 : ∀ w ∈ u_ws RX1 TX1 8, w ∈ gw := by
  intro w hw
  obtain ⟨k, hk, rfl⟩ := List.mem_map.mp hw
  have hk := List.mem_range.mp hk
  rcases (show k = 0 ∨ k = 1 ∨ k = 2 ∨ k = 3 ∨ k = 4 ∨ k = 5 ∨ k = 6 ∨ k = 7 by omega) with rfl | rfl | rfl | rfl | rfl | rfl | rfl | rfl
  · exact gw_t 87 (by decide +kernel) rfl
  · exact gw_t 89 (by decide +kernel) rfl
  · exact gw_t 91 (by decide +kernel) rfl
  · exact gw_t 93 (by decide +kernel) rfl
  · exact gw_t 95 (by decide +kernel) rfl
  · exact gw_t 97 (by decide +kernel) rfl
  · exact gw_t 99 (by decide +kernel) rfl
  · exact gw_t 101 (by decide +kernel) rfl
theorem gwc_2 : ∀ w ∈ u_ws RX2 TX2 4, w ∈ gw := by
  intro w hw
  obtain ⟨k, hk, rfl⟩ := List.mem_map.mp hw
  have hk := List.mem_range.mp hk
  rcases (show k = 0 ∨ k = 1 ∨ k = 2 ∨ k = 3 by omega) with rfl | rfl | rfl | rfl
  · exact gw_t 149 (by decide +kernel) rfl
  · exact gw_t 151 (by decide +kernel) rfl
  · exact gw_t 153 (by decide +kernel) rfl
  · exact gw_t 155 (by decide +kernel) rfl
theorem gwc_3 : ∀ w ∈ u_ws RX3 TX3 2, w ∈ gw := by
  intro w hw
  obtain ⟨k, hk, rfl⟩ := List.mem_map.mp hw
  have hk := List.mem_range.mp hk
  rcases (show k = 0 ∨ k = 1 by omega) with rfl | rfl
  · exact gw_t 131 (by decide +kernel) rfl
  · exact gw_t 133 (by decide +kernel) rfl
theorem gwc_4 : ∀ w ∈ u_ws RX4 TX4 9, w ∈ gw := by
  intro w hw
  obtain ⟨k, hk, rfl⟩ := List.mem_map.mp hw
  have hk := List.mem_range.mp hk
  rcases (show k = 0 ∨ k = 1 ∨ k = 2 ∨ k = 3 ∨ k = 4 ∨ k = 5 ∨ k = 6 ∨ k = 7 ∨ k = 8 by omega) with rfl | rfl | rfl | rfl | rfl | rfl | rfl | rfl | rfl
  · exact gw_t 52 (by decide +kernel) rfl
  · exact gw_t 54 (by decide +kernel) rfl
  · exact gw_t 56 (by decide +kernel) rfl
  · exact gw_t 58 (by decide +kernel) rfl
  · exact gw_t 60 (by decide +kernel) rfl
  · exact gw_t 62 (by decide +kernel) rfl
  · exact gw_t 64 (by decide +kernel) rfl
  · exact gw_t 66 (by decide +kernel) rfl
  · exact gw_t 68 (by decide +kernel) rfl
theorem gwc_5 : ∀ w ∈ u_ws RX5 TX5 2, w ∈ gw := by
  intro w hw
  obtain ⟨k, hk, rfl⟩ := List.mem_map.mp hw
  have hk := List.mem_range.mp hk
  rcases (show k = 0 ∨ k = 1 by omega) with rfl | rfl
  · exact gw_t 37 (by decide +kernel) rfl
  · exact gw_t 39 (by decide +kernel) rfl
theorem gwc_6 : ∀ w ∈ u_ws RX6 TX6 2, w ∈ gw := by
  intro w hw
  obtain ⟨k, hk, rfl⟩ := List.mem_map.mp hw
  have hk := List.mem_range.mp hk
  rcases (show k = 0 ∨ k = 1 by omega) with rfl | rfl
  · exact gw_t 168 (by decide +kernel) rfl
  · exact gw_t 170 (by decide +kernel) rfl
theorem gwc_7 : ∀ w ∈ u_ws RX7 TX7 1, w ∈ gw := by
  intro w hw
  obtain ⟨k, hk, rfl⟩ := List.mem_map.mp hw
  have hk := List.mem_range.mp hk
  rcases (show k = 0 by omega) with rfl
  · exact gw_t 180 (by decide +kernel) rfl
theorem gwc_8 : ∀ w ∈ u_ws RX8 TX8 11, w ∈ gw := by
  intro w hw
  obtain ⟨k, hk, rfl⟩ := List.mem_map.mp hw
  have hk := List.mem_range.mp hk
  rcases (show k = 0 ∨ k = 1 ∨ k = 2 ∨ k = 3 ∨ k = 4 ∨ k = 5 ∨ k = 6 ∨ k = 7 ∨ k = 8 ∨ k = 9 ∨ k = 10 by omega) with rfl | rfl | rfl | rfl | rfl | rfl | rfl | rfl | rfl | rfl | rfl
  · exact gw_t 197 (by decide +kernel) rfl
  · exact gw_t 199 (by decide +kernel) rfl
  · exact gw_t 201 (by decide +kernel) rfl
  · exact gw_t 203 (by decide +kernel) rfl
  · exact gw_t 205 (by decide +kernel) rfl
  · exact gw_t 207 (by decide +kernel) rfl
  · exact gw_t 209 (by decide +kernel) rfl
  · exact gw_t 211 (by decide +kernel) rfl
  · exact gw_t 213 (by decide +kernel) rfl
  · exact gw_t 215 (by decide +kernel) rfl
  · exact gw_t 217 (by decide +kernel) rfl
theorem gwc_9 : ∀ w ∈ u_ws RX9 TX9 26, w ∈ gw := by
  intro w hw
  obtain ⟨k, hk, rfl⟩ := List.mem_map.mp hw
  have hk := List.mem_range.mp hk
  rcases (show k = 0 ∨ k = 1 ∨ k = 2 ∨ k = 3 ∨ k = 4 ∨ k = 5 ∨ k = 6 ∨ k = 7 ∨ k = 8 ∨ k = 9 ∨ k = 10 ∨ k = 11 ∨ k = 12 ∨ k = 13 ∨ k = 14 ∨ k = 15 ∨ k = 16 ∨ k = 17 ∨ k = 18 ∨ k = 19 ∨ k = 20 ∨ k = 21 ∨ k = 22 ∨ k = 23 ∨ k = 24 ∨ k = 25 by omega) with rfl | rfl | rfl | rfl | rfl | rfl | rfl | rfl | rfl | rfl | rfl | rfl | rfl | rfl | rfl | rfl | rfl | rfl | rfl | rfl | rfl | rfl | rfl | rfl | rfl | rfl
  · exact gw_t 700 (by decide +kernel) rfl
  · exact gw_t 702 (by decide +kernel) rfl
  · exact gw_t 704 (by decide +kernel) rfl
  · exact gw_t 706 (by decide +kernel) rfl
  · exact gw_t 708 (by decide +kernel) rfl
  · exact gw_t 710 (by decide +kernel) rfl
  · exact gw_t 712 (by decide +kernel) rfl
  · exact gw_t 714 (by decide +kernel) rfl
  · exact gw_t 716 (by decide +kernel) rfl
  · exact gw_t 718 (by decide +kernel) rfl
  · exact gw_t 720 (by decide +kernel) rfl
  · exact gw_t 722 (by decide +kernel) rfl
  · exact gw_t 724 (by decide +kernel) rfl
  · exact gw_t 726 (by decide +kernel) rfl
  · exact gw_t 728 (by decide +kernel) rfl
  · exact gw_t 730 (by decide +kernel) rfl
  · exact gw_t 732 (by decide +kernel) rfl
  · exact gw_t 734 (by decide +kernel) rfl
  · exact gw_t 736 (by decide +kernel) rfl
  · exact gw_t 738 (by decide +kernel) rfl
  · exact gw_t 740 (by decide +kernel) rfl
  · exact gw_t 742 (by decide +kernel) rfl
  · exact gw_t 744 (by decide +kernel) rfl
  · exact gw_t 746 (by decide +kernel) rfl
  · exact gw_t 748 (by decide +kernel) rfl
  · exact gw_t 750 (by decide +kernel) rfl
theorem fl_X5_15 : mi_fl RX5 15 5 2 0 true true := ⟨RX5, TX5, tyX5, by decide, by decide, rfl, gw_t 35 (by decide +kernel) rfl, gwc_5, rfl, tyX5_ok, nmX5, rfl, rfl, Or.inr ⟨_, rfl⟩⟩
theorem fl_X5_21 : mi_fl RX5 21 5 2 1 false false := ⟨RX5, TX5, tyX5, by decide, by decide, rfl, gw_t 36 (by decide +kernel) rfl, gwc_5, rfl, tyX5_ok, nmX5, rfl, rfl, rfl⟩
theorem fl_X4_14 : mi_fl RX4 14 4 9 0 true true := ⟨RX4, TX4, tyX4, by decide, by decide, rfl, gw_t 43 (by decide +kernel) rfl, gwc_4, rfl, tyX4_ok, nmX4, rfl, rfl, Or.inl ⟨_, rfl⟩⟩
theorem fl_X4_25 : mi_fl RX4 25 4 9 1 false false := ⟨RX4, TX4, tyX4, by decide, by decide, rfl, gw_t 44 (by decide +kernel) rfl, gwc_4, rfl, tyX4_ok, nmX4, rfl, rfl, rfl⟩
theorem fl_X4_39 : mi_fl RX4 39 4 9 2 false false := ⟨RX4, TX4, tyX4, by decide, by decide, rfl, gw_t 45 (by decide +kernel) rfl, gwc_4, rfl, tyX4_ok, nmX4, rfl, rfl, rfl⟩
theorem fl_X4_32 : mi_fl RX4 32 4 9 3 false false := ⟨RX4, TX4, tyX4, by decide, by decide, rfl, gw_t 46 (by decide +kernel) rfl, gwc_4, rfl, tyX4_ok, nmX4, rfl, rfl, rfl⟩
theorem fl_X4_62 : mi_fl RX4 62 4 9 4 false false := ⟨RX4, TX4, tyX4, by decide, by decide, rfl, gw_t 47 (by decide +kernel) rfl, gwc_4, rfl, tyX4_ok, nmX4, rfl, rfl, rfl⟩
theorem fl_X4_42 : mi_fl RX4 42 4 9 5 false false := ⟨RX4, TX4, tyX4, by decide, by decide, rfl, gw_t 48 (by decide +kernel) rfl, gwc_4, rfl, tyX4_ok, nmX4, rfl, rfl, rfl⟩
theorem fl_X4_45 : mi_fl RX4 45 4 9 6 false false := ⟨RX4, TX4, tyX4, by decide, by decide, rfl, gw_t 49 (by decide +kernel) rfl, gwc_4, rfl, tyX4_ok, nmX4, rfl, rfl, rfl⟩
theorem fl_X4_48 : mi_fl RX4 48 4 9 7 false false := ⟨RX4, TX4, tyX4, by decide, by decide, rfl, gw_t 50 (by decide +kernel) rfl, gwc_4, rfl, tyX4_ok, nmX4, rfl, rfl, rfl⟩
theorem fl_X4_51 : mi_fl RX4 51 4 9 8 false false := ⟨RX4, TX4, tyX4, by decide, by decide, rfl, gw_t 51 (by decide +kernel) rfl, gwc_4, rfl, tyX4_ok, nmX4, rfl, rfl, rfl⟩
theorem fl_X1_9 : mi_fl RX1 9 1 8 0 true true := ⟨RX1, TX1, tyX1, by decide, by decide, rfl, gw_t 79 (by decide +kernel) rfl, gwc_1, rfl, tyX1_ok, nmX1, rfl, rfl, Or.inr ⟨_, rfl⟩⟩
theorem fl_X1_15 : mi_fl RX1 15 1 8 1 true true := ⟨RX1, TX1, tyX1, by decide, by decide, rfl, gw_t 80 (by decide +kernel) rfl, gwc_1, rfl, tyX1_ok, nmX1, rfl, rfl, Or.inr ⟨_, rfl⟩⟩
theorem fl_X1_18 : mi_fl RX1 18 1 8 2 true true := ⟨RX1, TX1, tyX1, by decide, by decide, rfl, gw_t 81 (by decide +kernel) rfl, gwc_1, rfl, tyX1_ok, nmX1, rfl, rfl, Or.inr ⟨_, rfl⟩⟩
theorem fl_X1_21 : mi_fl RX1 21 1 8 3 true true := ⟨RX1, TX1, tyX1, by decide, by decide, rfl, gw_t 82 (by decide +kernel) rfl, gwc_1, rfl, tyX1_ok, nmX1, rfl, rfl, Or.inr ⟨_, rfl⟩⟩
theorem fl_X1_24 : mi_fl RX1 24 1 8 4 true true := ⟨RX1, TX1, tyX1, by decide, by decide, rfl, gw_t 83 (by decide +kernel) rfl, gwc_1, rfl, tyX1_ok, nmX1, rfl, rfl, Or.inr ⟨_, rfl⟩⟩
theorem fl_X1_27 : mi_fl RX1 27 1 8 5 true true := ⟨RX1, TX1, tyX1, by decide, by decide, rfl, gw_t 84 (by decide +kernel) rfl, gwc_1, rfl, tyX1_ok, nmX1, rfl, rfl, Or.inr ⟨_, rfl⟩⟩
theorem fl_X1_35 : mi_fl RX1 35 1 8 6 true true := ⟨RX1, TX1, tyX1, by decide, by decide, rfl, gw_t 85 (by decide +kernel) rfl, gwc_1, rfl, tyX1_ok, nmX1, rfl, rfl, Or.inl ⟨_, rfl⟩⟩
theorem fl_X1_39 : mi_fl RX1 39 1 8 7 false false := ⟨RX1, TX1, tyX1, by decide, by decide, rfl, gw_t 86 (by decide +kernel) rfl, gwc_1, rfl, tyX1_ok, nmX1, rfl, rfl, rfl⟩
theorem fl_X0_11 : mi_fl RX0 11 0 2 0 true true := ⟨RX0, TX0, tyX0, by decide, by decide, rfl, gw_t 113 (by decide +kernel) rfl, gwc_0, rfl, tyX0_ok, nmX0, rfl, rfl, Or.inr ⟨_, rfl⟩⟩
theorem fl_X0_20 : mi_fl RX0 20 0 2 1 true true := ⟨RX0, TX0, tyX0, by decide, by decide, rfl, gw_t 114 (by decide +kernel) rfl, gwc_0, rfl, tyX0_ok, nmX0, rfl, rfl, Or.inl ⟨_, rfl⟩⟩
theorem fl_X3_11 : mi_fl RX3 11 3 2 0 true true := ⟨RX3, TX3, tyX3, by decide, by decide, rfl, gw_t 129 (by decide +kernel) rfl, gwc_3, rfl, tyX3_ok, nmX3, rfl, rfl, Or.inr ⟨_, rfl⟩⟩
theorem fl_X3_17 : mi_fl RX3 17 3 2 1 true true := ⟨RX3, TX3, tyX3, by decide, by decide, rfl, gw_t 130 (by decide +kernel) rfl, gwc_3, rfl, tyX3_ok, nmX3, rfl, rfl, Or.inr ⟨_, rfl⟩⟩
theorem fl_X2_11 : mi_fl RX2 11 2 4 0 true true := ⟨RX2, TX2, tyX2, by decide, by decide, rfl, gw_t 145 (by decide +kernel) rfl, gwc_2, rfl, tyX2_ok, nmX2, rfl, rfl, Or.inr ⟨_, rfl⟩⟩
theorem fl_X2_17 : mi_fl RX2 17 2 4 1 true true := ⟨RX2, TX2, tyX2, by decide, by decide, rfl, gw_t 146 (by decide +kernel) rfl, gwc_2, rfl, tyX2_ok, nmX2, rfl, rfl, Or.inr ⟨_, rfl⟩⟩
theorem fl_X2_24 : mi_fl RX2 24 2 4 2 false false := ⟨RX2, TX2, tyX2, by decide, by decide, rfl, gw_t 147 (by decide +kernel) rfl, gwc_2, rfl, tyX2_ok, nmX2, rfl, rfl, rfl⟩
theorem fl_X2_28 : mi_fl RX2 28 2 4 3 false false := ⟨RX2, TX2, tyX2, by decide, by decide, rfl, gw_t 148 (by decide +kernel) rfl, gwc_2, rfl, tyX2_ok, nmX2, rfl, rfl, rfl⟩
theorem fl_X6_14 : mi_fl RX6 14 6 2 0 true true := ⟨RX6, TX6, tyX6, by decide, by decide, rfl, gw_t 166 (by decide +kernel) rfl, gwc_6, rfl, tyX6_ok, nmX6, rfl, rfl, Or.inl ⟨_, rfl⟩⟩
theorem fl_X6_20 : mi_fl RX6 20 6 2 1 true true := ⟨RX6, TX6, tyX6, by decide, by decide, rfl, gw_t 167 (by decide +kernel) rfl, gwc_6, rfl, tyX6_ok, nmX6, rfl, rfl, Or.inl ⟨_, rfl⟩⟩
theorem fl_X7_9 : mi_fl RX7 9 7 1 0 true true := ⟨RX7, TX7, tyX7, by decide, by decide, rfl, gw_t 179 (by decide +kernel) rfl, gwc_7, rfl, tyX7_ok, nmX7, rfl, rfl, Or.inr ⟨_, rfl⟩⟩
theorem fl_X8_12 : mi_fl RX8 12 8 11 0 true true := ⟨RX8, TX8, tyX8, by decide, by decide, rfl, gw_t 186 (by decide +kernel) rfl, gwc_8, rfl, tyX8_ok, nmX8, rfl, rfl, Or.inl ⟨_, rfl⟩⟩
theorem fl_X8_19 : mi_fl RX8 19 8 11 1 false true := ⟨RX8, TX8, tyX8, by decide, by decide, rfl, gw_t 187 (by decide +kernel) rfl, gwc_8, rfl, tyX8_ok, nmX8, rfl, rfl, Or.inl ⟨_, rfl⟩⟩
theorem fl_X8_23 : mi_fl RX8 23 8 11 2 false true := ⟨RX8, TX8, tyX8, by decide, by decide, rfl, gw_t 188 (by decide +kernel) rfl, gwc_8, rfl, tyX8_ok, nmX8, rfl, rfl, Or.inl ⟨_, rfl⟩⟩
theorem fl_X8_29 : mi_fl RX8 29 8 11 3 true true := ⟨RX8, TX8, tyX8, by decide, by decide, rfl, gw_t 189 (by decide +kernel) rfl, gwc_8, rfl, tyX8_ok, nmX8, rfl, rfl, Or.inl ⟨_, rfl⟩⟩
theorem fl_X8_36 : mi_fl RX8 36 8 11 4 true true := ⟨RX8, TX8, tyX8, by decide, by decide, rfl, gw_t 190 (by decide +kernel) rfl, gwc_8, rfl, tyX8_ok, nmX8, rfl, rfl, Or.inl ⟨_, rfl⟩⟩
theorem fl_X8_43 : mi_fl RX8 43 8 11 5 true true := ⟨RX8, TX8, tyX8, by decide, by decide, rfl, gw_t 191 (by decide +kernel) rfl, gwc_8, rfl, tyX8_ok, nmX8, rfl, rfl, Or.inl ⟨_, rfl⟩⟩
theorem fl_X8_50 : mi_fl RX8 50 8 11 6 true true := ⟨RX8, TX8, tyX8, by decide, by decide, rfl, gw_t 192 (by decide +kernel) rfl, gwc_8, rfl, tyX8_ok, nmX8, rfl, rfl, Or.inl ⟨_, rfl⟩⟩
theorem fl_X8_57 : mi_fl RX8 57 8 11 7 true true := ⟨RX8, TX8, tyX8, by decide, by decide, rfl, gw_t 193 (by decide +kernel) rfl, gwc_8, rfl, tyX8_ok, nmX8, rfl, rfl, Or.inl ⟨_, rfl⟩⟩
theorem fl_X8_66 : mi_fl RX8 66 8 11 8 true true := ⟨RX8, TX8, tyX8, by decide, by decide, rfl, gw_t 194 (by decide +kernel) rfl, gwc_8, rfl, tyX8_ok, nmX8, rfl, rfl, Or.inl ⟨_, rfl⟩⟩
theorem fl_X8_70 : mi_fl RX8 70 8 11 9 true true := ⟨RX8, TX8, tyX8, by decide, by decide, rfl, gw_t 195 (by decide +kernel) rfl, gwc_8, rfl, tyX8_ok, nmX8, rfl, rfl, Or.inl ⟨_, rfl⟩⟩
theorem fl_X8_73 : mi_fl RX8 73 8 11 10 true true := ⟨RX8, TX8, tyX8, by decide, by decide, rfl, gw_t 196 (by decide +kernel) rfl, gwc_8, rfl, tyX8_ok, nmX8, rfl, rfl, Or.inl ⟨_, rfl⟩⟩
theorem fl_X9_62 : mi_fl RX9 62 9 26 0 false false := ⟨RX9, TX9, tyX9, by decide, by decide, rfl, gw_t 674 (by decide +kernel) rfl, gwc_9, rfl, tyX9_ok, nmX9, rfl, rfl, rfl⟩
theorem fl_X9_7 : mi_fl RX9 7 9 26 1 true true := ⟨RX9, TX9, tyX9, by decide, by decide, rfl, gw_t 675 (by decide +kernel) rfl, gwc_9, rfl, tyX9_ok, nmX9, rfl, rfl, Or.inr ⟨_, rfl⟩⟩
theorem fl_X9_13 : mi_fl RX9 13 9 26 2 true true := ⟨RX9, TX9, tyX9, by decide, by decide, rfl, gw_t 676 (by decide +kernel) rfl, gwc_9, rfl, tyX9_ok, nmX9, rfl, rfl, Or.inr ⟨_, rfl⟩⟩
theorem fl_X9_16 : mi_fl RX9 16 9 26 3 true true := ⟨RX9, TX9, tyX9, by decide, by decide, rfl, gw_t 677 (by decide +kernel) rfl, gwc_9, rfl, tyX9_ok, nmX9, rfl, rfl, Or.inr ⟨_, rfl⟩⟩
theorem fl_X9_19 : mi_fl RX9 19 9 26 4 true true := ⟨RX9, TX9, tyX9, by decide, by decide, rfl, gw_t 678 (by decide +kernel) rfl, gwc_9, rfl, tyX9_ok, nmX9, rfl, rfl, Or.inr ⟨_, rfl⟩⟩
theorem fl_X9_22 : mi_fl RX9 22 9 26 5 true true := ⟨RX9, TX9, tyX9, by decide, by decide, rfl, gw_t 679 (by decide +kernel) rfl, gwc_9, rfl, tyX9_ok, nmX9, rfl, rfl, Or.inr ⟨_, rfl⟩⟩
theorem fl_X9_25 : mi_fl RX9 25 9 26 6 true true := ⟨RX9, TX9, tyX9, by decide, by decide, rfl, gw_t 680 (by decide +kernel) rfl, gwc_9, rfl, tyX9_ok, nmX9, rfl, rfl, Or.inr ⟨_, rfl⟩⟩
theorem fl_X9_28 : mi_fl RX9 28 9 26 7 true true := ⟨RX9, TX9, tyX9, by decide, by decide, rfl, gw_t 681 (by decide +kernel) rfl, gwc_9, rfl, tyX9_ok, nmX9, rfl, rfl, Or.inr ⟨_, rfl⟩⟩
theorem fl_X9_82 : mi_fl RX9 82 9 26 8 false false := ⟨RX9, TX9, tyX9, by decide, by decide, rfl, gw_t 682 (by decide +kernel) rfl, gwc_9, rfl, tyX9_ok, nmX9, rfl, rfl, rfl⟩
theorem fl_X9_85 : mi_fl RX9 85 9 26 9 false false := ⟨RX9, TX9, tyX9, by decide, by decide, rfl, gw_t 683 (by decide +kernel) rfl, gwc_9, rfl, tyX9_ok, nmX9, rfl, rfl, rfl⟩
theorem fl_X9_95 : mi_fl RX9 95 9 26 10 false false := ⟨RX9, TX9, tyX9, by decide, by decide, rfl, gw_t 684 (by decide +kernel) rfl, gwc_9, rfl, tyX9_ok, nmX9, rfl, rfl, rfl⟩
theorem fl_X9_31 : mi_fl RX9 31 9 26 11 true true := ⟨RX9, TX9, tyX9, by decide, by decide, rfl, gw_t 685 (by decide +kernel) rfl, gwc_9, rfl, tyX9_ok, nmX9, rfl, rfl, Or.inr ⟨_, rfl⟩⟩
theorem fl_X9_34 : mi_fl RX9 34 9 26 12 true true := ⟨RX9, TX9, tyX9, by decide, by decide, rfl, gw_t 686 (by decide +kernel) rfl, gwc_9, rfl, tyX9_ok, nmX9, rfl, rfl, Or.inr ⟨_, rfl⟩⟩
theorem fl_X9_37 : mi_fl RX9 37 9 26 13 true true := ⟨RX9, TX9, tyX9, by decide, by decide, rfl, gw_t 687 (by decide +kernel) rfl, gwc_9, rfl, tyX9_ok, nmX9, rfl, rfl, Or.inr ⟨_, rfl⟩⟩
theorem fl_X9_141 : mi_fl RX9 141 9 26 14 false false := ⟨RX9, TX9, tyX9, by decide, by decide, rfl, gw_t 688 (by decide +kernel) rfl, gwc_9, rfl, tyX9_ok, nmX9, rfl, rfl, rfl⟩
theorem fl_X9_40 : mi_fl RX9 40 9 26 15 true true := ⟨RX9, TX9, tyX9, by decide, by decide, rfl, gw_t 689 (by decide +kernel) rfl, gwc_9, rfl, tyX9_ok, nmX9, rfl, rfl, Or.inr ⟨_, rfl⟩⟩
theorem fl_X9_43 : mi_fl RX9 43 9 26 16 true true := ⟨RX9, TX9, tyX9, by decide, by decide, rfl, gw_t 690 (by decide +kernel) rfl, gwc_9, rfl, tyX9_ok, nmX9, rfl, rfl, Or.inr ⟨_, rfl⟩⟩
theorem fl_X9_144 : mi_fl RX9 144 9 26 17 false false := ⟨RX9, TX9, tyX9, by decide, by decide, rfl, gw_t 691 (by decide +kernel) rfl, gwc_9, rfl, tyX9_ok, nmX9, rfl, rfl, rfl⟩
theorem fl_X9_157 : mi_fl RX9 157 9 26 18 false false := ⟨RX9, TX9, tyX9, by decide, by decide, rfl, gw_t 692 (by decide +kernel) rfl, gwc_9, rfl, tyX9_ok, nmX9, rfl, rfl, rfl⟩
theorem fl_X9_46 : mi_fl RX9 46 9 26 19 true true := ⟨RX9, TX9, tyX9, by decide, by decide, rfl, gw_t 693 (by decide +kernel) rfl, gwc_9, rfl, tyX9_ok, nmX9, rfl, rfl, Or.inr ⟨_, rfl⟩⟩
theorem fl_X9_163 : mi_fl RX9 163 9 26 20 false false := ⟨RX9, TX9, tyX9, by decide, by decide, rfl, gw_t 694 (by decide +kernel) rfl, gwc_9, rfl, tyX9_ok, nmX9, rfl, rfl, rfl⟩
theorem fl_X9_49 : mi_fl RX9 49 9 26 21 true true := ⟨RX9, TX9, tyX9, by decide, by decide, rfl, gw_t 695 (by decide +kernel) rfl, gwc_9, rfl, tyX9_ok, nmX9, rfl, rfl, Or.inr ⟨_, rfl⟩⟩
theorem fl_X9_202 : mi_fl RX9 202 9 26 22 false false := ⟨RX9, TX9, tyX9, by decide, by decide, rfl, gw_t 696 (by decide +kernel) rfl, gwc_9, rfl, tyX9_ok, nmX9, rfl, rfl, rfl⟩
theorem fl_X9_52 : mi_fl RX9 52 9 26 23 true true := ⟨RX9, TX9, tyX9, by decide, by decide, rfl, gw_t 697 (by decide +kernel) rfl, gwc_9, rfl, tyX9_ok, nmX9, rfl, rfl, Or.inr ⟨_, rfl⟩⟩
theorem fl_X9_55 : mi_fl RX9 55 9 26 24 true true := ⟨RX9, TX9, tyX9, by decide, by decide, rfl, gw_t 698 (by decide +kernel) rfl, gwc_9, rfl, tyX9_ok, nmX9, rfl, rfl, Or.inr ⟨_, rfl⟩⟩
theorem fl_X9_59 : mi_fl RX9 59 9 26 25 true true := ⟨RX9, TX9, tyX9, by decide, by decide, rfl, gw_t 699 (by decide +kernel) rfl, gwc_9, rfl, tyX9_ok, nmX9, rfl, rfl, Or.inr ⟨_, rfl⟩⟩
theorem cn_L_7 : mi_cn RL 7 8 11 := ⟨RX8, TX8, tyX8, by decide, rfl, gw_t 12 (by decide +kernel) rfl, gw_t 13 (by decide +kernel) rfl, gw_t 1 (by decide +kernel) rfl, gwc_8, tyX8_ok, by
  intro k hk
  rcases (show k = 0 ∨ k = 1 ∨ k = 2 ∨ k = 3 ∨ k = 4 ∨ k = 5 ∨ k = 6 ∨ k = 7 ∨ k = 8 ∨ k = 9 ∨ k = 10 by omega) with rfl | rfl | rfl | rfl | rfl | rfl | rfl | rfl | rfl | rfl | rfl
  · exact Or.inl ⟨_, rfl⟩
  · exact Or.inl ⟨_, rfl⟩
  · exact Or.inl ⟨_, rfl⟩
  · exact Or.inl ⟨_, rfl⟩
  · exact Or.inl ⟨_, rfl⟩
  · exact Or.inl ⟨_, rfl⟩
  · exact Or.inl ⟨_, rfl⟩
  · exact Or.inl ⟨_, rfl⟩
  · exact Or.inl ⟨_, rfl⟩
  · exact Or.inl ⟨_, rfl⟩
  · exact Or.inl ⟨_, rfl⟩⟩
theorem cn_X8_9 : mi_cn RX8 9 4 9 := ⟨RX4, TX4, tyX4, by decide, rfl, gw_t 20 (by decide +kernel) rfl, gw_t 21 (by decide +kernel) rfl, gw_t 2 (by decide +kernel) rfl, gwc_4, tyX4_ok, by
  intro k hk
  rcases (show k = 0 ∨ k = 1 ∨ k = 2 ∨ k = 3 ∨ k = 4 ∨ k = 5 ∨ k = 6 ∨ k = 7 ∨ k = 8 by omega) with rfl | rfl | rfl | rfl | rfl | rfl | rfl | rfl | rfl
  · exact Or.inl ⟨_, rfl⟩
  · exact rfl
  · exact rfl
  · exact rfl
  · exact rfl
  · exact rfl
  · exact rfl
  · exact rfl
  · exact rfl⟩
theorem cn_X4_9 : mi_cn RX4 9 5 2 := ⟨RX5, TX5, tyX5, by decide, rfl, gw_t 26 (by decide +kernel) rfl, gw_t 27 (by decide +kernel) rfl, gw_t 3 (by decide +kernel) rfl, gwc_5, tyX5_ok, by
  intro k hk
  rcases (show k = 0 ∨ k = 1 by omega) with rfl | rfl
  · exact Or.inr ⟨_, rfl⟩
  · exact rfl⟩
theorem cn_X8_16 : mi_cn RX8 16 1 8 := ⟨RX1, TX1, tyX1, by decide, rfl, gw_t 71 (by decide +kernel) rfl, gw_t 72 (by decide +kernel) rfl, gw_t 5 (by decide +kernel) rfl, gwc_1, tyX1_ok, by
  intro k hk
  rcases (show k = 0 ∨ k = 1 ∨ k = 2 ∨ k = 3 ∨ k = 4 ∨ k = 5 ∨ k = 6 ∨ k = 7 by omega) with rfl | rfl | rfl | rfl | rfl | rfl | rfl | rfl
  · exact Or.inr ⟨_, rfl⟩
  · exact Or.inr ⟨_, rfl⟩
  · exact Or.inr ⟨_, rfl⟩
  · exact Or.inr ⟨_, rfl⟩
  · exact Or.inr ⟨_, rfl⟩
  · exact Or.inr ⟨_, rfl⟩
  · exact Or.inl ⟨_, rfl⟩
  · exact rfl⟩
theorem cn_X1_30 : mi_cn RX1 30 5 2 := ⟨RX5, TX5, tyX5, by decide, rfl, gw_t 77 (by decide +kernel) rfl, gw_t 27 (by decide +kernel) rfl, gw_t 3 (by decide +kernel) rfl, gwc_5, tyX5_ok, by
  intro k hk
  rcases (show k = 0 ∨ k = 1 by omega) with rfl | rfl
  · exact Or.inr ⟨_, rfl⟩
  · exact rfl⟩
theorem cn_X8_26 : mi_cn RX8 26 0 2 := ⟨RX0, TX0, tyX0, by decide, rfl, gw_t 104 (by decide +kernel) rfl, gw_t 105 (by decide +kernel) rfl, gw_t 6 (by decide +kernel) rfl, gwc_0, tyX0_ok, by
  intro k hk
  rcases (show k = 0 ∨ k = 1 by omega) with rfl | rfl
  · exact Or.inr ⟨_, rfl⟩
  · exact Or.inl ⟨_, rfl⟩⟩
theorem cn_X0_9 : mi_cn RX0 9 5 2 := ⟨RX5, TX5, tyX5, by decide, rfl, gw_t 110 (by decide +kernel) rfl, gw_t 27 (by decide +kernel) rfl, gw_t 3 (by decide +kernel) rfl, gwc_5, tyX5_ok, by
  intro k hk
  rcases (show k = 0 ∨ k = 1 by omega) with rfl | rfl
  · exact Or.inr ⟨_, rfl⟩
  · exact rfl⟩
theorem cn_X8_33 : mi_cn RX8 33 3 2 := ⟨RX3, TX3, tyX3, by decide, rfl, gw_t 120 (by decide +kernel) rfl, gw_t 121 (by decide +kernel) rfl, gw_t 7 (by decide +kernel) rfl, gwc_3, tyX3_ok, by
  intro k hk
  rcases (show k = 0 ∨ k = 1 by omega) with rfl | rfl
  · exact Or.inr ⟨_, rfl⟩
  · exact Or.inr ⟨_, rfl⟩⟩
theorem cn_X3_9 : mi_cn RX3 9 0 2 := ⟨RX0, TX0, tyX0, by decide, rfl, gw_t 126 (by decide +kernel) rfl, gw_t 105 (by decide +kernel) rfl, gw_t 6 (by decide +kernel) rfl, gwc_0, tyX0_ok, by
  intro k hk
  rcases (show k = 0 ∨ k = 1 by omega) with rfl | rfl
  · exact Or.inr ⟨_, rfl⟩
  · exact Or.inl ⟨_, rfl⟩⟩
theorem cn_X8_40 : mi_cn RX8 40 2 4 := ⟨RX2, TX2, tyX2, by decide, rfl, gw_t 137 (by decide +kernel) rfl, gw_t 138 (by decide +kernel) rfl, gw_t 8 (by decide +kernel) rfl, gwc_2, tyX2_ok, by
  intro k hk
  rcases (show k = 0 ∨ k = 1 ∨ k = 2 ∨ k = 3 by omega) with rfl | rfl | rfl | rfl
  · exact Or.inr ⟨_, rfl⟩
  · exact Or.inr ⟨_, rfl⟩
  · exact rfl
  · exact rfl⟩
theorem cn_X2_9 : mi_cn RX2 9 5 2 := ⟨RX5, TX5, tyX5, by decide, rfl, gw_t 143 (by decide +kernel) rfl, gw_t 27 (by decide +kernel) rfl, gw_t 3 (by decide +kernel) rfl, gwc_5, tyX5_ok, by
  intro k hk
  rcases (show k = 0 ∨ k = 1 by omega) with rfl | rfl
  · exact Or.inr ⟨_, rfl⟩
  · exact rfl⟩
theorem cn_X8_47 : mi_cn RX8 47 6 2 := ⟨RX6, TX6, tyX6, by decide, rfl, gw_t 158 (by decide +kernel) rfl, gw_t 159 (by decide +kernel) rfl, gw_t 9 (by decide +kernel) rfl, gwc_6, tyX6_ok, by
  intro k hk
  rcases (show k = 0 ∨ k = 1 by omega) with rfl | rfl
  · exact Or.inl ⟨_, rfl⟩
  · exact Or.inl ⟨_, rfl⟩⟩
theorem cn_X6_9 : mi_cn RX6 9 5 2 := ⟨RX5, TX5, tyX5, by decide, rfl, gw_t 164 (by decide +kernel) rfl, gw_t 27 (by decide +kernel) rfl, gw_t 3 (by decide +kernel) rfl, gwc_5, tyX5_ok, by
  intro k hk
  rcases (show k = 0 ∨ k = 1 by omega) with rfl | rfl
  · exact Or.inr ⟨_, rfl⟩
  · exact rfl⟩
theorem cn_X8_54 : mi_cn RX8 54 7 1 := ⟨RX7, TX7, tyX7, by decide, rfl, gw_t 173 (by decide +kernel) rfl, gw_t 174 (by decide +kernel) rfl, gw_t 10 (by decide +kernel) rfl, gwc_7, tyX7_ok, by
  intro k hk
  rcases (show k = 0 by omega) with rfl
  · exact Or.inr ⟨_, rfl⟩⟩
theorem cn_X8_61 : mi_cn RX8 61 5 2 := ⟨RX5, TX5, tyX5, by decide, rfl, gw_t 184 (by decide +kernel) rfl, gw_t 27 (by decide +kernel) rfl, gw_t 3 (by decide +kernel) rfl, gwc_5, tyX5_ok, by
  intro k hk
  rcases (show k = 0 ∨ k = 1 by omega) with rfl | rfl
  · exact Or.inr ⟨_, rfl⟩
  · exact rfl⟩
theorem cn_L_10 : mi_cn RL 10 9 26 := ⟨RX9, TX9, tyX9, by decide, rfl, gw_t 668 (by decide +kernel) rfl, gw_t 669 (by decide +kernel) rfl, gw_t 11 (by decide +kernel) rfl, gwc_9, tyX9_ok, by
  intro k hk
  rcases (show k = 0 ∨ k = 1 ∨ k = 2 ∨ k = 3 ∨ k = 4 ∨ k = 5 ∨ k = 6 ∨ k = 7 ∨ k = 8 ∨ k = 9 ∨ k = 10 ∨ k = 11 ∨ k = 12 ∨ k = 13 ∨ k = 14 ∨ k = 15 ∨ k = 16 ∨ k = 17 ∨ k = 18 ∨ k = 19 ∨ k = 20 ∨ k = 21 ∨ k = 22 ∨ k = 23 ∨ k = 24 ∨ k = 25 by omega) with rfl | rfl | rfl | rfl | rfl | rfl | rfl | rfl | rfl | rfl | rfl | rfl | rfl | rfl | rfl | rfl | rfl | rfl | rfl | rfl | rfl | rfl | rfl | rfl | rfl | rfl
  · exact rfl
  · exact Or.inr ⟨_, rfl⟩
  · exact Or.inr ⟨_, rfl⟩
  · exact Or.inr ⟨_, rfl⟩
  · exact Or.inr ⟨_, rfl⟩
  · exact Or.inr ⟨_, rfl⟩
  · exact Or.inr ⟨_, rfl⟩
  · exact Or.inr ⟨_, rfl⟩
  · exact rfl
  · exact rfl
  · exact rfl
  · exact Or.inr ⟨_, rfl⟩
  · exact Or.inr ⟨_, rfl⟩
  · exact Or.inr ⟨_, rfl⟩
  · exact rfl
  · exact Or.inr ⟨_, rfl⟩
  · exact Or.inr ⟨_, rfl⟩
  · exact rfl
  · exact rfl
  · exact Or.inr ⟨_, rfl⟩
  · exact rfl
  · exact Or.inr ⟨_, rfl⟩
  · exact rfl
  · exact Or.inr ⟨_, rfl⟩
  · exact Or.inr ⟨_, rfl⟩
  · exact Or.inr ⟨_, rfl⟩⟩
theorem ke_X0_init : mi_ci mX0_init 0 := ⟨⟨gw_t 108 (by decide +kernel) rfl, gw_t 6 (by decide +kernel) rfl, by decide +kernel⟩, gw_t 107 (by decide +kernel) rfl, rfl⟩
theorem ke_X0_text : mi_cv mX0_text 1 0 := ⟨⟨gw_t 408 (by decide +kernel) rfl, gw_t 6 (by decide +kernel) rfl, by decide +kernel⟩, gw_t 406 (by decide +kernel) rfl, gw_t 407 (by decide +kernel) rfl, _, _, rfl⟩
theorem ke_X0_pipe : mi_cv mX0_pipe 0 0 := ⟨⟨gw_t 607 (by decide +kernel) rfl, gw_t 6 (by decide +kernel) rfl, by decide +kernel⟩, gw_t 605 (by decide +kernel) rfl, gw_t 606 (by decide +kernel) rfl, _, _, rfl⟩
theorem ke_X0_total : mi_cv mX0_total 0 0 := ⟨⟨gw_t 640 (by decide +kernel) rfl, gw_t 6 (by decide +kernel) rfl, by decide +kernel⟩, gw_t 638 (by decide +kernel) rfl, gw_t 639 (by decide +kernel) rfl, _, _, rfl⟩
theorem ke_X0_empty : mi_cv mX0_empty 0 0 := ⟨⟨gw_t 371 (by decide +kernel) rfl, gw_t 6 (by decide +kernel) rfl, by decide +kernel⟩, gw_t 369 (by decide +kernel) rfl, gw_t 370 (by decide +kernel) rfl, _, _, rfl⟩
theorem ke_X0_become : mi_cv mX0_become 1 0 := ⟨⟨gw_t 635 (by decide +kernel) rfl, gw_t 6 (by decide +kernel) rfl, by decide +kernel⟩, gw_t 633 (by decide +kernel) rfl, gw_t 634 (by decide +kernel) rfl, _, _, rfl⟩
theorem ke_X1_init : mi_ci mX1_init 0 := ⟨⟨gw_t 75 (by decide +kernel) rfl, gw_t 5 (by decide +kernel) rfl, by decide +kernel⟩, gw_t 74 (by decide +kernel) rfl, rfl⟩
theorem ke_X1_size : mi_cv mX1_size 0 1 := ⟨⟨gw_t 384 (by decide +kernel) rfl, gw_t 5 (by decide +kernel) rfl, by decide +kernel⟩, gw_t 382 (by decide +kernel) rfl, gw_t 383 (by decide +kernel) rfl, _, _, rfl⟩
theorem ke_X1_holds : mi_cv mX1_holds 1 1 := ⟨⟨gw_t 319 (by decide +kernel) rfl, gw_t 5 (by decide +kernel) rfl, by decide +kernel⟩, gw_t 317 (by decide +kernel) rfl, gw_t 318 (by decide +kernel) rfl, _, _, rfl⟩
theorem ke_X1_isFull : mi_cv mX1_isFull 0 1 := ⟨⟨gw_t 294 (by decide +kernel) rfl, gw_t 5 (by decide +kernel) rfl, by decide +kernel⟩, gw_t 292 (by decide +kernel) rfl, gw_t 293 (by decide +kernel) rfl, _, _, rfl⟩
theorem ke_X1_hasRoomForPair : mi_cv mX1_hasRoomForPair 0 1 := ⟨⟨gw_t 302 (by decide +kernel) rfl, gw_t 5 (by decide +kernel) rfl, by decide +kernel⟩, gw_t 300 (by decide +kernel) rfl, gw_t 301 (by decide +kernel) rfl, _, _, rfl⟩
theorem ke_X1_kindOf : mi_cv mX1_kindOf 1 1 := ⟨⟨gw_t 315 (by decide +kernel) rfl, gw_t 5 (by decide +kernel) rfl, by decide +kernel⟩, gw_t 313 (by decide +kernel) rfl, gw_t 314 (by decide +kernel) rfl, _, _, rfl⟩
theorem ke_X1_classOf : mi_cv mX1_classOf 1 1 := ⟨⟨gw_t 323 (by decide +kernel) rfl, gw_t 5 (by decide +kernel) rfl, by decide +kernel⟩, gw_t 321 (by decide +kernel) rfl, gw_t 322 (by decide +kernel) rfl, _, _, rfl⟩
theorem ke_X1_isBase : mi_cv mX1_isBase 1 1 := ⟨⟨gw_t 487 (by decide +kernel) rfl, gw_t 5 (by decide +kernel) rfl, by decide +kernel⟩, gw_t 485 (by decide +kernel) rfl, gw_t 486 (by decide +kernel) rfl, _, _, rfl⟩
theorem ke_X1_firstOf : mi_cv mX1_firstOf 1 1 := ⟨⟨gw_t 344 (by decide +kernel) rfl, gw_t 5 (by decide +kernel) rfl, by decide +kernel⟩, gw_t 342 (by decide +kernel) rfl, gw_t 343 (by decide +kernel) rfl, _, _, rfl⟩
theorem ke_X1_secondOf : mi_cv mX1_secondOf 1 1 := ⟨⟨gw_t 348 (by decide +kernel) rfl, gw_t 5 (by decide +kernel) rfl, by decide +kernel⟩, gw_t 346 (by decide +kernel) rfl, gw_t 347 (by decide +kernel) rfl, _, _, rfl⟩
theorem ke_X1_pieceCount : mi_cv mX1_pieceCount 1 1 := ⟨⟨gw_t 327 (by decide +kernel) rfl, gw_t 5 (by decide +kernel) rfl, by decide +kernel⟩, gw_t 325 (by decide +kernel) rfl, gw_t 326 (by decide +kernel) rfl, _, _, rfl⟩
theorem ke_X1_piece : mi_cv mX1_piece 2 1 := ⟨⟨gw_t 335 (by decide +kernel) rfl, gw_t 5 (by decide +kernel) rfl, by decide +kernel⟩, gw_t 333 (by decide +kernel) rfl, gw_t 334 (by decide +kernel) rfl, _, _, rfl⟩
theorem ke_X1_pairOf : mi_cv mX1_pairOf 2 1 := ⟨⟨gw_t 339 (by decide +kernel) rfl, gw_t 5 (by decide +kernel) rfl, by decide +kernel⟩, gw_t 337 (by decide +kernel) rfl, gw_t 338 (by decide +kernel) rfl, _, _, rfl⟩
theorem ke_X1_isSecondOfPair : mi_cv mX1_isSecondOfPair 1 1 := ⟨⟨gw_t 544 (by decide +kernel) rfl, gw_t 5 (by decide +kernel) rfl, by decide +kernel⟩, gw_t 542 (by decide +kernel) rfl, gw_t 543 (by decide +kernel) rfl, _, _, rfl⟩
theorem ke_X1_piecesStandAt : mi_cv mX1_piecesStandAt 3 1 := ⟨⟨gw_t 594 (by decide +kernel) rfl, gw_t 5 (by decide +kernel) rfl, by decide +kernel⟩, gw_t 592 (by decide +kernel) rfl, gw_t 593 (by decide +kernel) rfl, _, _, rfl⟩
theorem ke_X1_countKind : mi_cv mX1_countKind 1 1 := ⟨⟨gw_t 667 (by decide +kernel) rfl, gw_t 5 (by decide +kernel) rfl, by decide +kernel⟩, gw_t 665 (by decide +kernel) rfl, gw_t 666 (by decide +kernel) rfl, _, _, rfl⟩
theorem ke_X1_countMarks : mi_cv mX1_countMarks 0 1 := ⟨⟨gw_t 662 (by decide +kernel) rfl, gw_t 5 (by decide +kernel) rfl, by decide +kernel⟩, gw_t 660 (by decide +kernel) rfl, gw_t 661 (by decide +kernel) rfl, _, _, rfl⟩
theorem ke_X1_mayBeFirst : mi_cv mX1_mayBeFirst 1 1 := ⟨⟨gw_t 311 (by decide +kernel) rfl, gw_t 5 (by decide +kernel) rfl, by decide +kernel⟩, gw_t 309 (by decide +kernel) rfl, gw_t 310 (by decide +kernel) rfl, _, _, rfl⟩
theorem ke_X1_mayBeSecond : mi_cv mX1_mayBeSecond 3 1 := ⟨⟨gw_t 331 (by decide +kernel) rfl, gw_t 5 (by decide +kernel) rfl, by decide +kernel⟩, gw_t 329 (by decide +kernel) rfl, gw_t 330 (by decide +kernel) rfl, _, _, rfl⟩
theorem ke_X1_empty : mi_cv mX1_empty 0 1 := ⟨⟨gw_t 255 (by decide +kernel) rfl, gw_t 5 (by decide +kernel) rfl, by decide +kernel⟩, gw_t 253 (by decide +kernel) rfl, gw_t 254 (by decide +kernel) rfl, _, _, rfl⟩
theorem ke_X1_add : mi_cv mX1_add 4 1 := ⟨⟨gw_t 358 (by decide +kernel) rfl, gw_t 5 (by decide +kernel) rfl, by decide +kernel⟩, gw_t 356 (by decide +kernel) rfl, gw_t 357 (by decide +kernel) rfl, _, _, rfl⟩
theorem ke_X1_addPiecesOf : mi_cv mX1_addPiecesOf 1 1 := ⟨⟨gw_t 366 (by decide +kernel) rfl, gw_t 5 (by decide +kernel) rfl, by decide +kernel⟩, gw_t 365 (by decide +kernel) rfl, gw_s 8 (by decide +kernel) rfl, _, _, rfl⟩
theorem ke_X1_addPiece : mi_cv mX1_addPiece 1 1 := ⟨⟨gw_t 362 (by decide +kernel) rfl, gw_t 5 (by decide +kernel) rfl, by decide +kernel⟩, gw_t 361 (by decide +kernel) rfl, gw_s 7 (by decide +kernel) rfl, _, _, rfl⟩
theorem ke_X2_init : mi_ci mX2_init 0 := ⟨⟨gw_t 141 (by decide +kernel) rfl, gw_t 8 (by decide +kernel) rfl, by decide +kernel⟩, gw_t 140 (by decide +kernel) rfl, rfl⟩
theorem ke_X2_known : mi_cv mX2_known 0 2 := ⟨⟨gw_t 512 (by decide +kernel) rfl, gw_t 8 (by decide +kernel) rfl, by decide +kernel⟩, gw_t 510 (by decide +kernel) rfl, gw_t 511 (by decide +kernel) rfl, _, _, rfl⟩
theorem ke_X2_forget : mi_cv mX2_forget 0 2 := ⟨⟨gw_t 380 (by decide +kernel) rfl, gw_t 8 (by decide +kernel) rfl, by decide +kernel⟩, gw_t 378 (by decide +kernel) rfl, gw_t 379 (by decide +kernel) rfl, _, _, rfl⟩
theorem ke_X2_remember : mi_cv mX2_remember 2 2 := ⟨⟨gw_t 412 (by decide +kernel) rfl, gw_t 8 (by decide +kernel) rfl, by decide +kernel⟩, gw_t 410 (by decide +kernel) rfl, gw_t 411 (by decide +kernel) rfl, _, _, rfl⟩
theorem ke_X2_latestText : mi_cv mX2_latestText 0 2 := ⟨⟨gw_t 504 (by decide +kernel) rfl, gw_t 8 (by decide +kernel) rfl, by decide +kernel⟩, gw_t 502 (by decide +kernel) rfl, gw_t 503 (by decide +kernel) rfl, _, _, rfl⟩
theorem ke_X2_giveBack : mi_cv mX2_giveBack 1 2 := ⟨⟨gw_t 508 (by decide +kernel) rfl, gw_t 8 (by decide +kernel) rfl, by decide +kernel⟩, gw_t 506 (by decide +kernel) rfl, gw_t 507 (by decide +kernel) rfl, _, _, rfl⟩
theorem ke_X3_init : mi_ci mX3_init 0 := ⟨⟨gw_t 124 (by decide +kernel) rfl, gw_t 7 (by decide +kernel) rfl, by decide +kernel⟩, gw_t 123 (by decide +kernel) rfl, rfl⟩
theorem ke_X3_image : mi_cv mX3_image 1 3 := ⟨⟨gw_t 649 (by decide +kernel) rfl, gw_t 7 (by decide +kernel) rfl, by decide +kernel⟩, gw_t 647 (by decide +kernel) rfl, gw_t 648 (by decide +kernel) rfl, _, _, rfl⟩
theorem ke_X3_isKept : mi_cv mX3_isKept 1 3 := ⟨⟨gw_t 653 (by decide +kernel) rfl, gw_t 7 (by decide +kernel) rfl, by decide +kernel⟩, gw_t 651 (by decide +kernel) rfl, gw_t 652 (by decide +kernel) rfl, _, _, rfl⟩
theorem ke_X3_take : mi_cv mX3_take 2 3 := ⟨⟨gw_t 631 (by decide +kernel) rfl, gw_t 7 (by decide +kernel) rfl, by decide +kernel⟩, gw_t 629 (by decide +kernel) rfl, gw_t 630 (by decide +kernel) rfl, _, _, rfl⟩
theorem ke_X3_drop : mi_cv mX3_drop 0 3 := ⟨⟨gw_t 376 (by decide +kernel) rfl, gw_t 7 (by decide +kernel) rfl, by decide +kernel⟩, gw_t 374 (by decide +kernel) rfl, gw_t 375 (by decide +kernel) rfl, _, _, rfl⟩
theorem ke_X4_init : mi_ci mX4_init 0 := ⟨⟨gw_t 24 (by decide +kernel) rfl, gw_t 2 (by decide +kernel) rfl, by decide +kernel⟩, gw_t 23 (by decide +kernel) rfl, rfl⟩
theorem ke_X4_typed : mi_cv mX4_typed 0 4 := ⟨⟨gw_t 227 (by decide +kernel) rfl, gw_t 2 (by decide +kernel) rfl, by decide +kernel⟩, gw_t 225 (by decide +kernel) rfl, gw_t 226 (by decide +kernel) rfl, _, _, rfl⟩
theorem ke_X4_readInto : mi_cv mX4_readInto 1 4 := ⟨⟨gw_t 251 (by decide +kernel) rfl, gw_t 2 (by decide +kernel) rfl, by decide +kernel⟩, gw_t 249 (by decide +kernel) rfl, gw_t 250 (by decide +kernel) rfl, _, _, rfl⟩
theorem ke_X4_readCode : mi_cv mX4_readCode 1 4 := ⟨⟨gw_t 290 (by decide +kernel) rfl, gw_t 2 (by decide +kernel) rfl, by decide +kernel⟩, gw_t 289 (by decide +kernel) rfl, gw_s 3 (by decide +kernel) rfl, _, _, rfl⟩
theorem ke_X4_readPlain : mi_cv mX4_readPlain 0 4 := ⟨⟨gw_t 298 (by decide +kernel) rfl, gw_t 2 (by decide +kernel) rfl, by decide +kernel⟩, gw_t 297 (by decide +kernel) rfl, gw_s 4 (by decide +kernel) rfl, _, _, rfl⟩
theorem ke_X4_readSingle : mi_cv mX4_readSingle 1 4 := ⟨⟨gw_t 352 (by decide +kernel) rfl, gw_t 2 (by decide +kernel) rfl, by decide +kernel⟩, gw_t 351 (by decide +kernel) rfl, gw_s 6 (by decide +kernel) rfl, _, _, rfl⟩
theorem ke_X4_readTwo : mi_cv mX4_readTwo 2 4 := ⟨⟨gw_t 307 (by decide +kernel) rfl, gw_t 2 (by decide +kernel) rfl, by decide +kernel⟩, gw_t 306 (by decide +kernel) rfl, gw_s 5 (by decide +kernel) rfl, _, _, rfl⟩
theorem ke_X4_step : mi_cv mX4_step 0 4 := ⟨⟨gw_t 260 (by decide +kernel) rfl, gw_t 2 (by decide +kernel) rfl, by decide +kernel⟩, gw_t 259 (by decide +kernel) rfl, gw_s 0 (by decide +kernel) rfl, _, _, rfl⟩
theorem ke_X4_takeLetters : mi_cv mX4_takeLetters 0 4 := ⟨⟨gw_t 276 (by decide +kernel) rfl, gw_t 2 (by decide +kernel) rfl, by decide +kernel⟩, gw_t 275 (by decide +kernel) rfl, gw_s 1 (by decide +kernel) rfl, _, _, rfl⟩
theorem ke_X4_takeNumber : mi_cv mX4_takeNumber 0 4 := ⟨⟨gw_t 283 (by decide +kernel) rfl, gw_t 2 (by decide +kernel) rfl, by decide +kernel⟩, gw_t 282 (by decide +kernel) rfl, gw_s 2 (by decide +kernel) rfl, _, _, rfl⟩
theorem ke_X4_isLetter : mi_cs mX4_isLetter 1 := ⟨⟨gw_t 272 (by decide +kernel) rfl, gw_t 2 (by decide +kernel) rfl, by decide +kernel⟩, gw_t 271 (by decide +kernel) rfl⟩
theorem ke_X4_isDigit : mi_cs mX4_isDigit 1 := ⟨⟨gw_t 279 (by decide +kernel) rfl, gw_t 2 (by decide +kernel) rfl, by decide +kernel⟩, gw_t 278 (by decide +kernel) rfl⟩
theorem ke_X5_init : mi_ci mX5_init 1 := ⟨⟨gw_t 30 (by decide +kernel) rfl, gw_t 3 (by decide +kernel) rfl, by decide +kernel⟩, gw_t 29 (by decide +kernel) rfl, rfl⟩
theorem ke_X5_length : mi_cv mX5_length 0 5 := ⟨⟨gw_t 235 (by decide +kernel) rfl, gw_t 3 (by decide +kernel) rfl, by decide +kernel⟩, gw_t 233 (by decide +kernel) rfl, gw_t 234 (by decide +kernel) rfl, _, _, rfl⟩
theorem ke_X5_has : mi_cv mX5_has 1 5 := ⟨⟨gw_t 269 (by decide +kernel) rfl, gw_t 3 (by decide +kernel) rfl, by decide +kernel⟩, gw_t 267 (by decide +kernel) rfl, gw_t 268 (by decide +kernel) rfl, _, _, rfl⟩
theorem ke_X5_cell : mi_cv mX5_cell 1 5 := ⟨⟨gw_t 265 (by decide +kernel) rfl, gw_t 3 (by decide +kernel) rfl, by decide +kernel⟩, gw_t 263 (by decide +kernel) rfl, gw_t 264 (by decide +kernel) rfl, _, _, rfl⟩
theorem ke_X5_setCell : mi_cv mX5_setCell 2 5 := ⟨⟨gw_t 476 (by decide +kernel) rfl, gw_t 3 (by decide +kernel) rfl, by decide +kernel⟩, gw_t 474 (by decide +kernel) rfl, gw_t 475 (by decide +kernel) rfl, _, _, rfl⟩
theorem ke_X5_swapWithNext : mi_cv mX5_swapWithNext 1 5 := ⟨⟨gw_t 467 (by decide +kernel) rfl, gw_t 3 (by decide +kernel) rfl, by decide +kernel⟩, gw_t 465 (by decide +kernel) rfl, gw_t 466 (by decide +kernel) rfl, _, _, rfl⟩
theorem ke_X5_empty : mi_cv mX5_empty 0 5 := ⟨⟨gw_t 243 (by decide +kernel) rfl, gw_t 3 (by decide +kernel) rfl, by decide +kernel⟩, gw_t 241 (by decide +kernel) rfl, gw_t 242 (by decide +kernel) rfl, _, _, rfl⟩
theorem ke_X5_push : mi_cv mX5_push 1 5 := ⟨⟨gw_t 231 (by decide +kernel) rfl, gw_t 3 (by decide +kernel) rfl, by decide +kernel⟩, gw_t 229 (by decide +kernel) rfl, gw_t 230 (by decide +kernel) rfl, _, _, rfl⟩
theorem ke_X5_shorten : mi_cv mX5_shorten 1 5 := ⟨⟨gw_t 432 (by decide +kernel) rfl, gw_t 3 (by decide +kernel) rfl, by decide +kernel⟩, gw_t 430 (by decide +kernel) rfl, gw_t 431 (by decide +kernel) rfl, _, _, rfl⟩
theorem ke_X5_become : mi_cv mX5_become 1 5 := ⟨⟨gw_t 416 (by decide +kernel) rfl, gw_t 3 (by decide +kernel) rfl, by decide +kernel⟩, gw_t 414 (by decide +kernel) rfl, gw_t 415 (by decide +kernel) rfl, _, _, rfl⟩
theorem ke_X5_extend : mi_cv mX5_extend 1 5 := ⟨⟨gw_t 420 (by decide +kernel) rfl, gw_t 3 (by decide +kernel) rfl, by decide +kernel⟩, gw_t 418 (by decide +kernel) rfl, gw_t 419 (by decide +kernel) rfl, _, _, rfl⟩
theorem ke_X5_isLike : mi_cv mX5_isLike 1 5 := ⟨⟨gw_t 552 (by decide +kernel) rfl, gw_t 3 (by decide +kernel) rfl, by decide +kernel⟩, gw_t 550 (by decide +kernel) rfl, gw_t 551 (by decide +kernel) rfl, _, _, rfl⟩
theorem ke_X5_alikeAhead : mi_cv mX5_alikeAhead 1 5 := ⟨⟨gw_t 556 (by decide +kernel) rfl, gw_t 3 (by decide +kernel) rfl, by decide +kernel⟩, gw_t 554 (by decide +kernel) rfl, gw_t 555 (by decide +kernel) rfl, _, _, rfl⟩
theorem ke_X5_alikeBehind : mi_cv mX5_alikeBehind 1 5 := ⟨⟨gw_t 572 (by decide +kernel) rfl, gw_t 3 (by decide +kernel) rfl, by decide +kernel⟩, gw_t 570 (by decide +kernel) rfl, gw_t 571 (by decide +kernel) rfl, _, _, rfl⟩
theorem ke_X6_init : mi_ci mX6_init 0 := ⟨⟨gw_t 162 (by decide +kernel) rfl, gw_t 9 (by decide +kernel) rfl, by decide +kernel⟩, gw_t 161 (by decide +kernel) rfl, rfl⟩
theorem ke_X6_make : mi_cv mX6_make 4 6 := ⟨⟨gw_t 448 (by decide +kernel) rfl, gw_t 9 (by decide +kernel) rfl, by decide +kernel⟩, gw_t 446 (by decide +kernel) rfl, gw_t 447 (by decide +kernel) rfl, _, _, rfl⟩
theorem ke_X6_makeOfBoth : mi_cv mX6_makeOfBoth 5 6 := ⟨⟨gw_t 565 (by decide +kernel) rfl, gw_t 9 (by decide +kernel) rfl, by decide +kernel⟩, gw_t 563 (by decide +kernel) rfl, gw_t 564 (by decide +kernel) rfl, _, _, rfl⟩
theorem ke_X6_goThrough : mi_cv mX6_goThrough 3 6 := ⟨⟨gw_t 619 (by decide +kernel) rfl, gw_t 9 (by decide +kernel) rfl, by decide +kernel⟩, gw_t 617 (by decide +kernel) rfl, gw_t 618 (by decide +kernel) rfl, _, _, rfl⟩
theorem ke_X6_isSorted : mi_cv mX6_isSorted 2 6 := ⟨⟨gw_t 536 (by decide +kernel) rfl, gw_t 9 (by decide +kernel) rfl, by decide +kernel⟩, gw_t 534 (by decide +kernel) rfl, gw_t 535 (by decide +kernel) rfl, _, _, rfl⟩
theorem ke_X6_takeApart : mi_cv mX6_takeApart 3 6 := ⟨⟨gw_t 453 (by decide +kernel) rfl, gw_t 9 (by decide +kernel) rfl, by decide +kernel⟩, gw_t 452 (by decide +kernel) rfl, gw_s 9 (by decide +kernel) rfl, _, _, rfl⟩
theorem ke_X6_sort : mi_cv mX6_sort 2 6 := ⟨⟨gw_t 462 (by decide +kernel) rfl, gw_t 9 (by decide +kernel) rfl, by decide +kernel⟩, gw_t 461 (by decide +kernel) rfl, gw_s 10 (by decide +kernel) rfl, _, _, rfl⟩
theorem ke_X6_join : mi_cv mX6_join 2 6 := ⟨⟨gw_t 471 (by decide +kernel) rfl, gw_t 9 (by decide +kernel) rfl, by decide +kernel⟩, gw_t 470 (by decide +kernel) rfl, gw_s 11 (by decide +kernel) rfl, _, _, rfl⟩
theorem ke_X6_dropMarks : mi_cv mX6_dropMarks 2 6 := ⟨⟨gw_t 483 (by decide +kernel) rfl, gw_t 9 (by decide +kernel) rfl, by decide +kernel⟩, gw_t 482 (by decide +kernel) rfl, gw_s 12 (by decide +kernel) rfl, _, _, rfl⟩
theorem ke_X6_turn : mi_cv mX6_turn 2 6 := ⟨⟨gw_t 491 (by decide +kernel) rfl, gw_t 9 (by decide +kernel) rfl, by decide +kernel⟩, gw_t 490 (by decide +kernel) rfl, gw_s 13 (by decide +kernel) rfl, _, _, rfl⟩
theorem ke_X6_takeFirst : mi_cv mX6_takeFirst 3 6 := ⟨⟨gw_t 495 (by decide +kernel) rfl, gw_t 9 (by decide +kernel) rfl, by decide +kernel⟩, gw_t 494 (by decide +kernel) rfl, gw_s 14 (by decide +kernel) rfl, _, _, rfl⟩
theorem ke_X7_init : mi_ci mX7_init 0 := ⟨⟨gw_t 177 (by decide +kernel) rfl, gw_t 10 (by decide +kernel) rfl, by decide +kernel⟩, gw_t 176 (by decide +kernel) rfl, rfl⟩
theorem ke_X7_waysToSpell : mi_cv mX7_waysToSpell 2 7 := ⟨⟨gw_t 582 (by decide +kernel) rfl, gw_t 10 (by decide +kernel) rfl, by decide +kernel⟩, gw_t 580 (by decide +kernel) rfl, gw_t 581 (by decide +kernel) rfl, _, _, rfl⟩
theorem ke_X7_waysUpTo : mi_cv mX7_waysUpTo 3 7 := ⟨⟨gw_t 588 (by decide +kernel) rfl, gw_t 10 (by decide +kernel) rfl, by decide +kernel⟩, gw_t 587 (by decide +kernel) rfl, gw_s 17 (by decide +kernel) rfl, _, _, rfl⟩
theorem ke_X8_init : mi_ci mX8_init 0 := ⟨⟨gw_t 16 (by decide +kernel) rfl, gw_t 1 (by decide +kernel) rfl, by decide +kernel⟩, gw_t 15 (by decide +kernel) rfl, rfl⟩
theorem ke_X8_type : mi_cv mX8_type 1 8 := ⟨⟨gw_t 223 (by decide +kernel) rfl, gw_t 1 (by decide +kernel) rfl, by decide +kernel⟩, gw_t 221 (by decide +kernel) rfl, gw_t 222 (by decide +kernel) rfl, _, _, rfl⟩
theorem ke_X8_clear : mi_cv mX8_clear 0 8 := ⟨⟨gw_t 239 (by decide +kernel) rfl, gw_t 1 (by decide +kernel) rfl, by decide +kernel⟩, gw_t 237 (by decide +kernel) rfl, gw_t 238 (by decide +kernel) rfl, _, _, rfl⟩
theorem ke_X8_tables : mi_cv mX8_tables 0 8 := ⟨⟨gw_t 247 (by decide +kernel) rfl, gw_t 1 (by decide +kernel) rfl, by decide +kernel⟩, gw_t 245 (by decide +kernel) rfl, gw_t 246 (by decide +kernel) rfl, _, _, rfl⟩
theorem ke_X8_code : mi_cv mX8_code 2 8 := ⟨⟨gw_t 388 (by decide +kernel) rfl, gw_t 1 (by decide +kernel) rfl, by decide +kernel⟩, gw_t 386 (by decide +kernel) rfl, gw_t 387 (by decide +kernel) rfl, _, _, rfl⟩
theorem ke_X8_pair : mi_cv mX8_pair 2 8 := ⟨⟨gw_t 399 (by decide +kernel) rfl, gw_t 1 (by decide +kernel) rfl, by decide +kernel⟩, gw_t 397 (by decide +kernel) rfl, gw_t 398 (by decide +kernel) rfl, _, _, rfl⟩
theorem ke_X8_puts : mi_cv mX8_puts 2 8 := ⟨⟨gw_t 404 (by decide +kernel) rfl, gw_t 1 (by decide +kernel) rfl, by decide +kernel⟩, gw_t 402 (by decide +kernel) rfl, gw_t 403 (by decide +kernel) rfl, _, _, rfl⟩
theorem ke_X8_cuts : mi_cv mX8_cuts 1 8 := ⟨⟨gw_t 427 (by decide +kernel) rfl, gw_t 1 (by decide +kernel) rfl, by decide +kernel⟩, gw_t 425 (by decide +kernel) rfl, gw_t 426 (by decide +kernel) rfl, _, _, rfl⟩
theorem ke_X8_appends : mi_cv mX8_appends 2 8 := ⟨⟨gw_t 436 (by decide +kernel) rfl, gw_t 1 (by decide +kernel) rfl, by decide +kernel⟩, gw_t 434 (by decide +kernel) rfl, gw_t 435 (by decide +kernel) rfl, _, _, rfl⟩
theorem ke_X8_forms : mi_cv mX8_forms 2 8 := ⟨⟨gw_t 441 (by decide +kernel) rfl, gw_t 1 (by decide +kernel) rfl, by decide +kernel⟩, gw_t 439 (by decide +kernel) rfl, gw_t 440 (by decide +kernel) rfl, _, _, rfl⟩
theorem ke_X8_undo : mi_cv mX8_undo 0 8 := ⟨⟨gw_t 500 (by decide +kernel) rfl, gw_t 1 (by decide +kernel) rfl, by decide +kernel⟩, gw_t 498 (by decide +kernel) rfl, gw_t 499 (by decide +kernel) rfl, _, _, rfl⟩
theorem ke_X8_at : mi_cv mX8_at 2 8 := ⟨⟨gw_t 516 (by decide +kernel) rfl, gw_t 1 (by decide +kernel) rfl, by decide +kernel⟩, gw_t 514 (by decide +kernel) rfl, gw_t 515 (by decide +kernel) rfl, _, _, rfl⟩
theorem ke_X8_ruled : mi_cv mX8_ruled 3 8 := ⟨⟨gw_t 524 (by decide +kernel) rfl, gw_t 1 (by decide +kernel) rfl, by decide +kernel⟩, gw_t 522 (by decide +kernel) rfl, gw_t 523 (by decide +kernel) rfl, _, _, rfl⟩
theorem ke_X8_quick : mi_cv mX8_quick 2 8 := ⟨⟨gw_t 528 (by decide +kernel) rfl, gw_t 1 (by decide +kernel) rfl, by decide +kernel⟩, gw_t 526 (by decide +kernel) rfl, gw_t 527 (by decide +kernel) rfl, _, _, rfl⟩
theorem ke_X8_same : mi_cv mX8_same 3 8 := ⟨⟨gw_t 548 (by decide +kernel) rfl, gw_t 1 (by decide +kernel) rfl, by decide +kernel⟩, gw_t 546 (by decide +kernel) rfl, gw_t 547 (by decide +kernel) rfl, _, _, rfl⟩
theorem ke_X8_seam : mi_cv mX8_seam 4 8 := ⟨⟨gw_t 561 (by decide +kernel) rfl, gw_t 1 (by decide +kernel) rfl, by decide +kernel⟩, gw_t 559 (by decide +kernel) rfl, gw_t 560 (by decide +kernel) rfl, _, _, rfl⟩
theorem ke_X8_spellings : mi_cv mX8_spellings 1 8 := ⟨⟨gw_t 577 (by decide +kernel) rfl, gw_t 1 (by decide +kernel) rfl, by decide +kernel⟩, gw_t 575 (by decide +kernel) rfl, gw_t 576 (by decide +kernel) rfl, _, _, rfl⟩
theorem ke_X8_pipes : mi_cv mX8_pipes 1 8 := ⟨⟨gw_t 603 (by decide +kernel) rfl, gw_t 1 (by decide +kernel) rfl, by decide +kernel⟩, gw_t 601 (by decide +kernel) rfl, gw_t 602 (by decide +kernel) rfl, _, _, rfl⟩
theorem ke_X8_unpipe : mi_cv mX8_unpipe 0 8 := ⟨⟨gw_t 611 (by decide +kernel) rfl, gw_t 1 (by decide +kernel) rfl, by decide +kernel⟩, gw_t 609 (by decide +kernel) rfl, gw_t 610 (by decide +kernel) rfl, _, _, rfl⟩
theorem ke_X8_piped : mi_cv mX8_piped 2 8 := ⟨⟨gw_t 615 (by decide +kernel) rfl, gw_t 1 (by decide +kernel) rfl, by decide +kernel⟩, gw_t 613 (by decide +kernel) rfl, gw_t 614 (by decide +kernel) rfl, _, _, rfl⟩
theorem ke_X8_fixed : mi_cv mX8_fixed 1 8 := ⟨⟨gw_t 623 (by decide +kernel) rfl, gw_t 1 (by decide +kernel) rfl, by decide +kernel⟩, gw_t 621 (by decide +kernel) rfl, gw_t 622 (by decide +kernel) rfl, _, _, rfl⟩
theorem ke_X8_keep : mi_cv mX8_keep 1 8 := ⟨⟨gw_t 627 (by decide +kernel) rfl, gw_t 1 (by decide +kernel) rfl, by decide +kernel⟩, gw_t 625 (by decide +kernel) rfl, gw_t 626 (by decide +kernel) rfl, _, _, rfl⟩
theorem ke_X8_back : mi_cv mX8_back 1 8 := ⟨⟨gw_t 645 (by decide +kernel) rfl, gw_t 1 (by decide +kernel) rfl, by decide +kernel⟩, gw_t 643 (by decide +kernel) rfl, gw_t 644 (by decide +kernel) rfl, _, _, rfl⟩
theorem ke_X8_count : mi_cv mX8_count 1 8 := ⟨⟨gw_t 658 (by decide +kernel) rfl, gw_t 1 (by decide +kernel) rfl, by decide +kernel⟩, gw_t 656 (by decide +kernel) rfl, gw_t 657 (by decide +kernel) rfl, _, _, rfl⟩
theorem ke_X8_isRule : mi_cs mX8_isRule 1 := ⟨⟨gw_t 444 (by decide +kernel) rfl, gw_t 1 (by decide +kernel) rfl, by decide +kernel⟩, gw_t 443 (by decide +kernel) rfl⟩
theorem ke_X8_look : mi_cs mX8_look 2 := ⟨⟨gw_t 519 (by decide +kernel) rfl, gw_t 1 (by decide +kernel) rfl, by decide +kernel⟩, gw_t 518 (by decide +kernel) rfl⟩
theorem ke_X8_quickApart : mi_cv mX8_quickApart 1 8 := ⟨⟨gw_t 532 (by decide +kernel) rfl, gw_t 1 (by decide +kernel) rfl, by decide +kernel⟩, gw_t 531 (by decide +kernel) rfl, gw_s 15 (by decide +kernel) rfl, _, _, rfl⟩
theorem ke_X8_quickJoined : mi_cv mX8_quickJoined 1 8 := ⟨⟨gw_t 540 (by decide +kernel) rfl, gw_t 1 (by decide +kernel) rfl, by decide +kernel⟩, gw_t 539 (by decide +kernel) rfl, gw_s 16 (by decide +kernel) rfl, _, _, rfl⟩
theorem ke_X9_init : mi_ci mX9_init 0 := ⟨⟨gw_t 672 (by decide +kernel) rfl, gw_t 11 (by decide +kernel) rfl, by decide +kernel⟩, gw_t 671 (by decide +kernel) rfl, rfl⟩
theorem ke_X9_in : mi_cs mX9_in 3 := ⟨⟨gw_t 763 (by decide +kernel) rfl, gw_t 11 (by decide +kernel) rfl, by decide +kernel⟩, gw_t 762 (by decide +kernel) rfl⟩
theorem ke_X9_isCode : mi_cv mX9_isCode 1 9 := ⟨⟨gw_t 760 (by decide +kernel) rfl, gw_t 11 (by decide +kernel) rfl, by decide +kernel⟩, gw_t 759 (by decide +kernel) rfl, gw_s 18 (by decide +kernel) rfl, _, _, rfl⟩
theorem ke_X9_sortMany : mi_cv mX9_sortMany 1 9 := ⟨⟨gw_t 807 (by decide +kernel) rfl, gw_t 11 (by decide +kernel) rfl, by decide +kernel⟩, gw_t 806 (by decide +kernel) rfl, gw_s 25 (by decide +kernel) rfl, _, _, rfl⟩
theorem ke_X9_pairOf : mi_cv mX9_pairOf 2 9 := ⟨⟨gw_t 771 (by decide +kernel) rfl, gw_t 11 (by decide +kernel) rfl, by decide +kernel⟩, gw_t 770 (by decide +kernel) rfl, gw_s 19 (by decide +kernel) rfl, _, _, rfl⟩
theorem ke_X9_comes : mi_cv mX9_comes 4 9 := ⟨⟨gw_t 819 (by decide +kernel) rfl, gw_t 11 (by decide +kernel) rfl, by decide +kernel⟩, gw_t 818 (by decide +kernel) rfl, gw_s 28 (by decide +kernel) rfl, _, _, rfl⟩
theorem ke_X9_comesPiece : mi_cv mX9_comesPiece 2 9 := ⟨⟨gw_t 823 (by decide +kernel) rfl, gw_t 11 (by decide +kernel) rfl, by decide +kernel⟩, gw_t 822 (by decide +kernel) rfl, gw_s 29 (by decide +kernel) rfl, _, _, rfl⟩
theorem ke_X9_code : mi_cv mX9_code 2 9 := ⟨⟨gw_t 756 (by decide +kernel) rfl, gw_t 11 (by decide +kernel) rfl, by decide +kernel⟩, gw_t 754 (by decide +kernel) rfl, gw_t 755 (by decide +kernel) rfl, _, _, rfl⟩
theorem ke_X9_pair : mi_cv mX9_pair 2 9 := ⟨⟨gw_t 767 (by decide +kernel) rfl, gw_t 11 (by decide +kernel) rfl, by decide +kernel⟩, gw_t 765 (by decide +kernel) rfl, gw_t 766 (by decide +kernel) rfl, _, _, rfl⟩
theorem ke_X9_type : mi_cv mX9_type 1 9 := ⟨⟨gw_t 775 (by decide +kernel) rfl, gw_t 11 (by decide +kernel) rfl, by decide +kernel⟩, gw_t 773 (by decide +kernel) rfl, gw_t 774 (by decide +kernel) rfl, _, _, rfl⟩
theorem ke_X9_clear : mi_cv mX9_clear 0 9 := ⟨⟨gw_t 779 (by decide +kernel) rfl, gw_t 11 (by decide +kernel) rfl, by decide +kernel⟩, gw_t 777 (by decide +kernel) rfl, gw_t 778 (by decide +kernel) rfl, _, _, rfl⟩
theorem ke_X9_here : mi_cv mX9_here 0 9 := ⟨⟨gw_t 799 (by decide +kernel) rfl, gw_t 11 (by decide +kernel) rfl, by decide +kernel⟩, gw_t 798 (by decide +kernel) rfl, gw_s 23 (by decide +kernel) rfl, _, _, rfl⟩
theorem ke_X9_skip : mi_cv mX9_skip 0 9 := ⟨⟨gw_t 795 (by decide +kernel) rfl, gw_t 11 (by decide +kernel) rfl, by decide +kernel⟩, gw_t 794 (by decide +kernel) rfl, gw_s 22 (by decide +kernel) rfl, _, _, rfl⟩
theorem ke_X9_number : mi_cv mX9_number 2 9 := ⟨⟨gw_t 815 (by decide +kernel) rfl, gw_t 11 (by decide +kernel) rfl, by decide +kernel⟩, gw_t 814 (by decide +kernel) rfl, gw_s 27 (by decide +kernel) rfl, _, _, rfl⟩
theorem ke_X9_ends : mi_cv mX9_ends 0 9 := ⟨⟨gw_t 827 (by decide +kernel) rfl, gw_t 11 (by decide +kernel) rfl, by decide +kernel⟩, gw_t 826 (by decide +kernel) rfl, gw_s 30 (by decide +kernel) rfl, _, _, rfl⟩
theorem ke_X9_readsPlain : mi_cv mX9_readsPlain 0 9 := ⟨⟨gw_t 811 (by decide +kernel) rfl, gw_t 11 (by decide +kernel) rfl, by decide +kernel⟩, gw_t 810 (by decide +kernel) rfl, gw_s 26 (by decide +kernel) rfl, _, _, rfl⟩
theorem ke_X9_mayBegin : mi_cv mX9_mayBegin 1 9 := ⟨⟨gw_t 839 (by decide +kernel) rfl, gw_t 11 (by decide +kernel) rfl, by decide +kernel⟩, gw_t 838 (by decide +kernel) rfl, gw_s 33 (by decide +kernel) rfl, _, _, rfl⟩
theorem ke_X9_mayFollow : mi_cv mX9_mayFollow 3 9 := ⟨⟨gw_t 843 (by decide +kernel) rfl, gw_t 11 (by decide +kernel) rfl, by decide +kernel⟩, gw_t 842 (by decide +kernel) rfl, gw_s 34 (by decide +kernel) rfl, _, _, rfl⟩
theorem ke_X9_readsTwo : mi_cv mX9_readsTwo 1 9 := ⟨⟨gw_t 835 (by decide +kernel) rfl, gw_t 11 (by decide +kernel) rfl, by decide +kernel⟩, gw_t 834 (by decide +kernel) rfl, gw_s 32 (by decide +kernel) rfl, _, _, rfl⟩
theorem ke_X9_readsSingle : mi_cv mX9_readsSingle 0 9 := ⟨⟨gw_t 831 (by decide +kernel) rfl, gw_t 11 (by decide +kernel) rfl, by decide +kernel⟩, gw_t 830 (by decide +kernel) rfl, gw_s 31 (by decide +kernel) rfl, _, _, rfl⟩
theorem ke_X9_readsCode : mi_cv mX9_readsCode 0 9 := ⟨⟨gw_t 803 (by decide +kernel) rfl, gw_t 11 (by decide +kernel) rfl, by decide +kernel⟩, gw_t 802 (by decide +kernel) rfl, gw_s 24 (by decide +kernel) rfl, _, _, rfl⟩
theorem ke_X9_readsAll : mi_cv mX9_readsAll 0 9 := ⟨⟨gw_t 791 (by decide +kernel) rfl, gw_t 11 (by decide +kernel) rfl, by decide +kernel⟩, gw_t 790 (by decide +kernel) rfl, gw_s 21 (by decide +kernel) rfl, _, _, rfl⟩
theorem ke_X9_lays : mi_cv mX9_lays 0 9 := ⟨⟨gw_t 787 (by decide +kernel) rfl, gw_t 11 (by decide +kernel) rfl, by decide +kernel⟩, gw_t 786 (by decide +kernel) rfl, gw_s 20 (by decide +kernel) rfl, _, _, rfl⟩
theorem ke_X9_takes : mi_cv mX9_takes 0 9 := ⟨⟨gw_t 847 (by decide +kernel) rfl, gw_t 11 (by decide +kernel) rfl, by decide +kernel⟩, gw_t 846 (by decide +kernel) rfl, gw_s 35 (by decide +kernel) rfl, _, _, rfl⟩
theorem ke_X9_tables : mi_cv mX9_tables 0 9 := ⟨⟨gw_t 783 (by decide +kernel) rfl, gw_t 11 (by decide +kernel) rfl, by decide +kernel⟩, gw_t 781 (by decide +kernel) rfl, gw_t 782 (by decide +kernel) rfl, _, _, rfl⟩
theorem ke_X9_isText : mi_cs mX9_isText 1 := ⟨⟨gw_t 854 (by decide +kernel) rfl, gw_t 11 (by decide +kernel) rfl, by decide +kernel⟩, gw_t 853 (by decide +kernel) rfl⟩
theorem ke_X9_isRule : mi_cs mX9_isRule 1 := ⟨⟨gw_t 877 (by decide +kernel) rfl, gw_t 11 (by decide +kernel) rfl, by decide +kernel⟩, gw_t 876 (by decide +kernel) rfl⟩
theorem ke_X9_notes : mi_cv mX9_notes 1 9 := ⟨⟨gw_t 858 (by decide +kernel) rfl, gw_t 11 (by decide +kernel) rfl, by decide +kernel⟩, gw_t 857 (by decide +kernel) rfl, gw_s 36 (by decide +kernel) rfl, _, _, rfl⟩
theorem ke_X9_adds : mi_cv mX9_adds 2 9 := ⟨⟨gw_t 862 (by decide +kernel) rfl, gw_t 11 (by decide +kernel) rfl, by decide +kernel⟩, gw_t 861 (by decide +kernel) rfl, gw_s 37 (by decide +kernel) rfl, _, _, rfl⟩
theorem ke_X9_puts : mi_cv mX9_puts 2 9 := ⟨⟨gw_t 851 (by decide +kernel) rfl, gw_t 11 (by decide +kernel) rfl, by decide +kernel⟩, gw_t 849 (by decide +kernel) rfl, gw_t 850 (by decide +kernel) rfl, _, _, rfl⟩
theorem ke_X9_cuts : mi_cv mX9_cuts 1 9 := ⟨⟨gw_t 866 (by decide +kernel) rfl, gw_t 11 (by decide +kernel) rfl, by decide +kernel⟩, gw_t 864 (by decide +kernel) rfl, gw_t 865 (by decide +kernel) rfl, _, _, rfl⟩
theorem ke_X9_appends : mi_cv mX9_appends 2 9 := ⟨⟨gw_t 870 (by decide +kernel) rfl, gw_t 11 (by decide +kernel) rfl, by decide +kernel⟩, gw_t 868 (by decide +kernel) rfl, gw_t 869 (by decide +kernel) rfl, _, _, rfl⟩
theorem ke_X9_comeOut : mi_cv mX9_comeOut 1 9 := ⟨⟨gw_t 881 (by decide +kernel) rfl, gw_t 11 (by decide +kernel) rfl, by decide +kernel⟩, gw_t 880 (by decide +kernel) rfl, gw_s 38 (by decide +kernel) rfl, _, _, rfl⟩
theorem ke_X9_addsOut : mi_cv mX9_addsOut 1 9 := ⟨⟨gw_t 885 (by decide +kernel) rfl, gw_t 11 (by decide +kernel) rfl, by decide +kernel⟩, gw_t 884 (by decide +kernel) rfl, gw_s 39 (by decide +kernel) rfl, _, _, rfl⟩
theorem ke_X9_asOther : mi_cv mX9_asOther 0 9 := ⟨⟨gw_t 897 (by decide +kernel) rfl, gw_t 11 (by decide +kernel) rfl, by decide +kernel⟩, gw_t 896 (by decide +kernel) rfl, gw_s 42 (by decide +kernel) rfl, _, _, rfl⟩
theorem ke_X9_comeApart : mi_cv mX9_comeApart 0 9 := ⟨⟨gw_t 893 (by decide +kernel) rfl, gw_t 11 (by decide +kernel) rfl, by decide +kernel⟩, gw_t 892 (by decide +kernel) rfl, gw_s 41 (by decide +kernel) rfl, _, _, rfl⟩
theorem ke_X9_sorts : mi_cv mX9_sorts 0 9 := ⟨⟨gw_t 901 (by decide +kernel) rfl, gw_t 11 (by decide +kernel) rfl, by decide +kernel⟩, gw_t 900 (by decide +kernel) rfl, gw_s 43 (by decide +kernel) rfl, _, _, rfl⟩
theorem ke_X9_joins : mi_cv mX9_joins 0 9 := ⟨⟨gw_t 905 (by decide +kernel) rfl, gw_t 11 (by decide +kernel) rfl, by decide +kernel⟩, gw_t 904 (by decide +kernel) rfl, gw_s 44 (by decide +kernel) rfl, _, _, rfl⟩
theorem ke_X9_isBlocked : mi_cv mX9_isBlocked 2 9 := ⟨⟨gw_t 909 (by decide +kernel) rfl, gw_t 11 (by decide +kernel) rfl, by decide +kernel⟩, gw_t 908 (by decide +kernel) rfl, gw_s 45 (by decide +kernel) rfl, _, _, rfl⟩
theorem ke_X9_keepsBases : mi_cv mX9_keepsBases 0 9 := ⟨⟨gw_t 913 (by decide +kernel) rfl, gw_t 11 (by decide +kernel) rfl, by decide +kernel⟩, gw_t 912 (by decide +kernel) rfl, gw_s 46 (by decide +kernel) rfl, _, _, rfl⟩
theorem ke_X9_turns : mi_cv mX9_turns 0 9 := ⟨⟨gw_t 917 (by decide +kernel) rfl, gw_t 11 (by decide +kernel) rfl, by decide +kernel⟩, gw_t 916 (by decide +kernel) rfl, gw_s 47 (by decide +kernel) rfl, _, _, rfl⟩
theorem ke_X9_keepsFirst : mi_cv mX9_keepsFirst 0 9 := ⟨⟨gw_t 921 (by decide +kernel) rfl, gw_t 11 (by decide +kernel) rfl, by decide +kernel⟩, gw_t 920 (by decide +kernel) rfl, gw_s 48 (by decide +kernel) rfl, _, _, rfl⟩
theorem ke_X9_rules : mi_cv mX9_rules 1 9 := ⟨⟨gw_t 889 (by decide +kernel) rfl, gw_t 11 (by decide +kernel) rfl, by decide +kernel⟩, gw_t 888 (by decide +kernel) rfl, gw_s 40 (by decide +kernel) rfl, _, _, rfl⟩
theorem ke_X9_told : mi_cv mX9_told 1 9 := ⟨⟨gw_t 933 (by decide +kernel) rfl, gw_t 11 (by decide +kernel) rfl, by decide +kernel⟩, gw_t 932 (by decide +kernel) rfl, gw_s 49 (by decide +kernel) rfl, _, _, rfl⟩
theorem ke_X9_forms : mi_cv mX9_forms 2 9 := ⟨⟨gw_t 874 (by decide +kernel) rfl, gw_t 11 (by decide +kernel) rfl, by decide +kernel⟩, gw_t 872 (by decide +kernel) rfl, gw_t 873 (by decide +kernel) rfl, _, _, rfl⟩
theorem ke_X9_undo : mi_cv mX9_undo 0 9 := ⟨⟨gw_t 925 (by decide +kernel) rfl, gw_t 11 (by decide +kernel) rfl, by decide +kernel⟩, gw_t 923 (by decide +kernel) rfl, gw_t 924 (by decide +kernel) rfl, _, _, rfl⟩
theorem ke_X9_at : mi_cv mX9_at 2 9 := ⟨⟨gw_t 929 (by decide +kernel) rfl, gw_t 11 (by decide +kernel) rfl, by decide +kernel⟩, gw_t 927 (by decide +kernel) rfl, gw_t 928 (by decide +kernel) rfl, _, _, rfl⟩
theorem ke_X9_ruled : mi_cv mX9_ruled 3 9 := ⟨⟨gw_t 937 (by decide +kernel) rfl, gw_t 11 (by decide +kernel) rfl, by decide +kernel⟩, gw_t 935 (by decide +kernel) rfl, gw_t 936 (by decide +kernel) rfl, _, _, rfl⟩
theorem ke_X9_keeps : mi_cv mX9_keeps 0 9 := ⟨⟨gw_t 953 (by decide +kernel) rfl, gw_t 11 (by decide +kernel) rfl, by decide +kernel⟩, gw_t 952 (by decide +kernel) rfl, gw_s 52 (by decide +kernel) rfl, _, _, rfl⟩
theorem ke_X9_isKept : mi_cv mX9_isKept 0 9 := ⟨⟨gw_t 957 (by decide +kernel) rfl, gw_t 11 (by decide +kernel) rfl, by decide +kernel⟩, gw_t 956 (by decide +kernel) rfl, gw_s 53 (by decide +kernel) rfl, _, _, rfl⟩
theorem ke_X9_isSorted : mi_cv mX9_isSorted 0 9 := ⟨⟨gw_t 949 (by decide +kernel) rfl, gw_t 11 (by decide +kernel) rfl, by decide +kernel⟩, gw_t 948 (by decide +kernel) rfl, gw_s 51 (by decide +kernel) rfl, _, _, rfl⟩
theorem ke_X9_isSecond : mi_cv mX9_isSecond 1 9 := ⟨⟨gw_t 945 (by decide +kernel) rfl, gw_t 11 (by decide +kernel) rfl, by decide +kernel⟩, gw_t 944 (by decide +kernel) rfl, gw_s 50 (by decide +kernel) rfl, _, _, rfl⟩
theorem ke_X9_quick : mi_cv mX9_quick 2 9 := ⟨⟨gw_t 941 (by decide +kernel) rfl, gw_t 11 (by decide +kernel) rfl, by decide +kernel⟩, gw_t 939 (by decide +kernel) rfl, gw_t 940 (by decide +kernel) rfl, _, _, rfl⟩
theorem ke_X9_same : mi_cv mX9_same 3 9 := ⟨⟨gw_t 961 (by decide +kernel) rfl, gw_t 11 (by decide +kernel) rfl, by decide +kernel⟩, gw_t 959 (by decide +kernel) rfl, gw_t 960 (by decide +kernel) rfl, _, _, rfl⟩
theorem ke_X9_seam : mi_cv mX9_seam 4 9 := ⟨⟨gw_t 965 (by decide +kernel) rfl, gw_t 11 (by decide +kernel) rfl, by decide +kernel⟩, gw_t 963 (by decide +kernel) rfl, gw_t 964 (by decide +kernel) rfl, _, _, rfl⟩
theorem ke_X9_stands : mi_cv mX9_stands 2 9 := ⟨⟨gw_t 974 (by decide +kernel) rfl, gw_t 11 (by decide +kernel) rfl, by decide +kernel⟩, gw_t 973 (by decide +kernel) rfl, gw_s 54 (by decide +kernel) rfl, _, _, rfl⟩
theorem ke_X9_spellings : mi_cv mX9_spellings 1 9 := ⟨⟨gw_t 969 (by decide +kernel) rfl, gw_t 11 (by decide +kernel) rfl, by decide +kernel⟩, gw_t 967 (by decide +kernel) rfl, gw_t 968 (by decide +kernel) rfl, _, _, rfl⟩
theorem ke_X9_pipes : mi_cv mX9_pipes 1 9 := ⟨⟨gw_t 979 (by decide +kernel) rfl, gw_t 11 (by decide +kernel) rfl, by decide +kernel⟩, gw_t 977 (by decide +kernel) rfl, gw_t 978 (by decide +kernel) rfl, _, _, rfl⟩
theorem ke_X9_unpipe : mi_cv mX9_unpipe 0 9 := ⟨⟨gw_t 983 (by decide +kernel) rfl, gw_t 11 (by decide +kernel) rfl, by decide +kernel⟩, gw_t 981 (by decide +kernel) rfl, gw_t 982 (by decide +kernel) rfl, _, _, rfl⟩
theorem ke_X9_goesThrough : mi_cv mX9_goesThrough 0 9 := ⟨⟨gw_t 991 (by decide +kernel) rfl, gw_t 11 (by decide +kernel) rfl, by decide +kernel⟩, gw_t 990 (by decide +kernel) rfl, gw_s 55 (by decide +kernel) rfl, _, _, rfl⟩
theorem ke_X9_piped : mi_cv mX9_piped 2 9 := ⟨⟨gw_t 987 (by decide +kernel) rfl, gw_t 11 (by decide +kernel) rfl, by decide +kernel⟩, gw_t 985 (by decide +kernel) rfl, gw_t 986 (by decide +kernel) rfl, _, _, rfl⟩
theorem ke_X9_fixed : mi_cv mX9_fixed 1 9 := ⟨⟨gw_t 995 (by decide +kernel) rfl, gw_t 11 (by decide +kernel) rfl, by decide +kernel⟩, gw_t 993 (by decide +kernel) rfl, gw_t 994 (by decide +kernel) rfl, _, _, rfl⟩
theorem ke_X9_allMany : mi_cv mX9_allMany 0 9 := ⟨⟨gw_t 1003 (by decide +kernel) rfl, gw_t 11 (by decide +kernel) rfl, by decide +kernel⟩, gw_t 1002 (by decide +kernel) rfl, gw_s 56 (by decide +kernel) rfl, _, _, rfl⟩
theorem ke_X9_keep : mi_cv mX9_keep 1 9 := ⟨⟨gw_t 999 (by decide +kernel) rfl, gw_t 11 (by decide +kernel) rfl, by decide +kernel⟩, gw_t 997 (by decide +kernel) rfl, gw_t 998 (by decide +kernel) rfl, _, _, rfl⟩
theorem ke_X9_back : mi_cv mX9_back 1 9 := ⟨⟨gw_t 1007 (by decide +kernel) rfl, gw_t 11 (by decide +kernel) rfl, by decide +kernel⟩, gw_t 1005 (by decide +kernel) rfl, gw_t 1006 (by decide +kernel) rfl, _, _, rfl⟩
theorem ke_X9_marks : mi_cv mX9_marks 0 9 := ⟨⟨gw_t 1015 (by decide +kernel) rfl, gw_t 11 (by decide +kernel) rfl, by decide +kernel⟩, gw_t 1014 (by decide +kernel) rfl, gw_s 57 (by decide +kernel) rfl, _, _, rfl⟩
theorem ke_X9_count : mi_cv mX9_count 1 9 := ⟨⟨gw_t 1011 (by decide +kernel) rfl, gw_t 11 (by decide +kernel) rfl, by decide +kernel⟩, gw_t 1009 (by decide +kernel) rfl, gw_t 1010 (by decide +kernel) rfl, _, _, rfl⟩
theorem ml_L_9 : Cond.methodLink RL 9 yX8_init ∈ gw := gw_t 14 (by decide +kernel) rfl
theorem ml_X8_3 : Cond.methodLink RX8 3 objectInit ∈ gw := gw_t 17 (by decide +kernel) rfl
theorem ml_X4_3 : Cond.methodLink RX4 3 objectInit ∈ gw := gw_t 25 (by decide +kernel) rfl
theorem ml_X4_11 : Cond.methodLink RX4 11 yX5_init ∈ gw := gw_t 28 (by decide +kernel) rfl
theorem ml_X5_3 : Cond.methodLink RX5 3 objectInit ∈ gw := gw_t 31 (by decide +kernel) rfl
theorem ml_X5_9 : Cond.methodLink RX5 9 Lib.Math.max.name ∈ gw := gw_t 32 (by decide +kernel) rfl
theorem ml_X1_3 : Cond.methodLink RX1 3 objectInit ∈ gw := gw_t 76 (by decide +kernel) rfl
theorem ml_X1_32 : Cond.methodLink RX1 32 yX5_init ∈ gw := gw_t 78 (by decide +kernel) rfl
theorem ml_X8_28 : Cond.methodLink RX8 28 yX0_init ∈ gw := gw_t 106 (by decide +kernel) rfl
theorem ml_X0_3 : Cond.methodLink RX0 3 objectInit ∈ gw := gw_t 109 (by decide +kernel) rfl
theorem ml_X0_17 : Cond.methodLink RX0 17 yX5_init ∈ gw := gw_t 112 (by decide +kernel) rfl
theorem ml_X8_35 : Cond.methodLink RX8 35 yX3_init ∈ gw := gw_t 122 (by decide +kernel) rfl
theorem ml_X3_3 : Cond.methodLink RX3 3 objectInit ∈ gw := gw_t 125 (by decide +kernel) rfl
theorem ml_X3_21 : Cond.methodLink RX3 21 yX0_init ∈ gw := gw_t 128 (by decide +kernel) rfl
theorem ml_X8_42 : Cond.methodLink RX8 42 yX2_init ∈ gw := gw_t 139 (by decide +kernel) rfl
theorem ml_X2_3 : Cond.methodLink RX2 3 objectInit ∈ gw := gw_t 142 (by decide +kernel) rfl
theorem ml_X2_21 : Cond.methodLink RX2 21 yX5_init ∈ gw := gw_t 144 (by decide +kernel) rfl
theorem ml_X6_3 : Cond.methodLink RX6 3 objectInit ∈ gw := gw_t 163 (by decide +kernel) rfl
theorem ml_X6_11 : Cond.methodLink RX6 11 yX5_init ∈ gw := gw_t 165 (by decide +kernel) rfl
theorem ml_X7_3 : Cond.methodLink RX7 3 objectInit ∈ gw := gw_t 178 (by decide +kernel) rfl
theorem ml_X8_63 : Cond.methodLink RX8 63 yX5_init ∈ gw := gw_t 185 (by decide +kernel) rfl
theorem ml_L_13 : Cond.methodLink RL 13 yX8_type ∈ gw := gw_t 220 (by decide +kernel) rfl
theorem ml_X8_76 : Cond.methodLink RX8 76 yX4_typed ∈ gw := gw_t 224 (by decide +kernel) rfl
theorem ml_X8_80 : Cond.methodLink RX8 80 yX5_push ∈ gw := gw_t 228 (by decide +kernel) rfl
theorem ml_X8_84 : Cond.methodLink RX8 84 yX5_length ∈ gw := gw_t 232 (by decide +kernel) rfl
theorem ml_L_18 : Cond.methodLink RL 18 yX8_clear ∈ gw := gw_t 236 (by decide +kernel) rfl
theorem ml_X8_88 : Cond.methodLink RX8 88 yX5_empty ∈ gw := gw_t 240 (by decide +kernel) rfl
theorem ml_L_23 : Cond.methodLink RL 23 yX8_tables ∈ gw := gw_t 244 (by decide +kernel) rfl
theorem ml_X8_91 : Cond.methodLink RX8 91 yX4_readInto ∈ gw := gw_t 248 (by decide +kernel) rfl
theorem ml_X4_20 : Cond.methodLink RX4 20 yX1_empty ∈ gw := gw_t 252 (by decide +kernel) rfl
theorem ml_X1_80 : Cond.methodLink RX1 80 yX5_empty ∈ gw := gw_t 256 (by decide +kernel) rfl
theorem ml_X4_29 : Cond.methodLink RX4 29 yX4_step ∈ gw := gw_t 257 (by decide +kernel) rfl
theorem ml_X4_97 : Cond.methodLink RX4 97 yX5_length ∈ gw := gw_t 261 (by decide +kernel) rfl
theorem ml_X4_101 : Cond.methodLink RX4 101 yX5_cell ∈ gw := gw_t 262 (by decide +kernel) rfl
theorem ml_X5_25 : Cond.methodLink RX5 25 yX5_has ∈ gw := gw_t 266 (by decide +kernel) rfl
theorem ml_X4_104 : Cond.methodLink RX4 104 yX4_isLetter ∈ gw := gw_t 270 (by decide +kernel) rfl
theorem ml_X4_107 : Cond.methodLink RX4 107 yX4_takeLetters ∈ gw := gw_t 273 (by decide +kernel) rfl
theorem ml_X4_110 : Cond.methodLink RX4 110 yX4_isDigit ∈ gw := gw_t 277 (by decide +kernel) rfl
theorem ml_X4_113 : Cond.methodLink RX4 113 yX4_takeNumber ∈ gw := gw_t 280 (by decide +kernel) rfl
theorem ml_X4_116 : Cond.methodLink RX4 116 Lib.Math.min.name ∈ gw := gw_t 284 (by decide +kernel) rfl
theorem ml_X4_35 : Cond.methodLink RX4 35 yX4_readCode ∈ gw := gw_t 287 (by decide +kernel) rfl
theorem ml_X4_58 : Cond.methodLink RX4 58 yX1_isFull ∈ gw := gw_t 291 (by decide +kernel) rfl
theorem ml_X4_65 : Cond.methodLink RX4 65 yX4_readPlain ∈ gw := gw_t 295 (by decide +kernel) rfl
theorem ml_X4_68 : Cond.methodLink RX4 68 yX1_hasRoomForPair ∈ gw := gw_t 299 (by decide +kernel) rfl
theorem ml_X1_43 : Cond.methodLink RX1 43 yX5_length ∈ gw := gw_t 303 (by decide +kernel) rfl
theorem ml_X4_71 : Cond.methodLink RX4 71 yX4_readTwo ∈ gw := gw_t 304 (by decide +kernel) rfl
theorem ml_X4_86 : Cond.methodLink RX4 86 yX1_mayBeFirst ∈ gw := gw_t 308 (by decide +kernel) rfl
theorem ml_X1_74 : Cond.methodLink RX1 74 yX1_kindOf ∈ gw := gw_t 312 (by decide +kernel) rfl
theorem ml_X1_47 : Cond.methodLink RX1 47 yX1_holds ∈ gw := gw_t 316 (by decide +kernel) rfl
theorem ml_X1_51 : Cond.methodLink RX1 51 yX1_classOf ∈ gw := gw_t 320 (by decide +kernel) rfl
theorem ml_X1_64 : Cond.methodLink RX1 64 yX1_pieceCount ∈ gw := gw_t 324 (by decide +kernel) rfl
theorem ml_X4_89 : Cond.methodLink RX4 89 yX1_mayBeSecond ∈ gw := gw_t 328 (by decide +kernel) rfl
theorem ml_X1_70 : Cond.methodLink RX1 70 yX1_piece ∈ gw := gw_t 332 (by decide +kernel) rfl
theorem ml_X4_93 : Cond.methodLink RX4 93 yX1_pairOf ∈ gw := gw_t 336 (by decide +kernel) rfl
theorem ml_X1_55 : Cond.methodLink RX1 55 yX5_cell ∈ gw := gw_t 340 (by decide +kernel) rfl
theorem ml_X1_58 : Cond.methodLink RX1 58 yX1_firstOf ∈ gw := gw_t 341 (by decide +kernel) rfl
theorem ml_X1_61 : Cond.methodLink RX1 61 yX1_secondOf ∈ gw := gw_t 345 (by decide +kernel) rfl
theorem ml_X4_75 : Cond.methodLink RX4 75 yX4_readSingle ∈ gw := gw_t 349 (by decide +kernel) rfl
theorem ml_X4_78 : Cond.methodLink RX4 78 yX1_classOf ∈ gw := gw_t 353 (by decide +kernel) rfl
theorem ml_X4_82 : Cond.methodLink RX4 82 yX1_holds ∈ gw := gw_t 354 (by decide +kernel) rfl
theorem ml_X4_54 : Cond.methodLink RX4 54 yX1_add ∈ gw := gw_t 355 (by decide +kernel) rfl
theorem ml_X1_83 : Cond.methodLink RX1 83 yX1_addPiece ∈ gw := gw_t 359 (by decide +kernel) rfl
theorem ml_X1_86 : Cond.methodLink RX1 86 yX1_addPiecesOf ∈ gw := gw_t 363 (by decide +kernel) rfl
theorem ml_X1_89 : Cond.methodLink RX1 89 yX5_push ∈ gw := gw_t 367 (by decide +kernel) rfl
theorem ml_X8_95 : Cond.methodLink RX8 95 yX0_empty ∈ gw := gw_t 368 (by decide +kernel) rfl
theorem ml_X0_28 : Cond.methodLink RX0 28 yX5_empty ∈ gw := gw_t 372 (by decide +kernel) rfl
theorem ml_X8_96 : Cond.methodLink RX8 96 yX3_drop ∈ gw := gw_t 373 (by decide +kernel) rfl
theorem ml_X8_99 : Cond.methodLink RX8 99 yX2_forget ∈ gw := gw_t 377 (by decide +kernel) rfl
theorem ml_X8_102 : Cond.methodLink RX8 102 yX1_size ∈ gw := gw_t 381 (by decide +kernel) rfl
theorem ml_L_27 : Cond.methodLink RL 27 yX8_code ∈ gw := gw_t 385 (by decide +kernel) rfl
theorem ml_X8_105 : Cond.methodLink RX8 105 yX1_holds ∈ gw := gw_t 389 (by decide +kernel) rfl
theorem ml_X8_108 : Cond.methodLink RX8 108 yX1_classOf ∈ gw := gw_t 390 (by decide +kernel) rfl
theorem ml_X8_112 : Cond.methodLink RX8 112 yX1_kindOf ∈ gw := gw_t 391 (by decide +kernel) rfl
theorem ml_X8_115 : Cond.methodLink RX8 115 yX1_firstOf ∈ gw := gw_t 392 (by decide +kernel) rfl
theorem ml_X8_118 : Cond.methodLink RX8 118 yX1_secondOf ∈ gw := gw_t 393 (by decide +kernel) rfl
theorem ml_X8_121 : Cond.methodLink RX8 121 yX1_pieceCount ∈ gw := gw_t 394 (by decide +kernel) rfl
theorem ml_X8_124 : Cond.methodLink RX8 124 yX1_piece ∈ gw := gw_t 395 (by decide +kernel) rfl
theorem ml_L_32 : Cond.methodLink RL 32 yX8_pair ∈ gw := gw_t 396 (by decide +kernel) rfl
theorem ml_X8_128 : Cond.methodLink RX8 128 yX1_pairOf ∈ gw := gw_t 400 (by decide +kernel) rfl
theorem ml_L_36 : Cond.methodLink RL 36 yX8_puts ∈ gw := gw_t 401 (by decide +kernel) rfl
theorem ml_X8_131 : Cond.methodLink RX8 131 yX0_text ∈ gw := gw_t 405 (by decide +kernel) rfl
theorem ml_X8_135 : Cond.methodLink RX8 135 yX2_remember ∈ gw := gw_t 409 (by decide +kernel) rfl
theorem ml_X2_31 : Cond.methodLink RX2 31 yX5_become ∈ gw := gw_t 413 (by decide +kernel) rfl
theorem ml_X5_29 : Cond.methodLink RX5 29 yX5_extend ∈ gw := gw_t 417 (by decide +kernel) rfl
theorem ml_X5_33 : Cond.methodLink RX5 33 yX5_cell ∈ gw := gw_t 421 (by decide +kernel) rfl
theorem ml_X5_37 : Cond.methodLink RX5 37 yX5_push ∈ gw := gw_t 422 (by decide +kernel) rfl
theorem ml_X2_35 : Cond.methodLink RX2 35 Lib.Math.min.name ∈ gw := gw_t 423 (by decide +kernel) rfl
theorem ml_L_40 : Cond.methodLink RL 40 yX8_cuts ∈ gw := gw_t 424 (by decide +kernel) rfl
theorem ml_X8_139 : Cond.methodLink RX8 139 yX5_cell ∈ gw := gw_t 428 (by decide +kernel) rfl
theorem ml_X8_142 : Cond.methodLink RX8 142 yX5_shorten ∈ gw := gw_t 429 (by decide +kernel) rfl
theorem ml_L_44 : Cond.methodLink RL 44 yX8_appends ∈ gw := gw_t 433 (by decide +kernel) rfl
theorem ml_X8_145 : Cond.methodLink RX8 145 yX5_extend ∈ gw := gw_t 437 (by decide +kernel) rfl
theorem ml_L_48 : Cond.methodLink RL 48 yX8_forms ∈ gw := gw_t 438 (by decide +kernel) rfl
theorem ml_X8_149 : Cond.methodLink RX8 149 yX8_isRule ∈ gw := gw_t 442 (by decide +kernel) rfl
theorem ml_X8_152 : Cond.methodLink RX8 152 yX6_make ∈ gw := gw_t 445 (by decide +kernel) rfl
theorem ml_X6_23 : Cond.methodLink RX6 23 yX5_empty ∈ gw := gw_t 449 (by decide +kernel) rfl
theorem ml_X6_26 : Cond.methodLink RX6 26 yX6_takeApart ∈ gw := gw_t 450 (by decide +kernel) rfl
theorem ml_X6_58 : Cond.methodLink RX6 58 yX5_length ∈ gw := gw_t 454 (by decide +kernel) rfl
theorem ml_X6_62 : Cond.methodLink RX6 62 yX5_cell ∈ gw := gw_t 455 (by decide +kernel) rfl
theorem ml_X6_75 : Cond.methodLink RX6 75 yX1_pieceCount ∈ gw := gw_t 456 (by decide +kernel) rfl
theorem ml_X6_78 : Cond.methodLink RX6 78 yX1_piece ∈ gw := gw_t 457 (by decide +kernel) rfl
theorem ml_X6_82 : Cond.methodLink RX6 82 yX5_push ∈ gw := gw_t 458 (by decide +kernel) rfl
theorem ml_X6_38 : Cond.methodLink RX6 38 yX6_sort ∈ gw := gw_t 459 (by decide +kernel) rfl
theorem ml_X6_72 : Cond.methodLink RX6 72 yX1_classOf ∈ gw := gw_t 463 (by decide +kernel) rfl
theorem ml_X6_85 : Cond.methodLink RX6 85 yX5_swapWithNext ∈ gw := gw_t 464 (by decide +kernel) rfl
theorem ml_X6_30 : Cond.methodLink RX6 30 yX6_join ∈ gw := gw_t 468 (by decide +kernel) rfl
theorem ml_X6_88 : Cond.methodLink RX6 88 yX1_pairOf ∈ gw := gw_t 472 (by decide +kernel) rfl
theorem ml_X6_91 : Cond.methodLink RX6 91 yX5_setCell ∈ gw := gw_t 473 (by decide +kernel) rfl
theorem ml_X6_95 : Cond.methodLink RX6 95 Lib.Math.max.name ∈ gw := gw_t 477 (by decide +kernel) rfl
theorem ml_X6_100 : Cond.methodLink RX6 100 yX5_shorten ∈ gw := gw_t 478 (by decide +kernel) rfl
theorem ml_X6_34 : Cond.methodLink RX6 34 yX5_extend ∈ gw := gw_t 479 (by decide +kernel) rfl
theorem ml_X6_41 : Cond.methodLink RX6 41 yX6_dropMarks ∈ gw := gw_t 480 (by decide +kernel) rfl
theorem ml_X6_66 : Cond.methodLink RX6 66 yX1_isBase ∈ gw := gw_t 484 (by decide +kernel) rfl
theorem ml_X6_44 : Cond.methodLink RX6 44 yX6_turn ∈ gw := gw_t 488 (by decide +kernel) rfl
theorem ml_X6_48 : Cond.methodLink RX6 48 yX6_takeFirst ∈ gw := gw_t 492 (by decide +kernel) rfl
theorem ml_X8_156 : Cond.methodLink RX8 156 yX5_become ∈ gw := gw_t 496 (by decide +kernel) rfl
theorem ml_L_52 : Cond.methodLink RL 52 yX8_undo ∈ gw := gw_t 497 (by decide +kernel) rfl
theorem ml_X8_159 : Cond.methodLink RX8 159 yX2_latestText ∈ gw := gw_t 501 (by decide +kernel) rfl
theorem ml_X8_162 : Cond.methodLink RX8 162 yX2_giveBack ∈ gw := gw_t 505 (by decide +kernel) rfl
theorem ml_X8_165 : Cond.methodLink RX8 165 yX2_known ∈ gw := gw_t 509 (by decide +kernel) rfl
theorem ml_L_56 : Cond.methodLink RL 56 yX8_at ∈ gw := gw_t 513 (by decide +kernel) rfl
theorem ml_X8_168 : Cond.methodLink RX8 168 yX8_look ∈ gw := gw_t 517 (by decide +kernel) rfl
theorem ml_X8_234 : Cond.methodLink RX8 234 yX5_has ∈ gw := gw_t 520 (by decide +kernel) rfl
theorem ml_L_60 : Cond.methodLink RL 60 yX8_ruled ∈ gw := gw_t 521 (by decide +kernel) rfl
theorem ml_L_65 : Cond.methodLink RL 65 yX8_quick ∈ gw := gw_t 525 (by decide +kernel) rfl
theorem ml_X8_172 : Cond.methodLink RX8 172 yX8_quickApart ∈ gw := gw_t 529 (by decide +kernel) rfl
theorem ml_X8_237 : Cond.methodLink RX8 237 yX6_isSorted ∈ gw := gw_t 533 (by decide +kernel) rfl
theorem ml_X8_176 : Cond.methodLink RX8 176 yX8_quickJoined ∈ gw := gw_t 537 (by decide +kernel) rfl
theorem ml_X8_241 : Cond.methodLink RX8 241 yX1_isSecondOfPair ∈ gw := gw_t 541 (by decide +kernel) rfl
theorem ml_L_69 : Cond.methodLink RL 69 yX8_same ∈ gw := gw_t 545 (by decide +kernel) rfl
theorem ml_X8_179 : Cond.methodLink RX8 179 yX5_isLike ∈ gw := gw_t 549 (by decide +kernel) rfl
theorem ml_X5_40 : Cond.methodLink RX5 40 yX5_alikeAhead ∈ gw := gw_t 553 (by decide +kernel) rfl
theorem ml_X5_44 : Cond.methodLink RX5 44 Lib.Math.min.name ∈ gw := gw_t 557 (by decide +kernel) rfl
theorem ml_L_73 : Cond.methodLink RL 73 yX8_seam ∈ gw := gw_t 558 (by decide +kernel) rfl
theorem ml_X8_183 : Cond.methodLink RX8 183 yX6_makeOfBoth ∈ gw := gw_t 562 (by decide +kernel) rfl
theorem ml_X6_51 : Cond.methodLink RX6 51 yX5_become ∈ gw := gw_t 566 (by decide +kernel) rfl
theorem ml_X6_54 : Cond.methodLink RX6 54 yX6_make ∈ gw := gw_t 567 (by decide +kernel) rfl
theorem ml_X8_187 : Cond.methodLink RX8 187 yX5_alikeAhead ∈ gw := gw_t 568 (by decide +kernel) rfl
theorem ml_X8_190 : Cond.methodLink RX8 190 yX5_alikeBehind ∈ gw := gw_t 569 (by decide +kernel) rfl
theorem ml_X8_193 : Cond.methodLink RX8 193 Lib.Math.min.name ∈ gw := gw_t 573 (by decide +kernel) rfl
theorem ml_L_78 : Cond.methodLink RL 78 yX8_spellings ∈ gw := gw_t 574 (by decide +kernel) rfl
theorem ml_X8_200 : Cond.methodLink RX8 200 yX7_waysToSpell ∈ gw := gw_t 579 (by decide +kernel) rfl
theorem ml_X7_15 : Cond.methodLink RX7 15 yX5_length ∈ gw := gw_t 583 (by decide +kernel) rfl
theorem ml_X7_21 : Cond.methodLink RX7 21 Lib.Math.min.name ∈ gw := gw_t 584 (by decide +kernel) rfl
theorem ml_X7_27 : Cond.methodLink RX7 27 yX7_waysUpTo ∈ gw := gw_t 585 (by decide +kernel) rfl
theorem ml_X7_31 : Cond.methodLink RX7 31 yX1_size ∈ gw := gw_t 589 (by decide +kernel) rfl
theorem ml_X7_36 : Cond.methodLink RX7 36 yX1_pieceCount ∈ gw := gw_t 590 (by decide +kernel) rfl
theorem ml_X7_40 : Cond.methodLink RX7 40 yX1_piecesStandAt ∈ gw := gw_t 591 (by decide +kernel) rfl
theorem ml_X1_67 : Cond.methodLink RX1 67 yX5_has ∈ gw := gw_t 595 (by decide +kernel) rfl
theorem ml_X7_46 : Cond.methodLink RX7 46 Lib.MathLoose.min_long.x ∈ gw := gw_t 597 (by decide +kernel) rfl
theorem ml_L_83 : Cond.methodLink RL 83 yX8_pipes ∈ gw := gw_t 600 (by decide +kernel) rfl
theorem ml_X8_204 : Cond.methodLink RX8 204 yX0_pipe ∈ gw := gw_t 604 (by decide +kernel) rfl
theorem ml_L_87 : Cond.methodLink RL 87 yX8_unpipe ∈ gw := gw_t 608 (by decide +kernel) rfl
theorem ml_L_91 : Cond.methodLink RL 91 yX8_piped ∈ gw := gw_t 612 (by decide +kernel) rfl
theorem ml_X8_207 : Cond.methodLink RX8 207 yX6_goThrough ∈ gw := gw_t 616 (by decide +kernel) rfl
theorem ml_L_95 : Cond.methodLink RL 95 yX8_fixed ∈ gw := gw_t 620 (by decide +kernel) rfl
theorem ml_L_99 : Cond.methodLink RL 99 yX8_keep ∈ gw := gw_t 624 (by decide +kernel) rfl
theorem ml_X8_211 : Cond.methodLink RX8 211 yX3_take ∈ gw := gw_t 628 (by decide +kernel) rfl
theorem ml_X3_22 : Cond.methodLink RX3 22 yX0_become ∈ gw := gw_t 632 (by decide +kernel) rfl
theorem ml_X0_31 : Cond.methodLink RX0 31 yX5_become ∈ gw := gw_t 636 (by decide +kernel) rfl
theorem ml_X8_215 : Cond.methodLink RX8 215 yX0_total ∈ gw := gw_t 637 (by decide +kernel) rfl
theorem ml_X0_24 : Cond.methodLink RX0 24 yX5_length ∈ gw := gw_t 641 (by decide +kernel) rfl
theorem ml_L_103 : Cond.methodLink RL 103 yX8_back ∈ gw := gw_t 642 (by decide +kernel) rfl
theorem ml_X8_218 : Cond.methodLink RX8 218 yX3_image ∈ gw := gw_t 646 (by decide +kernel) rfl
theorem ml_X8_222 : Cond.methodLink RX8 222 yX3_isKept ∈ gw := gw_t 650 (by decide +kernel) rfl
theorem ml_X8_225 : Cond.methodLink RX8 225 yX0_become ∈ gw := gw_t 654 (by decide +kernel) rfl
theorem ml_L_107 : Cond.methodLink RL 107 yX8_count ∈ gw := gw_t 655 (by decide +kernel) rfl
theorem ml_X8_228 : Cond.methodLink RX8 228 yX1_countMarks ∈ gw := gw_t 659 (by decide +kernel) rfl
theorem ml_X1_77 : Cond.methodLink RX1 77 yX1_isBase ∈ gw := gw_t 663 (by decide +kernel) rfl
theorem ml_X8_231 : Cond.methodLink RX8 231 yX1_countKind ∈ gw := gw_t 664 (by decide +kernel) rfl
theorem ml_L_12 : Cond.methodLink RL 12 yX9_init ∈ gw := gw_t 670 (by decide +kernel) rfl
theorem ml_X9_1 : Cond.methodLink RX9 1 objectInit ∈ gw := gw_t 673 (by decide +kernel) rfl
theorem ml_L_31 : Cond.methodLink RL 31 yX9_code ∈ gw := gw_t 753 (by decide +kernel) rfl
theorem ml_X9_74 : Cond.methodLink RX9 74 yX9_isCode ∈ gw := gw_t 757 (by decide +kernel) rfl
theorem ml_X9_66 : Cond.methodLink RX9 66 yX9_in ∈ gw := gw_t 761 (by decide +kernel) rfl
theorem ml_L_35 : Cond.methodLink RL 35 yX9_pair ∈ gw := gw_t 764 (by decide +kernel) rfl
theorem ml_X9_78 : Cond.methodLink RX9 78 yX9_pairOf ∈ gw := gw_t 768 (by decide +kernel) rfl
theorem ml_L_17 : Cond.methodLink RL 17 yX9_type ∈ gw := gw_t 772 (by decide +kernel) rfl
theorem ml_L_22 : Cond.methodLink RL 22 yX9_clear ∈ gw := gw_t 776 (by decide +kernel) rfl
theorem ml_L_26 : Cond.methodLink RL 26 yX9_tables ∈ gw := gw_t 780 (by decide +kernel) rfl
theorem ml_X9_132 : Cond.methodLink RX9 132 yX9_lays ∈ gw := gw_t 784 (by decide +kernel) rfl
theorem ml_X9_135 : Cond.methodLink RX9 135 yX9_readsAll ∈ gw := gw_t 788 (by decide +kernel) rfl
theorem ml_X9_92 : Cond.methodLink RX9 92 yX9_skip ∈ gw := gw_t 792 (by decide +kernel) rfl
theorem ml_X9_88 : Cond.methodLink RX9 88 yX9_here ∈ gw := gw_t 796 (by decide +kernel) rfl
theorem ml_X9_129 : Cond.methodLink RX9 129 yX9_readsCode ∈ gw := gw_t 800 (by decide +kernel) rfl
theorem ml_X9_116 : Cond.methodLink RX9 116 yX9_sortMany ∈ gw := gw_t 804 (by decide +kernel) rfl
theorem ml_X9_120 : Cond.methodLink RX9 120 yX9_readsPlain ∈ gw := gw_t 808 (by decide +kernel) rfl
theorem ml_X9_98 : Cond.methodLink RX9 98 yX9_number ∈ gw := gw_t 812 (by decide +kernel) rfl
theorem ml_X9_102 : Cond.methodLink RX9 102 yX9_comes ∈ gw := gw_t 816 (by decide +kernel) rfl
theorem ml_X9_70 : Cond.methodLink RX9 70 yX9_comesPiece ∈ gw := gw_t 820 (by decide +kernel) rfl
theorem ml_X9_106 : Cond.methodLink RX9 106 yX9_ends ∈ gw := gw_t 824 (by decide +kernel) rfl
theorem ml_X9_123 : Cond.methodLink RX9 123 yX9_readsSingle ∈ gw := gw_t 828 (by decide +kernel) rfl
theorem ml_X9_126 : Cond.methodLink RX9 126 yX9_readsTwo ∈ gw := gw_t 832 (by decide +kernel) rfl
theorem ml_X9_110 : Cond.methodLink RX9 110 yX9_mayBegin ∈ gw := gw_t 836 (by decide +kernel) rfl
theorem ml_X9_113 : Cond.methodLink RX9 113 yX9_mayFollow ∈ gw := gw_t 840 (by decide +kernel) rfl
theorem ml_X9_138 : Cond.methodLink RX9 138 yX9_takes ∈ gw := gw_t 844 (by decide +kernel) rfl
theorem ml_L_39 : Cond.methodLink RL 39 yX9_puts ∈ gw := gw_t 848 (by decide +kernel) rfl
theorem ml_X9_147 : Cond.methodLink RX9 147 yX9_isText ∈ gw := gw_t 852 (by decide +kernel) rfl
theorem ml_X9_150 : Cond.methodLink RX9 150 yX9_notes ∈ gw := gw_t 855 (by decide +kernel) rfl
theorem ml_X9_154 : Cond.methodLink RX9 154 yX9_adds ∈ gw := gw_t 859 (by decide +kernel) rfl
theorem ml_L_43 : Cond.methodLink RL 43 yX9_cuts ∈ gw := gw_t 863 (by decide +kernel) rfl
theorem ml_L_47 : Cond.methodLink RL 47 yX9_appends ∈ gw := gw_t 867 (by decide +kernel) rfl
theorem ml_L_51 : Cond.methodLink RL 51 yX9_forms ∈ gw := gw_t 871 (by decide +kernel) rfl
theorem ml_X9_190 : Cond.methodLink RX9 190 yX9_isRule ∈ gw := gw_t 875 (by decide +kernel) rfl
theorem ml_X9_193 : Cond.methodLink RX9 193 yX9_comeOut ∈ gw := gw_t 878 (by decide +kernel) rfl
theorem ml_X9_160 : Cond.methodLink RX9 160 yX9_addsOut ∈ gw := gw_t 882 (by decide +kernel) rfl
theorem ml_X9_196 : Cond.methodLink RX9 196 yX9_rules ∈ gw := gw_t 886 (by decide +kernel) rfl
theorem ml_X9_172 : Cond.methodLink RX9 172 yX9_comeApart ∈ gw := gw_t 890 (by decide +kernel) rfl
theorem ml_X9_166 : Cond.methodLink RX9 166 yX9_asOther ∈ gw := gw_t 894 (by decide +kernel) rfl
theorem ml_X9_175 : Cond.methodLink RX9 175 yX9_sorts ∈ gw := gw_t 898 (by decide +kernel) rfl
theorem ml_X9_178 : Cond.methodLink RX9 178 yX9_joins ∈ gw := gw_t 902 (by decide +kernel) rfl
theorem ml_X9_169 : Cond.methodLink RX9 169 yX9_isBlocked ∈ gw := gw_t 906 (by decide +kernel) rfl
theorem ml_X9_181 : Cond.methodLink RX9 181 yX9_keepsBases ∈ gw := gw_t 910 (by decide +kernel) rfl
theorem ml_X9_184 : Cond.methodLink RX9 184 yX9_turns ∈ gw := gw_t 914 (by decide +kernel) rfl
theorem ml_X9_187 : Cond.methodLink RX9 187 yX9_keepsFirst ∈ gw := gw_t 918 (by decide +kernel) rfl
theorem ml_L_55 : Cond.methodLink RL 55 yX9_undo ∈ gw := gw_t 922 (by decide +kernel) rfl
theorem ml_L_59 : Cond.methodLink RL 59 yX9_at ∈ gw := gw_t 926 (by decide +kernel) rfl
theorem ml_X9_199 : Cond.methodLink RX9 199 yX9_told ∈ gw := gw_t 930 (by decide +kernel) rfl
theorem ml_L_64 : Cond.methodLink RL 64 yX9_ruled ∈ gw := gw_t 934 (by decide +kernel) rfl
theorem ml_L_68 : Cond.methodLink RL 68 yX9_quick ∈ gw := gw_t 938 (by decide +kernel) rfl
theorem ml_X9_211 : Cond.methodLink RX9 211 yX9_isSecond ∈ gw := gw_t 942 (by decide +kernel) rfl
theorem ml_X9_214 : Cond.methodLink RX9 214 yX9_isSorted ∈ gw := gw_t 946 (by decide +kernel) rfl
theorem ml_X9_205 : Cond.methodLink RX9 205 yX9_keeps ∈ gw := gw_t 950 (by decide +kernel) rfl
theorem ml_X9_208 : Cond.methodLink RX9 208 yX9_isKept ∈ gw := gw_t 954 (by decide +kernel) rfl
theorem ml_L_72 : Cond.methodLink RL 72 yX9_same ∈ gw := gw_t 958 (by decide +kernel) rfl
theorem ml_L_77 : Cond.methodLink RL 77 yX9_seam ∈ gw := gw_t 962 (by decide +kernel) rfl
theorem ml_L_82 : Cond.methodLink RL 82 yX9_spellings ∈ gw := gw_t 966 (by decide +kernel) rfl
theorem ml_X9_219 : Cond.methodLink RX9 219 yX9_stands ∈ gw := gw_t 971 (by decide +kernel) rfl
theorem ml_L_86 : Cond.methodLink RL 86 yX9_pipes ∈ gw := gw_t 976 (by decide +kernel) rfl
theorem ml_L_90 : Cond.methodLink RL 90 yX9_unpipe ∈ gw := gw_t 980 (by decide +kernel) rfl
theorem ml_L_94 : Cond.methodLink RL 94 yX9_piped ∈ gw := gw_t 984 (by decide +kernel) rfl
theorem ml_X9_224 : Cond.methodLink RX9 224 yX9_goesThrough ∈ gw := gw_t 988 (by decide +kernel) rfl
theorem ml_L_98 : Cond.methodLink RL 98 yX9_fixed ∈ gw := gw_t 992 (by decide +kernel) rfl
theorem ml_L_102 : Cond.methodLink RL 102 yX9_keep ∈ gw := gw_t 996 (by decide +kernel) rfl
theorem ml_X9_227 : Cond.methodLink RX9 227 yX9_allMany ∈ gw := gw_t 1000 (by decide +kernel) rfl
theorem ml_L_106 : Cond.methodLink RL 106 yX9_back ∈ gw := gw_t 1004 (by decide +kernel) rfl
theorem ml_L_110 : Cond.methodLink RL 110 yX9_count ∈ gw := gw_t 1008 (by decide +kernel) rfl
theorem ml_X9_230 : Cond.methodLink RX9 230 yX9_marks ∈ gw := gw_t 1012 (by decide +kernel) rfl
theorem gw_oi : Cond.instanceMethod objectInit ∈ gw := gw_t 18 (by decide +kernel) rfl
theorem gw_oc : Cond.code objectInit ⟨#[0xb1]⟩ 1 none ∈ gw := gw_t 19 (by decide +kernel) rfl
theorem gw_maxs : Cond.static Lib.Math.max.name ∈ gw := gw_t 33 (by decide +kernel) rfl
theorem gw_maxc : Cond.code Lib.Math.max.name Lib.Math.max.code 2 (some .int) ∈ gw := gw_t 34 (by decide +kernel) rfl
theorem gw_mins : Cond.static Lib.Math.min.name ∈ gw := gw_t 285 (by decide +kernel) rfl
theorem gw_minc : Cond.code Lib.Math.min.name Lib.Math.min.code 2 (some .int) ∈ gw := gw_t 286 (by decide +kernel) rfl
theorem gw_minls : Cond.static Lib.MathLoose.min_long.x ∈ gw := gw_t 598 (by decide +kernel) rfl
theorem gw_minlc : Cond.code Lib.MathLoose.min_long.x Lib.MathLoose.min_long.code 4 (some .long) ∈ gw := gw_t 599 (by decide +kernel) rfl
theorem gw_mi : Cond.initialized "java/lang/Math" ∈ gw := gw_t 4 (by decide +kernel) rfl
theorem gw_aint : Cond.arrayClass .int ∈ gw := gw_t 42 (by decide +kernel) rfl
theorem gw_aboolean : Cond.arrayClass .boolean ∈ gw := gw_t 136 (by decide +kernel) rfl
theorem gw_along : Cond.arrayClass .long ∈ gw := gw_t 183 (by decide +kernel) rfl
theorem cl_X8_198 : Cond.constantLong RX8 198 (-1) ∈ gw := gw_t 578 (by decide +kernel) rfl
theorem cl_X7_44 : Cond.constantLong RX7 44 (1000000000000000000) ∈ gw := gw_t 596 (by decide +kernel) rfl
theorem cl_X9_217 : Cond.constantLong RX9 217 (-1) ∈ gw := gw_t 970 (by decide +kernel) rfl
theorem cl_X9_222 : Cond.constantLong RX9 222 (1000000000000000000) ∈ gw := gw_t 975 (by decide +kernel) rfl
def mi_nest : List Cond := [.methodLinkNest RX8 11 yX4_init "MarkOrder", .methodLinkNest RX8 18 yX1_init "MarkOrder", .methodLinkNest RX8 49 yX6_init "MarkOrder", .methodLinkNest RX8 56 yX7_init "MarkOrder"]
theorem nest_in : ∀ w ∈ mi_nest, w ∈ lw_tbl := by
  intro w hw
  simp only [mi_nest, List.mem_cons, List.not_mem_nil, or_false] at hw
  rcases hw with rfl | rfl | rfl | rfl
  · exact List.mem_append_right _ (List.mem_of_getElem? (i := 22) (by decide +kernel))
  · exact List.mem_append_right _ (List.mem_of_getElem? (i := 73) (by decide +kernel))
  · exact List.mem_append_right _ (List.mem_of_getElem? (i := 160) (by decide +kernel))
  · exact List.mem_append_right _ (List.mem_of_getElem? (i := 175) (by decide +kernel))
theorem ao_5 : Cond.arrayOver (.object RX5) ∈ lw_tbl := List.mem_append_right _ (List.mem_of_getElem? (i := 111) (by decide +kernel))
theorem ao_0 : Cond.arrayOver (.object RX0) ∈ lw_tbl := List.mem_append_right _ (List.mem_of_getElem? (i := 127) (by decide +kernel))
