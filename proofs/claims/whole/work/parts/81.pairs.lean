/-! ===== the class and the reference, call by call: the same answer, the same numbers held ===== -/
def AnyW (h : mi_H) : Prop := ∃ (sw : Bool) (I : Nat → Nat → Int32) (J : Nat → Nat → Int64) (bs : List Nat) (T : List CR) (tx : Nat → List Int32) (pp : List Nat) (hs : List (Nat × List Int32)) (im : ImT), h = hS sw I J ∧ InvC sw I bs T tx pp hs im ∧ InvM I bs T tx pp hs im ∧ SOk bs T tx pp hs im
def vI (x : Value) : Prop := ∃ i : Int32, x = .int i
def vJ (x : Value) : Prop := ∃ i : Int64, x = .long i
/-- the class's method, then the reference's, with the same arguments: one answer -/
def Both (v : Value → Prop) (MC MM : mi_M) (dC dM : Nat) (as : List Value) : Prop := ∀ h, AnyW h → mCl MC dC 0 0 (.ref 0 :: as) h (fun r h' => ∃ x, r = some x ∧ v x ∧ h'.1 = KK ∧ mCl MM dM 0 0 (.ref 97 :: as) h' (fun r' h'' => r' = some x ∧ AnyW h''))
section PAIRS
variable {sw : Bool} {I I' : Nat → Nat → Int32} {J : Nat → Nat → Int64} {bs : List Nat} {T : List CR} {tx : Nat → List Int32} {pp : List Nat} {hs : List (Nat × List Int32)} {im : ImT} {F S : List Nat}
theorem any_st (hC : InvC sw I bs T tx pp hs im) (hM : InvM I bs T tx pp hs im) (hk : SOk bs T tx pp hs im) : AnyW (hS sw I J) := ⟨sw, I, J, bs, T, tx, pp, hs, im, rfl, hC, hM, hk⟩
theorem any_of (hC : InvC sw I bs T tx pp hs im) (hO : Of F S I I') (h97 : ∀ a ∈ S, 97 ≤ a) (hM : InvM I' bs T tx pp hs im) (hk : SOk bs T tx pp hs im) : AnyW (hS sw I' J) := ⟨sw, I', J, bs, T, tx, pp, hs, im, rfl, hC.fr (hO.fr h97), hM, hk⟩
/-- a text becomes xs, and what it was is noted -/
theorem sok_tx (hk : SOk bs T tx pp hs im) {t : Nat} {xs : List Int32} (ht : t < 4) (ho : okL T xs) (hl : xs.length ≤ 16) : SOk bs T (va_up tx t xs) pp (((t, tx t) :: hs).take 10) im := by
  obtain ⟨h1, h2, h3, h4, h5, h6⟩ := hk
  refine ⟨h1, h2, fun i hi => ?_, h4, ⟨?_, fun q hq => ?_⟩, h6⟩
  · by_cases e : i = t
    · subst e; rw [va_up_s]; exact ⟨ho, hl⟩
    · rw [va_up_n e]; exact h3 i hi
  · rw [List.length_take]; exact Nat.min_le_left _ _
  · rcases List.mem_cons.mp (List.mem_of_mem_take hq) with e | e
    · subst e; exact ⟨ht, (h3 t ht).1, (h3 t ht).2⟩
    · exact h5.2 q e
theorem sok_0 (hT : TOk T) : SOk [] T (fun _ => []) [] [] (fun _ => none) := by
  refine ⟨⟨Nat.zero_le _, fun b hb => absurd hb List.not_mem_nil⟩, hT, fun t _ => ⟨fun c hc => absurd hc List.not_mem_nil, Nat.zero_le _⟩, ⟨Nat.zero_le _, fun b hb => absurd hb List.not_mem_nil⟩, ⟨Nat.zero_le _, fun b hb => absurd hb List.not_mem_nil⟩, fun i b _ hb => by cases hb⟩
end PAIRS
theorem B_type (c : Int32) : Both vI mX8_type mX9_type 1 1 [.int c] := by
  rintro h ⟨sw, I, J, bs, T, tx, pp, hs, im, rfl, hC, hM, hk⟩
  rcases ixc c (n := 256) (by omega) with hc | ⟨k, hk1, rfl⟩
  · exact C_type_out hc ⟨_, rfl, ⟨_, rfl⟩, rfl, M_type_out hc ⟨rfl, any_st hC hM hk⟩⟩
  · by_cases hl : bs.length < 150
    · refine C_type_in hk1 hC hl fun I1 hC1 hF => ⟨_, rfl, ⟨_, rfl⟩, rfl, M_type_in hk1 (hM.lo hF) hl fun I2 hM2 hO => ⟨rfl, any_of hC1 hO (by decide) hM2 ⟨⟨?_, fun b hb => ?_⟩, hk.2⟩⟩⟩
      · rw [List.length_append]; exact hl
      · rcases List.mem_append.mp hb with e | e
        · exact hk.1.2 b e
        · rw [List.mem_singleton.mp e]; exact hk1
    · have hl' : bs.length = 150 := Nat.le_antisymm hk.1.1 (Nat.le_of_not_lt hl)
      exact C_type_full hk1 hC.1 hl' ⟨_, rfl, ⟨_, rfl⟩, rfl, M_type_full hk1 hM.2.1 hl' ⟨rfl, any_st hC hM hk⟩⟩
theorem B_clear : Both vI mX8_clear mX9_clear 1 0 [] := by
  rintro h ⟨sw, I, J, bs, T, tx, pp, hs, im, rfl, hC, hM, hk⟩
  exact C_clear hC fun I1 hC1 hF => ⟨_, rfl, ⟨_, rfl⟩, rfl, M_clear (hM.lo hF) fun I2 hM2 hO => ⟨rfl, any_of hC1 hO (by decide) hM2 ⟨⟨Nat.zero_le _, fun b hb => absurd hb List.not_mem_nil⟩, hk.2⟩⟩⟩
theorem B_tables : Both vI mX8_tables mX9_tables 7 6 [] := by
  rintro h ⟨sw, I, J, bs, T, tx, pp, hs, im, rfl, hC, hM, hk⟩
  refine C_tables hC (fun T' hp I1 hC1 hT1 hF => ⟨_, rfl, ⟨_, rfl⟩, rfl, ?_⟩) (fun f hp hf I1 hC1 hF => ⟨_, rfl, ⟨_, rfl⟩, rfl, ?_⟩)
  · refine M_tables (hM.lo hF) hk.2.1 (fun T2 hp2 I2 hM2 hO => ?_) (fun f hp2 => ?_)
    · have e : T2 = T' := Sum.inr.inj (hp2.symm.trans hp)
      subst e
      exact ⟨rfl, any_of hC1 hO (by decide) hM2 (sok_0 hT1)⟩
    · cases hp2.symm.trans hp
  · refine M_tables (hM.lo hF) hk.2.1 (fun T2 hp2 => ?_) (fun f2 hp2 I2 hM2 hO => ?_)
    · cases hp2.symm.trans hp
    · have e : f2 = f := Sum.inl.inj (hp2.symm.trans hp)
      subst e
      exact ⟨rfl, any_of hC1 hO (by decide) hM2 hk⟩
theorem B_code (c w : Int32) : Both vI mX8_code mX9_code 2 2 [.int c, .int w] := by
  rintro h ⟨sw, I, J, bs, T, tx, pp, hs, im, rfl, hC, hM, hk⟩
  rcases ixc c (n := T.length) (by have := hk.2.1.1; omega) with hc | ⟨j, hj, rfl⟩
  · exact C_code_out hC.2.1 hc ⟨_, rfl, ⟨_, rfl⟩, rfl, M_code_out hM.1 hc ⟨rfl, any_st hC hM hk⟩⟩
  · rcases ixc w (n := 9) (by omega) with hw | ⟨w, hw, rfl⟩
    · exact C_code_wout hC.2.1 hj hw ⟨_, rfl, ⟨_, rfl⟩, rfl, M_code_wout hM.1 hj hw ⟨rfl, any_st hC hM hk⟩⟩
    · exact C_code_in hC.2.1 hj hw ⟨_, rfl, ⟨_, rfl⟩, rfl, M_code_in hM.1 hj hw ⟨rfl, any_st hC hM hk⟩⟩
theorem B_pair (a b : Int32) : Both vI mX8_pair mX9_pair 3 2 [.int a, .int b] := by
  rintro h ⟨sw, I, J, bs, T, tx, pp, hs, im, rfl, hC, hM, hk⟩
  have hl : T.length < 100000 := by have := hk.2.1.1; omega
  rcases ixc a hl with ha | ⟨a, ha, rfl⟩
  · exact C_pair_out hC.2.1 (Or.inl ha) ⟨_, rfl, ⟨_, rfl⟩, rfl, M_pair_out hM.1 (Or.inl ha) ⟨rfl, any_st hC hM hk⟩⟩
  · rcases ixc b hl with hb | ⟨b, hb, rfl⟩
    · exact C_pair_out hC.2.1 (Or.inr hb) ⟨_, rfl, ⟨_, rfl⟩, rfl, M_pair_out hM.1 (Or.inr hb) ⟨rfl, any_st hC hM hk⟩⟩
    · exact C_pair_in hC.2.1 ha hb ⟨_, rfl, ⟨_, rfl⟩, rfl, M_pair_in hM.1 hk.2.1 ha hb ⟨rfl, any_st hC hM hk⟩⟩
theorem B_puts (t c : Int32) : Both vI mX8_puts mX9_puts 5 2 [.int t, .int c] := by
  rintro h ⟨sw, I, J, bs, T, tx, pp, hs, im, rfl, hC, hM, hk⟩
  rcases ixc t (n := 4) (by omega) with ht | ⟨t, ht, rfl⟩
  · exact C_puts_tout ht ⟨_, rfl, ⟨_, rfl⟩, rfl, M_puts_tout ht ⟨rfl, any_st hC hM hk⟩⟩
  · rcases ixc c (n := T.length) (by have := hk.2.1.1; omega) with hc | ⟨j, hj, rfl⟩
    · exact C_puts_cout hC.2.1 ht hc ⟨_, rfl, ⟨_, rfl⟩, rfl, M_puts_cout hM.1 ht hc ⟨rfl, any_st hC hM hk⟩⟩
    · by_cases hf : (tx t).length < 16
      · refine C_puts_in hC ht hj hf fun I1 hC1 hF => ⟨_, rfl, ⟨_, rfl⟩, rfl, M_puts_in (hM.lo hF) ht hj hf fun I2 hM2 hO => ⟨rfl, any_of hC1 hO (by decide) hM2 (sok_tx hk ht (fun c hc => ?_) ?_)⟩⟩
        · rcases List.mem_append.mp hc with e | e
          · exact (hk.2.2.1 t ht).1 c e
          · rw [List.mem_singleton.mp e]; exact ⟨j, hj, rfl⟩
        · rw [List.length_append]; exact hf
      · have hf' : (tx t).length = 16 := Nat.le_antisymm (hk.2.2.1 t ht).2 (Nat.le_of_not_lt hf)
        exact C_puts_full hC ht hj hf' ⟨_, rfl, ⟨_, rfl⟩, rfl, M_puts_full hM ht hj hf' ⟨rfl, any_st hC hM hk⟩⟩
theorem B_cuts (t : Int32) : Both vI mX8_cuts mX9_cuts 5 2 [.int t] := by
  rintro h ⟨sw, I, J, bs, T, tx, pp, hs, im, rfl, hC, hM, hk⟩
  rcases ixc t (n := 4) (by omega) with ht | ⟨t, ht, rfl⟩
  · exact C_cuts_out ht ⟨_, rfl, ⟨_, rfl⟩, rfl, M_cuts_out ht ⟨rfl, any_st hC hM hk⟩⟩
  · by_cases hf : (tx t).length = 0
    · exact C_cuts_empty hC ht hf ⟨_, rfl, ⟨_, rfl⟩, rfl, M_cuts_empty hM ht hf ⟨rfl, any_st hC hM hk⟩⟩
    · have hf' : 0 < (tx t).length := Nat.pos_of_ne_zero hf
      refine C_cuts_in hC ht hf' fun I1 hC1 hF => ⟨_, rfl, ⟨_, rfl⟩, rfl, M_cuts_in (hM.lo hF) ht hf' fun I2 hM2 hO => ⟨rfl, any_of hC1 hO (by decide) hM2 (sok_tx hk ht (fun c hc => (hk.2.2.1 t ht).1 c (List.mem_of_mem_take hc)) ?_)⟩⟩
      have := (hk.2.2.1 t ht).2
      rw [List.length_take]; omega
theorem B_appends (t u : Int32) : Both vI mX8_appends mX9_appends 5 2 [.int t, .int u] := by
  rintro h ⟨sw, I, J, bs, T, tx, pp, hs, im, rfl, hC, hM, hk⟩
  rcases ixc t (n := 4) (by omega) with ht | ⟨t, ht, rfl⟩
  · exact C_appends_tout ht ⟨_, rfl, ⟨_, rfl⟩, rfl, M_appends_tout ht ⟨rfl, any_st hC hM hk⟩⟩
  · rcases ixc u (n := 4) (by omega) with hu | ⟨u, hu, rfl⟩
    · exact C_appends_uout ht hu ⟨_, rfl, ⟨_, rfl⟩, rfl, M_appends_uout ht hu ⟨rfl, any_st hC hM hk⟩⟩
    · by_cases hf : (tx t).length + (tx u).length ≤ 16
      · refine C_appends_in hC ht hu hf fun I1 hC1 hF => ⟨_, rfl, ⟨_, rfl⟩, rfl, M_appends_in (hM.lo hF) ht hu hf fun I2 hM2 hO => ⟨rfl, any_of hC1 hO (by decide) hM2 (sok_tx hk ht (fun c hc => ?_) ?_)⟩⟩
        · rcases List.mem_append.mp hc with e | e
          · exact (hk.2.2.1 t ht).1 c e
          · exact (hk.2.2.1 u hu).1 c e
        · rw [List.length_append]; exact hf
      · have hf' : 16 < (tx t).length + (tx u).length := Nat.lt_of_not_le hf
        exact C_appends_full hC ht hu hf' ⟨_, rfl, ⟨_, rfl⟩, rfl, M_appends_full hM ht hu hf' ⟨rfl, any_st hC hM hk⟩⟩
theorem B_forms (t r : Int32) : Both vI mX8_forms mX9_forms 5 3 [.int t, .int r] := by
  rintro h ⟨sw, I, J, bs, T, tx, pp, hs, im, rfl, hC, hM, hk⟩
  rcases ixc t (n := 4) (by omega) with ht | ⟨t, ht, rfl⟩
  · exact C_forms_tout ht ⟨_, rfl, ⟨_, rfl⟩, rfl, M_forms_tout ht ⟨rfl, any_st hC hM hk⟩⟩
  · rcases ixc r (n := 6) (by omega) with hr | ⟨r, hr, rfl⟩
    · exact C_forms_rout ht hr ⟨_, rfl, ⟨_, rfl⟩, rfl, M_forms_rout ht hr ⟨rfl, any_st hC hM hk⟩⟩
    · refine C_forms_in hC hk ht hr (fun hf I1 hC1 hF => ⟨_, rfl, ⟨_, rfl⟩, rfl, ?_⟩) (fun hf I1 hC1 hF => ⟨_, rfl, ⟨_, rfl⟩, rfl, ?_⟩)
      · exact M_forms_in (hM.lo hF) hk ht hr (fun _ I2 hM2 hO => ⟨rfl, any_of hC1 hO (by decide) hM2 hk⟩) (fun hf2 => absurd hf (Nat.not_lt.mpr hf2))
      · exact M_forms_in (hM.lo hF) hk ht hr (fun hf2 => absurd hf2 (Nat.not_lt.mpr hf)) (fun _ I2 hM2 hO => ⟨rfl, any_of hC1 hO (by decide) hM2 (sok_tx hk ht (rule_ok hk.2.1 (hk.2.2.1 t ht).1 r).1 hf)⟩)
theorem B_undo : Both vI mX8_undo mX9_undo 5 0 [] := by
  rintro h ⟨sw, I, J, bs, T, tx, pp, hs, im, rfl, hC, hM, hk⟩
  cases hs with
  | nil => exact C_undo_none hC ⟨_, rfl, ⟨_, rfl⟩, rfl, M_undo_none hM ⟨rfl, any_st hC hM hk⟩⟩
  | cons q hs =>
    have hq := hk.2.2.2.2.1.2 q List.mem_cons_self
    refine C_undo_in hC hq.1 fun I1 hC1 hF => ⟨_, rfl, ⟨_, rfl⟩, rfl, M_undo_in (hM.lo hF) hq.1 fun I2 hM2 hO => ⟨rfl, any_of hC1 hO (by decide) hM2 ?_⟩⟩
    obtain ⟨h1, h2, h3, h4, h5, h6⟩ := hk
    refine ⟨h1, h2, fun i hi => ?_, h4, ⟨?_, fun q2 hq2 => h5.2 q2 (List.mem_cons_of_mem _ hq2)⟩, h6⟩
    · by_cases e : i = q.1
      · rw [e, va_up_s]; exact hq.2
      · rw [va_up_n e]; exact h3 i hi
    · have := h5.1
      simp only [List.length_cons] at this
      omega
theorem B_at (t i : Int32) : Both vI mX8_at mX9_at 3 2 [.int t, .int i] := by
  rintro h ⟨sw, I, J, bs, T, tx, pp, hs, im, rfl, hC, hM, hk⟩
  rcases ixc t (n := 4) (by omega) with ht | ⟨t, ht, rfl⟩
  · exact C_at_out ht ⟨_, rfl, ⟨_, rfl⟩, rfl, M_at_out ht ⟨rfl, any_st hC hM hk⟩⟩
  · exact C_at_in hC ht ⟨_, rfl, ⟨_, rfl⟩, rfl, M_at_in hM ht fun I2 hM2 hO => ⟨rfl, any_of hC hO (by decide) hM2 hk⟩⟩
theorem B_ruled (t r i : Int32) : Both vI mX8_ruled mX9_ruled 5 3 [.int t, .int r, .int i] := by
  rintro h ⟨sw, I, J, bs, T, tx, pp, hs, im, rfl, hC, hM, hk⟩
  rcases ixc t (n := 4) (by omega) with ht | ⟨t, ht, rfl⟩
  · exact C_ruled_tout ht ⟨_, rfl, ⟨_, rfl⟩, rfl, M_ruled_tout ht ⟨rfl, any_st hC hM hk⟩⟩
  · rcases ixc r (n := 6) (by omega) with hr | ⟨r, hr, rfl⟩
    · exact C_ruled_rout ht hr ⟨_, rfl, ⟨_, rfl⟩, rfl, M_ruled_rout ht hr ⟨rfl, any_st hC hM hk⟩⟩
    · exact C_ruled_in hC hk ht hr fun I1 hC1 hF => ⟨_, rfl, ⟨_, rfl⟩, rfl, M_ruled_in (hM.lo hF) hk ht hr fun I2 hM2 hO => ⟨rfl, any_of hC1 hO (by decide) hM2 hk⟩⟩
theorem B_quick (t f : Int32) : Both vI mX8_quick mX9_quick 5 2 [.int t, .int f] := by
  rintro h ⟨sw, I, J, bs, T, tx, pp, hs, im, rfl, hC, hM, hk⟩
  rcases ixc t (n := 4) (by omega) with ht | ⟨t, ht, rfl⟩
  · exact C_quick_tout ht ⟨_, rfl, ⟨_, rfl⟩, rfl, M_quick_tout ht ⟨rfl, any_st hC hM hk⟩⟩
  · rcases ixc f (n := 2) (by omega) with hf | ⟨f, hf, rfl⟩
    · exact C_quick_fout ht hf ⟨_, rfl, ⟨_, rfl⟩, rfl, M_quick_fout ht hf ⟨rfl, any_st hC hM hk⟩⟩
    · rcases (show f = 0 ∨ f = 1 by omega) with rfl | rfl
      · exact C_quick_0 hC ht ⟨_, rfl, ⟨_, rfl⟩, rfl, M_quick_in hM hk ht hf fun I2 hM2 hO => ⟨rfl, any_of hC hO (by decide) hM2 hk⟩⟩
      · exact C_quick_1 hC ht ⟨_, rfl, ⟨_, rfl⟩, rfl, M_quick_in hM hk ht hf fun I2 hM2 hO => ⟨rfl, any_of hC hO (by decide) hM2 hk⟩⟩
theorem B_same (t u r : Int32) : Both vI mX8_same mX9_same 5 3 [.int t, .int u, .int r] := by
  rintro h ⟨sw, I, J, bs, T, tx, pp, hs, im, rfl, hC, hM, hk⟩
  rcases ixc t (n := 4) (by omega) with ht | ⟨t, ht, rfl⟩
  · exact C_same_out (Or.inl ht) ⟨_, rfl, ⟨_, rfl⟩, rfl, M_same_out (Or.inl ht) ⟨rfl, any_st hC hM hk⟩⟩
  · rcases ixc u (n := 4) (by omega) with hu | ⟨u, hu, rfl⟩
    · exact C_same_out (Or.inr (Or.inl hu)) ⟨_, rfl, ⟨_, rfl⟩, rfl, M_same_out (Or.inr (Or.inl hu)) ⟨rfl, any_st hC hM hk⟩⟩
    · rcases ixc r (n := 6) (by omega) with hr | ⟨r, hr, rfl⟩
      · exact C_same_out (Or.inr (Or.inr hr)) ⟨_, rfl, ⟨_, rfl⟩, rfl, M_same_out (Or.inr (Or.inr hr)) ⟨rfl, any_st hC hM hk⟩⟩
      · exact C_same_in hC hk ht hu hr fun I1 hC1 hF => ⟨_, rfl, ⟨_, rfl⟩, rfl, M_same_in (hM.lo hF) hk ht hu hr fun I2 hM2 hO => ⟨rfl, any_of hC1 hO (by decide) hM2 hk⟩⟩
theorem B_seam (t u r w : Int32) : Both vI mX8_seam mX9_seam 6 3 [.int t, .int u, .int r, .int w] := by
  rintro h ⟨sw, I, J, bs, T, tx, pp, hs, im, rfl, hC, hM, hk⟩
  rcases ixc t (n := 4) (by omega) with ht | ⟨t, ht, rfl⟩
  · exact C_seam_out (Or.inl ht) ⟨_, rfl, ⟨_, rfl⟩, rfl, M_seam_out (Or.inl ht) ⟨rfl, any_st hC hM hk⟩⟩
  · rcases ixc u (n := 4) (by omega) with hu | ⟨u, hu, rfl⟩
    · exact C_seam_out (Or.inr (Or.inl hu)) ⟨_, rfl, ⟨_, rfl⟩, rfl, M_seam_out (Or.inr (Or.inl hu)) ⟨rfl, any_st hC hM hk⟩⟩
    · rcases ixc r (n := 6) (by omega) with hr | ⟨r, hr, rfl⟩
      · exact C_seam_out (Or.inr (Or.inr (Or.inl hr))) ⟨_, rfl, ⟨_, rfl⟩, rfl, M_seam_out (Or.inr (Or.inr (Or.inl hr))) ⟨rfl, any_st hC hM hk⟩⟩
      · rcases ixc w (n := 3) (by omega) with hw | ⟨w, hw, rfl⟩
        · exact C_seam_out (Or.inr (Or.inr (Or.inr hw))) ⟨_, rfl, ⟨_, rfl⟩, rfl, M_seam_out (Or.inr (Or.inr (Or.inr hw))) ⟨rfl, any_st hC hM hk⟩⟩
        · exact C_seam_in hC hk ht hu hr hw fun I1 hC1 hF => ⟨_, rfl, ⟨_, rfl⟩, rfl, M_seam_in (hM.lo hF) hk ht hu hr hw fun I2 hM2 hO => ⟨rfl, any_of hC1 hO (by decide) hM2 hk⟩⟩
theorem B_spellings (t : Int32) : Both vJ mX8_spellings mX9_spellings 5 3 [.int t] := by
  rintro h ⟨sw, I, J, bs, T, tx, pp, hs, im, rfl, hC, hM, hk⟩
  rcases ixc t (n := 4) (by omega) with ht | ⟨t, ht, rfl⟩
  · exact C_spell_out ht ⟨_, rfl, ⟨_, rfl⟩, rfl, M_spell_out ht ⟨rfl, any_st hC hM hk⟩⟩
  · exact C_spell_in hC hk ht fun I1 J1 hC1 hF => ⟨_, rfl, ⟨_, rfl⟩, rfl, M_spell_in (hM.lo hF) hk ht fun I2 J2 hM2 hO => ⟨rfl, any_of hC1 hO (by decide) hM2 hk⟩⟩
theorem B_pipes (r : Int32) : Both vI mX8_pipes mX9_pipes 1 2 [.int r] := by
  rintro h ⟨sw, I, J, bs, T, tx, pp, hs, im, rfl, hC, hM, hk⟩
  rcases ixc r (n := 6) (by omega) with hr | ⟨r, hr, rfl⟩
  · exact C_pipes_out hr ⟨_, rfl, ⟨_, rfl⟩, rfl, M_pipes_out hr ⟨rfl, any_st hC hM hk⟩⟩
  · by_cases hl : pp.length < 4
    · refine C_pipes_in hC hr hl fun I1 hC1 hF => ⟨_, rfl, ⟨_, rfl⟩, rfl, M_pipes_in (hM.lo hF) hr hl fun I2 hM2 hO => ⟨rfl, any_of hC1 hO (by decide) hM2 ⟨hk.1, hk.2.1, hk.2.2.1, ⟨?_, fun q hq => ?_⟩, hk.2.2.2.2⟩⟩⟩
      · rw [List.length_append]; exact hl
      · rcases List.mem_append.mp hq with e | e
        · exact hk.2.2.2.1.2 q e
        · rw [List.mem_singleton.mp e]; exact hr
    · have hl' : pp.length = 4 := Nat.le_antisymm hk.2.2.2.1.1 (Nat.le_of_not_lt hl)
      exact C_pipes_full hC hr hl' ⟨_, rfl, ⟨_, rfl⟩, rfl, M_pipes_full hM hr hl' ⟨rfl, any_st hC hM hk⟩⟩
theorem B_unpipe : Both vI mX8_unpipe mX9_unpipe 1 0 [] := by
  rintro h ⟨sw, I, J, bs, T, tx, pp, hs, im, rfl, hC, hM, hk⟩
  exact C_unpipe hC fun I1 hC1 hF => ⟨_, rfl, ⟨_, rfl⟩, rfl, M_unpipe (hM.lo hF) fun I2 hM2 hO => ⟨rfl, any_of hC1 hO (by decide) hM2 ⟨hk.1, hk.2.1, hk.2.2.1, ⟨Nat.zero_le _, fun b hb => absurd hb List.not_mem_nil⟩, hk.2.2.2.2⟩⟩⟩
theorem B_piped (t i : Int32) : Both vI mX8_piped mX9_piped 6 4 [.int t, .int i] := by
  rintro h ⟨sw, I, J, bs, T, tx, pp, hs, im, rfl, hC, hM, hk⟩
  rcases ixc t (n := 4) (by omega) with ht | ⟨t, ht, rfl⟩
  · exact C_piped_out ht ⟨_, rfl, ⟨_, rfl⟩, rfl, M_piped_out ht ⟨rfl, any_st hC hM hk⟩⟩
  · exact C_piped_in hC hk ht fun I1 hC1 hF => ⟨_, rfl, ⟨_, rfl⟩, rfl, M_piped_in (hM.lo hF) hk ht fun I2 hM2 hO => ⟨rfl, any_of hC1 hO (by decide) hM2 hk⟩⟩
theorem B_fixed (t : Int32) : Both vI mX8_fixed mX9_fixed 6 4 [.int t] := by
  rintro h ⟨sw, I, J, bs, T, tx, pp, hs, im, rfl, hC, hM, hk⟩
  rcases ixc t (n := 4) (by omega) with ht | ⟨t, ht, rfl⟩
  · exact C_fixed_out ht ⟨_, rfl, ⟨_, rfl⟩, rfl, M_fixed_out ht ⟨rfl, any_st hC hM hk⟩⟩
  · exact C_fixed_in hC hk ht fun I1 hC1 hF => ⟨_, rfl, ⟨_, rfl⟩, rfl, M_fixed_in (hM.lo hF) hk ht fun I2 hM2 hO => ⟨rfl, any_of hC1 hO (by decide) hM2 hk⟩⟩
theorem B_keep (i : Int32) : Both vI mX8_keep mX9_keep 6 1 [.int i] := by
  rintro h ⟨sw, I, J, bs, T, tx, pp, hs, im, rfl, hC, hM, hk⟩
  rcases ixc i (n := 2) (by omega) with hi | ⟨i, hi, rfl⟩
  · exact C_keep_out hi ⟨_, rfl, ⟨_, rfl⟩, rfl, M_keep_out hi ⟨rfl, any_st hC hM hk⟩⟩
  · refine C_keep_in hC hi fun I1 hC1 hF => ⟨_, rfl, ⟨_, rfl⟩, rfl, M_keep_in (hM.lo hF) hi fun I2 hM2 hO => ⟨rfl, any_of hC1 hO (by decide) hM2 ⟨hk.1, hk.2.1, hk.2.2.1, hk.2.2.2.1, hk.2.2.2.2.1, fun k b h1 h2 => ?_⟩⟩⟩
    by_cases e : k = i
    · rw [e, va_up_s] at h2
      cases h2
      exact ⟨hk.2.2.1, hk.2.2.2.1⟩
    · rw [va_up_n e] at h2
      exact hk.2.2.2.2.2 k b h1 h2
theorem B_back (i : Int32) : Both vI mX8_back mX9_back 5 1 [.int i] := by
  rintro h ⟨sw, I, J, bs, T, tx, pp, hs, im, rfl, hC, hM, hk⟩
  rcases ixc i (n := 2) (by omega) with hi | ⟨i, hi, rfl⟩
  · exact C_back_out hi ⟨_, rfl, ⟨_, rfl⟩, rfl, M_back_out hi ⟨rfl, any_st hC hM hk⟩⟩
  · cases hz : im i with
    | none => exact C_back_none hC hi hz ⟨_, rfl, ⟨_, rfl⟩, rfl, M_back_none hM hi hz ⟨rfl, any_st hC hM hk⟩⟩
    | some b =>
      obtain ⟨g1, g2⟩ := hk.2.2.2.2.2 i b hi hz
      exact C_back_in hC hi hz fun I1 hC1 hF => ⟨_, rfl, ⟨_, rfl⟩, rfl, M_back_in (hM.lo hF) hi hz fun I2 hM2 hO => ⟨rfl, any_of hC1 hO (by decide) hM2 ⟨hk.1, hk.2.1, g1, g2, ⟨Nat.zero_le _, fun b hb => absurd hb List.not_mem_nil⟩, hk.2.2.2.2.2⟩⟩⟩
theorem B_count (w : Int32) : Both vI mX8_count mX9_count 4 1 [.int w] := by
  rintro h ⟨sw, I, J, bs, T, tx, pp, hs, im, rfl, hC, hM, hk⟩
  rcases ixc w (n := 8) (by omega) with hw | ⟨w, hw, rfl⟩
  · exact C_count_out hw ⟨_, rfl, ⟨_, rfl⟩, rfl, M_count_out hw ⟨rfl, any_st hC hM hk⟩⟩
  · exact C_count_in hC hw ⟨_, rfl, ⟨_, rfl⟩, rfl, M_count_in hM hk.2.1 hw ⟨rfl, any_st hC hM hk⟩⟩
