/-! the class's image: what is taken over -/
theorem cpy_in {f g : Nat → Int32} {n i : Nat} (h : i < n) : va_cpy f g 0 0 n i = f i := by
  unfold va_cpy
  rw [if_pos (by omega), show 0 + (i - 0) = i by omega]
theorem become_ok {h o : Nat} {c : fkS} (hh : (h = 21 ∧ o = 19) ∨ (h = 19 ∧ o = 21)) : ∃ c', F0_become h o c = some ((), c') ∧ (∀ f i, i ≠ h → gI c' f i = gI c f i) ∧ (∀ i, i ≠ h + 3 → i ≠ h + 6 → i ≠ h + 9 → i ≠ h + 12 → gA c' i = gA c i) ∧ (∀ i, gL c' i = gL c i) ∧
    (gI c' 0 h = gI c 0 o ∧ gI c' 5 h = gI c 5 o ∧ gI c' 6 h = gI c 6 o ∧ gI c' 7 h = gI c 7 o ∧ gI c' 8 h = gI c 8 o ∧ gI c' 9 h = gI c 9 o ∧ gI c' 10 h = gI c 10 o) ∧
    (∀ i, i < 7 → gA c' (h + 3) i = gA c (o + 3) i ∧ gA c' (h + 6) i = gA c (o + 6) i ∧ gA c' (h + 9) i = gA c (o + 9) i) ∧ ∀ i, i < 40 → gA c' (h + 12) i = gA c (o + 12) i := by
  have k7 : fk_cp (0 : Int32) (0 : Int32) (7 : Int32) 7 7 = true := by decide
  have k40 : fk_cp (0 : Int32) (0 : Int32) (40 : Int32) 40 40 = true := by decide
  have t7 : (7 : Int32).toNatClampNeg = 7 := rfl
  have t40 : (40 : Int32).toNatClampNeg = 40 := rfl
  refine ⟨_, by unfold F0_become; simp only [fk_let_e, fk_chk_t k7, fk_chk_t k40, cl0, t7, t40]; rfl, ?_⟩
  rcases hh with ⟨rfl, rfl⟩ | ⟨rfl, rfl⟩
  · refine ⟨fun f i n => ?_, fun i n1 n2 n3 n4 => ?_, fun i => rfl, ⟨rfl, rfl, rfl, rfl, rfl, rfl, rfl⟩, fun i hi => ⟨?_, ?_, ?_⟩, fun i hi => ?_⟩
    · simp only [gI_sI, gI_sAF, n, and_false, if_false]
    · simp only [gA_sI, gA_sAF, n1, n2, n3, n4, if_false]
    · exact cpy_in hi
    · exact cpy_in hi
    · exact cpy_in hi
    · exact cpy_in hi
  · refine ⟨fun f i n => ?_, fun i n1 n2 n3 n4 => ?_, fun i => rfl, ⟨rfl, rfl, rfl, rfl, rfl, rfl, rfl⟩, fun i hi => ⟨?_, ?_, ?_⟩, fun i hi => ?_⟩
    · simp only [gI_sI, gI_sAF, n, and_false, if_false]
    · simp only [gA_sI, gA_sAF, n1, n2, n3, n4, if_false]
    · exact cpy_in hi
    · exact cpy_in hi
    · exact cpy_in hi
    · exact cpy_in hi
