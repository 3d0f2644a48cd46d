theorem j_sub {w : fkW} {g : fkG} {k : fkK} {ρ : Type} {en : ρ → Option Value} {own : String} {cc : ByteArray} {nL fr lo pc : Nat} {ret : Option FieldType} {lv lv' : List (Nat × Value)} {stk : List Value} {st : fkS} {F : Option (ρ × fkS)} (hk : fk_ok w g k own cc nL ret fr lo) (ks : List Nat) (hs : lv_pick lv ks = lv') (kk : fk_J w g en k pc lv' stk st F) : fk_J w g en k pc lv stk st F := by
  intro o ho hq
  have kk := kk o ho hq
  obtain ⟨p, l, e, R, s, m, args, below, meth, c, rv, sf⟩ := k
  intro H locs ls hl hP hS
  exact kk H locs ls (lv_sub hl ks hs) hP hS
def fk_bool (x : Int32) : Bool := decide (x = 0) || decide (x = 1)
theorem fk_bool_n {x : Int32} (h : fk_bool x = true) : narrow .boolean (.int x) = .int x := by
  unfold fk_bool at h
  rcases Bool.or_eq_true_iff.mp h with h | h
  · rw [of_decide_eq_true h]; rfl
  · rw [of_decide_eq_true h]; rfl
theorem fk_lsw {ps : List (Int × Int)} {d x : Int} (h : ∀ q ∈ ps, ¬ x = q.1) : Op.lookupswitch.offset ps d x = d := by
  induction ps with
  | nil => rfl
  | cons a l ih =>
    have h1 : ¬ x = a.1 := h a List.mem_cons_self
    have h2 : ¬ a.1 = x := fun q => h1 q.symm
    have ih2 := ih (fun q hq => h q (List.mem_cons_of_mem _ hq))
    simpa [Op.lookupswitch.offset, h1, h2] using ih2
def fk_lp0 {β γ : Type} (B : (β → Option γ) → β → Option γ) : Nat → β → Option γ
  | 0 => fun _ => none
  | n + 1 => B (fk_lp0 B n)
def fk_lp1 {α0 β γ : Type} (B : (α0 → β → Option γ) → α0 → β → Option γ) : Nat → α0 → β → Option γ
  | 0 => fun _ _ => none
  | n + 1 => B (fk_lp1 B n)
def fk_lp2 {α0 α1 β γ : Type} (B : (α0 → α1 → β → Option γ) → α0 → α1 → β → Option γ) : Nat → α0 → α1 → β → Option γ
  | 0 => fun _ _ _ => none
  | n + 1 => B (fk_lp2 B n)
def fk_lp3 {α0 α1 α2 β γ : Type} (B : (α0 → α1 → α2 → β → Option γ) → α0 → α1 → α2 → β → Option γ) : Nat → α0 → α1 → α2 → β → Option γ
  | 0 => fun _ _ _ _ => none
  | n + 1 => B (fk_lp3 B n)
def fk_lp4 {α0 α1 α2 α3 β γ : Type} (B : (α0 → α1 → α2 → α3 → β → Option γ) → α0 → α1 → α2 → α3 → β → Option γ) : Nat → α0 → α1 → α2 → α3 → β → Option γ
  | 0 => fun _ _ _ _ _ => none
  | n + 1 => B (fk_lp4 B n)
def fk_lp5 {α0 α1 α2 α3 α4 β γ : Type} (B : (α0 → α1 → α2 → α3 → α4 → β → Option γ) → α0 → α1 → α2 → α3 → α4 → β → Option γ) : Nat → α0 → α1 → α2 → α3 → α4 → β → Option γ
  | 0 => fun _ _ _ _ _ _ => none
  | n + 1 => B (fk_lp5 B n)
def fk_lp6 {α0 α1 α2 α3 α4 α5 β γ : Type} (B : (α0 → α1 → α2 → α3 → α4 → α5 → β → Option γ) → α0 → α1 → α2 → α3 → α4 → α5 → β → Option γ) : Nat → α0 → α1 → α2 → α3 → α4 → α5 → β → Option γ
  | 0 => fun _ _ _ _ _ _ _ => none
  | n + 1 => B (fk_lp6 B n)
def fk_lp7 {α0 α1 α2 α3 α4 α5 α6 β γ : Type} (B : (α0 → α1 → α2 → α3 → α4 → α5 → α6 → β → Option γ) → α0 → α1 → α2 → α3 → α4 → α5 → α6 → β → Option γ) : Nat → α0 → α1 → α2 → α3 → α4 → α5 → α6 → β → Option γ
  | 0 => fun _ _ _ _ _ _ _ _ => none
  | n + 1 => B (fk_lp7 B n)
def fk_lp8 {α0 α1 α2 α3 α4 α5 α6 α7 β γ : Type} (B : (α0 → α1 → α2 → α3 → α4 → α5 → α6 → α7 → β → Option γ) → α0 → α1 → α2 → α3 → α4 → α5 → α6 → α7 → β → Option γ) : Nat → α0 → α1 → α2 → α3 → α4 → α5 → α6 → α7 → β → Option γ
  | 0 => fun _ _ _ _ _ _ _ _ _ => none
  | n + 1 => B (fk_lp8 B n)
def fk_lp9 {α0 α1 α2 α3 α4 α5 α6 α7 α8 β γ : Type} (B : (α0 → α1 → α2 → α3 → α4 → α5 → α6 → α7 → α8 → β → Option γ) → α0 → α1 → α2 → α3 → α4 → α5 → α6 → α7 → α8 → β → Option γ) : Nat → α0 → α1 → α2 → α3 → α4 → α5 → α6 → α7 → α8 → β → Option γ
  | 0 => fun _ _ _ _ _ _ _ _ _ _ => none
  | n + 1 => B (fk_lp9 B n)
