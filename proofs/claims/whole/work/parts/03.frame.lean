def fk_nF : List (String × Nat × String × String × String) := [("PieFunnels$Reader", 64, "PieFunnels$Bakery", "birds", "I"), ("PieFunnels", 171, "PieFunnels$Bakery", "birds", "I"), ("PieFunnels$Voice", 37, "PieFunnels$Bakery", "kinds", "[I"), ("PieFunnels$Moves", 34, "PieFunnels$Bakery", "kinds", "[I"), ("PieFunnels", 142, "PieFunnels$Bakery", "kinds", "[I"), ("PieFunnels$Voice", 40, "PieFunnels$Bakery", "as", "[I"), ("PieFunnels$Moves", 37, "PieFunnels$Bakery", "as", "[I"), ("PieFunnels", 193, "PieFunnels$Bakery", "as", "[I"), ("PieFunnels$Voice", 43, "PieFunnels$Bakery", "mouths", "[I"), ("PieFunnels", 196, "PieFunnels$Bakery", "mouths", "[I"), ("PieFunnels$Voice", 46, "PieFunnels$Bakery", "heat", "I"), ("PieFunnels$Reader", 88, "PieFunnels$Bakery", "heat", "I"), ("PieFunnels", 178, "PieFunnels$Bakery", "heat", "I"), ("PieFunnels$Reader", 91, "PieFunnels$Bakery", "state", "I"), ("PieFunnels", 181, "PieFunnels$Bakery", "state", "I"), ("PieFunnels$Reader", 97, "PieFunnels$Bakery", "troubles", "I"), ("PieFunnels", 184, "PieFunnels$Bakery", "troubles", "I"), ("PieFunnels", 331, "PieFunnels$Bakery", "bakes", "I"), ("PieFunnels", 308, "PieFunnels$Bakery", "suffered", "I"), ("PieFunnels", 311, "PieFunnels$Bakery", "seed", "I"), ("PieFunnels", 207, "PieFunnels$Reader", "fault", "I"), ("PieFunnels", 328, "PieFunnels$Moves", "trace", "[I"), ("PieFunnels", 334, "PieFunnels$Moves", "ran", "I"), ("PieFunnels", 318, "PieFunnels$Moves", "kind", "I"), ("PieFunnels$Voice", 69, "PieFunnels$Pie", "layers", "I"), ("PieFunnels", 228, "PieFunnels$Pie", "layers", "I"), ("PieFunnels", 337, "PieFunnels$Voice", "kind", "I"), ("PieFunnels", 168, "PieFunnels$Voice", "a", "I"), ("PieFunnels", 152, "PieFunnels$Voice", "mouth", "I"), ("PieFunnels", 270, "PieFunnels$Voice", "heat", "I"), ("PieFunnels$Bakery", 56, "PieFunnels$Voice", "count", "I"), ("PieFunnels", 162, "PieFunnels$Voice", "count", "I"), ("PieFunnels$Bakery", 61, "PieFunnels$Voice", "signs", "[I"), ("PieFunnels", 277, "PieFunnels$Parting", "tribes", "I"), ("PieFunnels", 286, "PieFunnels$Parting", "served", "I"), ("PieFunnels", 133, "PieFunnels$Shelf", "content", "I"), ("PieFunnels", 136, "PieFunnels$Shelf", "bird", "I"), ("PieFunnels", 102, "PieFunnels$Shelf", "sort", "I"), ("PieFunnels$Pie", 19, "PieFunnels$Shelf", "size", "I"), ("PieFunnels$Parting", 28, "PieFunnels$Shelf", "size", "I"), ("PieFunnels$Reader", 34, "PieFunnels$Shelf", "size", "I"), ("PieFunnels", 90, "PieFunnels$Shelf", "size", "I"), ("PieFunnels$Voice", 91, "PieFunnels$Shelf", "size", "I"), ("PieFunnels", 109, "PieFunnels$Shelf", "cells", "[J"), ("PieFunnels$Reader", 115, "PieFunnels$Shelf", "cells", "[J"), ("PieFunnels$Moves", 49, "PieFunnels", "KIND_ABOVE", "[I")]
def fk_nM : List (String × Nat × MethodName) := [("PieFunnels", 17, ⟨"PieFunnels$Bakery", "<init>", "()V"⟩), ("PieFunnels", 34, ⟨"PieFunnels$Reader", "<init>", "()V"⟩), ("PieFunnels", 41, ⟨"PieFunnels$Moves", "<init>", "()V"⟩), ("PieFunnels", 48, ⟨"PieFunnels$Pie", "<init>", "()V"⟩), ("PieFunnels", 55, ⟨"PieFunnels$Voice", "<init>", "()V"⟩), ("PieFunnels", 65, ⟨"PieFunnels$Parting", "<init>", "()V"⟩), ("PieFunnels", 74, ⟨"PieFunnels$Shelf", "<init>", "()V"⟩), ("PieFunnels", 83, ⟨"PieFunnels$Shelf", "holdRow", "(II)V"⟩), ("PieFunnels", 94, ⟨"PieFunnels$Shelf", "put", "(IJ)V"⟩), ("PieFunnels", 105, ⟨"PieFunnels$Shelf", "hasSpan", "(II)Z"⟩), ("PieFunnels", 119, ⟨"PieFunnels$Shelf", "whole", "(I)J"⟩), ("PieFunnels", 123, ⟨"PieFunnels$Shelf", "holdNothing", "()V"⟩), ("PieFunnels", 126, ⟨"PieFunnels$Bakery", "lacks", "(I)Z"⟩), ("PieFunnels", 129, ⟨"PieFunnels$Shelf", "holdBird", "(I)V"⟩), ("PieFunnels", 148, ⟨"PieFunnels$Voice", "take", "(LPieFunnels$Bakery;I)V"⟩), ("PieFunnels$Voice", 31, ⟨"PieFunnels$Bakery", "lacks", "(I)Z"⟩), ("PieFunnels", 155, ⟨"PieFunnels$Pie", "setByNumber", "(II)V"⟩), ("PieFunnels", 158, ⟨"PieFunnels$Voice", "speak", "(LPieFunnels$Pie;)V"⟩), ("PieFunnels$Voice", 83, ⟨"PieFunnels$Pie", "layer", "(I)I"⟩), ("PieFunnels", 165, ⟨"PieFunnels$Voice", "sign", "(I)I"⟩), ("PieFunnels", 174, ⟨"PieFunnels$Bakery", "add", "(III)V"⟩), ("PieFunnels", 187, ⟨"PieFunnels$Bakery", "comingBy", "(II)I"⟩), ("PieFunnels", 190, ⟨"PieFunnels$Bakery", "setComing", "(III)V"⟩), ("PieFunnels", 199, ⟨"PieFunnels$Bakery", "become", "(LPieFunnels$Bakery;)V"⟩), ("PieFunnels", 203, ⟨"PieFunnels$Reader", "read", "(LPieFunnels$Shelf;LPieFunnels$Bakery;)I"⟩), ("PieFunnels$Reader", 84, ⟨"PieFunnels$Bakery", "add", "(III)V"⟩), ("PieFunnels$Reader", 94, ⟨"PieFunnels$Bakery", "setComing", "(III)V"⟩), ("PieFunnels", 234, ⟨"PieFunnels$Pie", "take", "(LPieFunnels$Shelf;I)Z"⟩), ("PieFunnels$Pie", 24, ⟨"PieFunnels$Shelf", "number", "(I)I"⟩), ("PieFunnels", 217, ⟨"PieFunnels$Bakery", "endOf", "(LPieFunnels$Voice;I)I"⟩), ("PieFunnels", 221, ⟨"PieFunnels$Bakery", "illsOf", "(LPieFunnels$Voice;)I"⟩), ("PieFunnels", 231, ⟨"PieFunnels$Pie", "layer", "(I)I"⟩), ("PieFunnels", 250, ⟨"PieFunnels$Voice", "saysJust", "(LPieFunnels$Shelf;)Z"⟩), ("PieFunnels$Voice", 96, ⟨"PieFunnels$Shelf", "number", "(I)I"⟩), ("PieFunnels", 292, ⟨"PieFunnels$Voice", "saysSame", "(LPieFunnels$Voice;)Z"⟩), ("PieFunnels", 257, ⟨"PieFunnels$Pie", "unknowns", "()I"⟩), ("PieFunnels", 266, ⟨"PieFunnels$Pie", "fillUnknowns", "(I)V"⟩), ("PieFunnels", 305, ⟨"PieFunnels$Pie", "setLayer", "(II)V"⟩), ("PieFunnels", 274, ⟨"PieFunnels$Parting", "takeWishes", "(LPieFunnels$Shelf;)Z"⟩), ("PieFunnels$Parting", 33, ⟨"PieFunnels$Shelf", "number", "(I)I"⟩), ("PieFunnels", 280, ⟨"PieFunnels$Parting", "bringsOf", "(II)V"⟩), ("PieFunnels", 283, ⟨"PieFunnels$Parting", "part", "(I)V"⟩), ("PieFunnels", 289, ⟨"PieFunnels$Parting", "whomHas", "(I)I"⟩), ("PieFunnels", 296, ⟨"PieFunnels$Shelf", "number", "(I)I"⟩), ("PieFunnels", 302, ⟨"PieFunnels$Bakery", "draw", "(I)I"⟩), ("PieFunnels", 314, ⟨"PieFunnels$Moves", "forget", "()V"⟩), ("PieFunnels", 317, ⟨"PieFunnels$Moves", "take", "(LPieFunnels$Bakery;I)V"⟩), ("PieFunnels$Moves", 28, ⟨"PieFunnels$Bakery", "lacks", "(I)Z"⟩), ("PieFunnels", 321, ⟨"PieFunnels$Moves", "run", "(LPieFunnels$Moves;IIII)I"⟩), ("PieFunnels", 325, ⟨"PieFunnels$Moves", "traced", "()I"⟩)]
def fk_strs : List (String × Nat × String × Nat) := [("PieFunnels$Reader", 100, "bird", 0), ("PieFunnels$Reader", 102, "heat", 1), ("PieFunnels$Reader", 103, "state", 2), ("PieFunnels$Reader", 104, "goes", 3), ("PieFunnels$Reader", 106, "ill", 4), ("PieFunnels$Reader", 108, "well", 5), ("PieFunnels$Reader", 110, "", 6), ("PieFunnelsModel", 159, "bird", 0), ("PieFunnelsModel", 167, "heat", 1), ("PieFunnelsModel", 169, "state", 2), ("PieFunnelsModel", 171, "goes", 3), ("PieFunnelsModel", 173, "ill", 4), ("PieFunnelsModel", 175, "well", 5)]
/-! The frame: one world of numbered cells, one state, one judgement fk_J that runs the machine beside a pure program. -/
abbrev fkS : Type := (Nat → Nat → Int32) × (Nat → Nat → Int32) × (Nat → Nat → Int64) × Option Nat
def gI (s : fkS) (f i : Nat) : Int32 := s.1 f i
def gA (s : fkS) (i : Nat) : Nat → Int32 := s.2.1 i
def gL (s : fkS) (i : Nat) : Nat → Int64 := s.2.2.1 i
def gT (s : fkS) : Option Nat := s.2.2.2
def sI (s : fkS) (f i : Nat) (v : Int32) : fkS := (fun f' i' => if f' = f ∧ i' = i then v else s.1 f' i', s.2)
def sAF (s : fkS) (i : Nat) (h : Nat → Int32) : fkS := (s.1, (fun i' => if i' = i then h else s.2.1 i'), s.2.2)
def sLF (s : fkS) (i : Nat) (h : Nat → Int64) : fkS := (s.1, s.2.1, (fun i' => if i' = i then h else s.2.2.1 i'), s.2.2.2)
def sT (s : fkS) (t : Option Nat) : fkS := (s.1, s.2.1, s.2.2.1, t)
def sA (s : fkS) (i j : Nat) (v : Int32) : fkS := sAF s i (upd (gA s i) j v)
def sL (s : fkS) (i j : Nat) (v : Int64) : fkS := sLF s i (vp_updL (gL s i) j v)
theorem gI_sI {s : fkS} {f i f' i' : Nat} {v : Int32} : gI (sI s f i v) f' i' = if f' = f ∧ i' = i then v else gI s f' i' := rfl
theorem gA_sI {s : fkS} {f i : Nat} {v : Int32} {i' : Nat} : gA (sI s f i v) i' = gA s i' := rfl
theorem gL_sI {s : fkS} {f i : Nat} {v : Int32} {i' : Nat} : gL (sI s f i v) i' = gL s i' := rfl
theorem gT_sI {s : fkS} {f i : Nat} {v : Int32} : gT (sI s f i v) = gT s := rfl
theorem gI_sAF {s : fkS} {i : Nat} {h : Nat → Int32} {f' i' : Nat} : gI (sAF s i h) f' i' = gI s f' i' := rfl
theorem gA_sAF {s : fkS} {i : Nat} {h : Nat → Int32} {i' : Nat} : gA (sAF s i h) i' = if i' = i then h else gA s i' := rfl
theorem gL_sAF {s : fkS} {i : Nat} {h : Nat → Int32} {i' : Nat} : gL (sAF s i h) i' = gL s i' := rfl
theorem gT_sAF {s : fkS} {i : Nat} {h : Nat → Int32} : gT (sAF s i h) = gT s := rfl
theorem gI_sLF {s : fkS} {i : Nat} {h : Nat → Int64} {f' i' : Nat} : gI (sLF s i h) f' i' = gI s f' i' := rfl
theorem gA_sLF {s : fkS} {i : Nat} {h : Nat → Int64} {i' : Nat} : gA (sLF s i h) i' = gA s i' := rfl
theorem gL_sLF {s : fkS} {i : Nat} {h : Nat → Int64} {i' : Nat} : gL (sLF s i h) i' = if i' = i then h else gL s i' := rfl
theorem gT_sLF {s : fkS} {i : Nat} {h : Nat → Int64} : gT (sLF s i h) = gT s := rfl
theorem gI_sT {s : fkS} {t : Option Nat} {f' i' : Nat} : gI (sT s t) f' i' = gI s f' i' := rfl
theorem gA_sT {s : fkS} {t : Option Nat} {i' : Nat} : gA (sT s t) i' = gA s i' := rfl
theorem gL_sT {s : fkS} {t : Option Nat} {i' : Nat} : gL (sT s t) i' = gL s i' := rfl
theorem gT_sT {s : fkS} {t : Option Nat} : gT (sT s t) = t := rfl
theorem gI_sA {s : fkS} {i j : Nat} {v : Int32} {f' i' : Nat} : gI (sA s i j v) f' i' = gI s f' i' := rfl
theorem gA_sA {s : fkS} {i j : Nat} {v : Int32} {i' : Nat} : gA (sA s i j v) i' = if i' = i then upd (gA s i) j v else gA s i' := rfl
theorem gL_sA {s : fkS} {i j : Nat} {v : Int32} {i' : Nat} : gL (sA s i j v) i' = gL s i' := rfl
theorem gT_sA {s : fkS} {i j : Nat} {v : Int32} : gT (sA s i j v) = gT s := rfl
theorem gI_sL {s : fkS} {i j : Nat} {v : Int64} {f' i' : Nat} : gI (sL s i j v) f' i' = gI s f' i' := rfl
theorem gA_sL {s : fkS} {i j : Nat} {v : Int64} {i' : Nat} : gA (sL s i j v) i' = gA s i' := rfl
theorem gL_sL {s : fkS} {i j : Nat} {v : Int64} {i' : Nat} : gL (sL s i j v) i' = if i' = i then vp_updL (gL s i) j v else gL s i' := rfl
theorem gT_sL {s : fkS} {i j : Nat} {v : Int64} : gT (sL s i j v) = gT s := rfl
/-- the pure programs' words -/
def fk_let {α β : Type} (a : α) (f : α → β) : β := f a
def fk_chk {α : Type} (b : Bool) (F : Option α) : Option α := match b with
  | true => F
  | false => none
def fk_in (i : Int32) (n : Nat) : Bool := !(decide (i < 0) || decide (n ≤ i.toNatClampNeg))
theorem fk_in_vp {i : Int32} {n : Nat} (h : fk_in i n = true) : vp_in i n := by
  unfold fk_in at h
  unfold vp_in
  simp only [Bool.not_eq_true', Bool.or_eq_false_iff, decide_eq_false_iff_not] at h
  exact fun q => q.elim h.1 h.2
def fk_nz (y : Int32) : Bool := !(decide (y = 0))
theorem fk_nz_ne {y : Int32} (h : fk_nz y = true) : ¬ y = 0 := by
  unfold fk_nz at h
  simpa using h
def fk_fuel : Nat := 1200
/-- the globals: addresses of the cells, the classes' numbers, the array classes, the two static rows, the seven texts and their bytes -/
abbrev fkG : Type := (Nat → Nat) × va_G × (ClassId × ClassId × ClassId) × (Nat × Nat) × ((Nat → Nat) × (Nat → Nat))
abbrev fkW : Type := (fkG → fkS → Nat → va_E) × Nat
abbrev fkK : Type := Program × Launch × Env × Room × State × MethodId × Array Value × List Frame × Method × Code × Option Value × fkS
def fk_r (g : fkG) (i : Nat) : Value := .ref (g.1 i)
def fk_q (g : fkG) (i : Nat) : Value := .ref (g.2.2.2.2.1 i)
def fk_ws (w : fkW) (g : fkG) (st : fkS) : va_W := (List.range w.2).map (fun i => (g.1 i, w.1 g st i))
def fk_A (w : fkW) (g : fkG) (sz : Nat) : Nat → Prop := fun q => (∃ i, i < w.2 ∧ q = g.1 i) ∨ sz ≤ q
def fk_inj (w : fkW) (g : fkG) : Prop := ∀ i j, i < w.2 → j < w.2 → g.1 i = g.1 j → i = j
def fk_tys (g : fkG) : List (ClassId × FieldType) := [(g.2.2.1.1, .int), (g.2.2.1.2.1, .long), (g.2.2.1.2.2, .object "PieFunnels$Shelf")]
def fk_nests : List Cond := fk_nF.map (fun q => .fieldLinkNest q.1 q.2.1 q.2.2.1 q.2.2.2.1 q.2.2.2.2 "PieFunnels") ++ fk_nM.map (fun q => .methodLinkNest q.1 q.2.1 q.2.2 "PieFunnels")
def fk_len : List Nat := [4, 4, 5, 4, 3, 4, 0]
def fk_byt : List (List Int32) := [[98, 105, 114, 100], [104, 101, 97, 116], [115, 116, 97, 116, 101], [103, 111, 101, 115], [105, 108, 108], [119, 101, 108, 108], []]
def fk_kaL : List Int32 := [-1, 0, 0, 1, 0, 2, 3]
def fk_boL : List Int32 := [10, 20, 0, 40, 51, 0, 70, 11, 0, 30, 0, 0, 0, 71, 12, 0, 0, 0, 50, 60, 0]
def fk_ka (j : Nat) : Int32 := fk_kaL.getD j 0
def fk_bo (j : Nat) : Int32 := fk_boL.getD j 0
/-- what stays as it is: links by the nest, the static rows, the texts -/
def fk_env (g : fkG) (A : Nat → Prop) (U : State) : Prop :=
  (∀ w ∈ fk_nests, va_Nw w U) ∧ va_Z "PieFunnels" "KIND_ABOVE" "[I" (.ref g.2.2.2.1.1) A U U.heap ∧ va_T .int g.2.2.2.1.1 7 (fun j => .int (fk_ka j)) A U U.heap ∧
  va_Z "PieFunnels$Moves" "BODIES" "[I" (.ref g.2.2.2.1.2) A U U.heap ∧ va_T .int g.2.2.2.1.2 21 (fun j => .int (fk_bo j)) A U U.heap ∧
  vk_S 7 fk_len fk_byt g.2.2.2.2.1 g.2.2.2.2.2 A U U.heap ∧ (∀ q ∈ fk_strs, vk_R q.1 q.2.1 q.2.2.1 (g.2.2.2.2.1 q.2.2.2) U) ∧
  va_Z "java/lang/String" "COMPACT_STRINGS" "Z" (.int 1) A U U.heap ∧ va_Zq "jdk/internal/util/Preconditions" "SIOOBE_FORMATTER" "Ljava/util/function/BiFunction;" A U U.heap
theorem fk_nests_warm {s U : State} (hW : s.WarmedH U.vm) (h : ∀ w ∈ fk_nests, va_Nw w s) : ∀ w ∈ fk_nests, va_Nw w U := by
  intro w hw
  have h1 := h w hw
  rcases List.mem_append.mp hw with q | q
  · obtain ⟨x, -, rfl⟩ := List.mem_map.mp q
    exact va_Nw.warmF hW h1
  · obtain ⟨x, -, rfl⟩ := List.mem_map.mp q
    exact va_Nw.warmM hW h1
theorem fk_nests_same {s U : State} (hv : s.vm = U.vm) (h : ∀ w ∈ fk_nests, va_Nw w s) : ∀ w ∈ fk_nests, va_Nw w U := by
  intro w hw
  have h1 := h w hw
  rcases List.mem_append.mp hw with q | q
  · obtain ⟨x, -, rfl⟩ := List.mem_map.mp q
    exact va_Nw.same rfl hv h1
  · obtain ⟨x, -, rfl⟩ := List.mem_map.mp q
    exact va_Nw.same rfl hv h1
theorem fk_env.blind {g : fkG} {A : Nat → Prop} {U : State} (h : fk_env g A U) (f : JFrame) (mk : MethodId) (a : Array Value) : fk_env g A (U.calling f mk a) := by
  obtain ⟨h1, h2, h3, h4, h5, h6, h7, h8, h9⟩ := h
  exact ⟨fk_nests_same (s := U) (U := U.calling f mk a) rfl h1, va_Z.moved (u := U) (U := U.calling f mk a) (Vm.Alike.refl U.vm) h2, va_T.moved (u := U) (U := U.calling f mk a) (Vm.Alike.refl U.vm) h3,
    va_Z.moved (u := U) (U := U.calling f mk a) (Vm.Alike.refl U.vm) h4, va_T.moved (u := U) (U := U.calling f mk a) (Vm.Alike.refl U.vm) h5,
    vk_S.moved (u := U) (U := U.calling f mk a) (Vm.Alike.refl U.vm) h6, fun q hq => vk_R.same (u := U) (U := U.calling f mk a) rfl (h7 q hq), va_Z.moved (u := U) (U := U.calling f mk a) (Vm.Alike.refl U.vm) h8, va_Zq.moved (u := U) (U := U.calling f mk a) (Vm.Alike.refl U.vm) h9⟩
theorem fk_env.go {g : fkG} {A B : Nat → Prop} {s U : State} (h : fk_env g A s) (hW : s.WarmedH U.vm) (hk : ∀ a : Nat, a < s.heap.size → ¬ A a → U.heap[a]? = s.heap[a]?) (hAB : ∀ q, B q → A q) : fk_env g B U := by
  obtain ⟨h1, h2, h3, h4, h5, h6, h7, h8, h9⟩ := h
  exact ⟨fk_nests_warm hW h1, (va_Z.moved hW.alike (h2.kept hk)).narrow hAB, (va_T.moved hW.alike (h3.kept hk)).narrow hAB, (va_Z.moved hW.alike (h4.kept hk)).narrow hAB, (va_T.moved hW.alike (h5.kept hk)).narrow hAB,
    (vk_S.moved hW.alike (h6.kept hk)).narrow hAB, fun q hq => vk_R.warm hW (h7 q hq), (va_Z.moved hW.alike (h8.kept hk)).narrow hAB, (va_Zq.moved hW.alike (h9.kept hk)).narrow hAB⟩
/-- the words: all of the tables that stay true -/
def fkB : List Cond := lw_tbl.filter goodWord
theorem fkB_in {w : Cond} (h : w ∈ lw_tbl) (hg : goodWord w = true) : w ∈ fkB := List.mem_filter.mpr ⟨h, hg⟩
theorem fkB_good {y : MethodName} {b : ByteArray} {n : Nat} {ret : Option FieldType} (h : Cond.code y b n ret ∈ fkB) : GoodIn fkB (Cond.code y b n ret :: fkB) := by
  intro w hw
  rcases List.mem_cons.mp hw with rfl | q
  · exact ⟨h, good_of_word rfl⟩
  · exact ⟨q, good_of_word (List.mem_filter.mp q).2⟩
/-- the world's cells -/
theorem fk_wat {w : fkW} {g : fkG} {st : fkS} {i : Nat} (h : i < w.2) : (fk_ws w g st)[i]? = some (g.1 i, w.1 g st i) := by
  simp [fk_ws, h]
theorem fk_wof {w : fkW} {g : fkG} {st : fkS} {i : Nat} {q : Nat × va_E} (h : (fk_ws w g st)[i]? = some q) : i < w.2 ∧ q = (g.1 i, w.1 g st i) := by
  have hi : i < w.2 := by
    have h1 := (List.getElem?_eq_some_iff.mp h).1
    simpa [fk_ws] using h1
  rw [fk_wat hi] at h
  exact ⟨hi, (Option.some.inj h).symm⟩
theorem fk_wset {w : fkW} {g : fkG} {st st' : fkS} {i : Nat} {e : va_E} (hi : i < w.2) (hE : ∀ j, j < w.2 → j ≠ i → w.1 g st' j = w.1 g st j) (he : w.1 g st' i = e) : (fk_ws w g st).set i (g.1 i, e) = fk_ws w g st' := by
  apply List.ext_getElem?
  intro k
  rw [List.getElem?_set]
  by_cases hk : i = k
  · subst hk
    have hl : i < (fk_ws w g st).length := by simpa [fk_ws] using hi
    rw [if_pos rfl, if_pos hl, fk_wat hi, he]
  · rw [if_neg hk]
    by_cases hk2 : k < w.2
    · rw [fk_wat hk2, fk_wat hk2, hE k hk2 (fun q => hk q.symm)]
    · have h1 : (fk_ws w g st)[k]? = none := by simp [fk_ws]; omega
      have h2 : (fk_ws w g st')[k]? = none := by simp [fk_ws]; omega
      rw [h1, h2]
theorem fk_wD {w : fkW} {g : fkG} (hi : fk_inj w g) (sz : Nat) (st : fkS) : va_D (fk_A w g sz) (fk_ws w g st) := by
  refine ⟨fun i j p q hp hq hpq => ?_, fun k q hk => ?_⟩
  · obtain ⟨h1, rfl⟩ := fk_wof hp
    obtain ⟨h2, rfl⟩ := fk_wof hq
    exact hi i j h1 h2 hpq
  · obtain ⟨h1, rfl⟩ := fk_wof hk
    exact Or.inl ⟨k, h1, rfl⟩
theorem fk_wX {w : fkW} {g : fkG} {sz : Nat} {st : fkS} : ∀ q, va_A (fk_ws w g st) sz q → fk_A w g sz q := by
  rintro q (⟨k, e, hk⟩ | h)
  · obtain ⟨h1, h2⟩ := fk_wof hk
    exact Or.inl ⟨k, h1, congrArg Prod.fst h2⟩
  · exact Or.inr h
/-- what holds of a state where a method is entered -/
def fk_B (w : fkW) (g : fkG) (st : fkS) (sz : Nat) (U : State) : Prop := U.heap.size = sz ∧ va_P g.2.1 vwCl (fk_ws w g st) U.heap ∧ va_K g.2.1 vwCl (fk_tys g) U ∧ fk_env g (fk_A w g sz) U
def fk_Q (w : fkW) (g : fkG) (sz : Nat) (rv : Option Value) (st' : fkS) : Array Value → State → Outcome → State → Prop := fun _ s0 oc t => oc = .returned rv ∧ va_P g.2.1 vwCl (fk_ws w g st') t.heap ∧ va_F (fk_A w g sz) s0 t
/-- a contract -/
def fk_C (w : fkW) (y : MethodName) (b : ByteArray) (n : Nat) (ret : Option FieldType) (fr lo : Nat) (l : Launch) (g : fkG) (av : List Value) (st : fkS) (rv : Option Value) (st' : fkS) : Prop :=
  fk_inj w g → ∀ sz : Nat, Met l y (Cond.code y b n ret :: fkB) ({ frames := fr, cells := 0, slots := 0, locals := lo }) (va_Pc av (fk_B w g st sz)) (fk_Q w g sz rv st') 0 0 (fk_A w g sz)
/-- the judgement -/
def fk_V (w : fkW) (g : fkG) (k : fkK) (pc : Nat) (lv : List (Nat × Value)) (stk : List Value) (st : fkS) : Prop := match k with
  | (p, l, e, R, s, m, args, below, meth, c, rv, sf) => ∀ (H : Heap) (locs : List Loc) (ls : Array Slot), lv_has ls c.maxLocals lv → va_P g.2.1 vwCl (fk_ws w g st) H → va_S (fk_A w g s.heap.size) s.heap H locs →
    W p l e R s m args below meth c H locs 0 0 (MQ below (fk_Q w g s.heap.size rv sf) args s 0 0 (fk_A w g s.heap.size)) (F0 m pc ls stk)
def fk_out (k : fkK) : Option Value × fkS := match k with
  | (_, _, _, _, _, _, _, _, _, _, rv, sf) => (rv, sf)
def fk_ok (w : fkW) (g : fkG) (k : fkK) (own : String) (cc : ByteArray) (nL : Nat) (ret : Option FieldType) (fr lo : Nat) : Prop := match k with
  | (p, _, _, R, s, m, args, _, meth, c, _, _) => p.tables.exec = Jvm.exec ∧ c.code = cc ∧ c.maxLocals = nL ∧ s.vm.findClass own = some m.cls ∧ (∀ w ∈ fkB, w.before args s = true) ∧ va_K g.2.1 vwCl (fk_tys g) s ∧ fk_env g (fk_A w g s.heap.size) s ∧
    meth.sig.returnType = ret ∧ meth.locks = false ∧ fk_inj w g ∧ fr ≤ R.frames ∧ lo ≤ R.locals
def fk_J (w : fkW) (g : fkG) {ρ : Type} (en : ρ → Option Value) (k : fkK) (pc : Nat) (lv : List (Nat × Value)) (stk : List Value) (st : fkS) (F : Option (ρ × fkS)) : Prop :=
  ∀ o : ρ × fkS, F = some o → (en o.1, o.2) = fk_out k → fk_V w g k pc lv stk st
def fk_eI (x : Int32) : Option Value := some (.int x)
def fk_eL (x : Int64) : Option Value := some (.long x)
def fk_eU (_ : Unit) : Option Value := none
def fk_eQ (g : fkG) (x : Nat) : Option Value := some (fk_q g x)
/-- a contract out of a walk -/
theorem fk_begin {w : fkW} {y : MethodName} {b : ByteArray} {n : Nat} {ret : Option FieldType} {fr lo : Nat} {l : Launch} {g : fkG} {av : List Value} {st : fkS} {ρ : Type} {en : ρ → Option Value} {F : Option (ρ × fkS)} (hy : plainName y.cls = true) (hs : (lg_sl av).length ≤ n)
    (h : ∀ k : fkK, fk_ok w g k y.cls b n ret fr lo → fk_J w g en k 0 (lv_args 0 av) [] st F) (o : ρ × fkS) (ho : F = some o) : fk_C w y b n ret fr lo l g av st (en o.1) o.2 := by
  intro hinj sz
  refine Met.ofW (cc := b) (maxL := n) (ret := ret) hy rfl ?_
  intro p e s m args below meth c s₁ B hml hv
  obtain ⟨rfl, hsz, hP, hK, hE⟩ := hv
  subst hsz
  have hts := atoms_spec (ws := Cond.code y b n ret :: fkB) B.pre
  have hlv := lv_entry av (n := n) hs
  rw [lg_entry_eq]
  have hk : fk_ok w g (p, l, e, (headSpec (Cond.code y b n ret :: fkB) ({ frames := fr, cells := 0, slots := 0, locals := lo })).room, s, m, av.toArray, below, meth, c, en o.1, o.2) y.cls b n ret fr lo :=
    ⟨B.exec, B.bytes, hml, findClass_of_methodNamed B.named, fun w hw => hts w (List.mem_cons_of_mem _ hw), hK, hE, B.returns, B.notSynchronized, hinj, Nat.le_refl _, Nat.le_refl _⟩
  exact h _ hk o ho rfl s.heap [] _ (by rw [hml]; exact hlv) hP va_S.rf
/-- what comes behind a call -/
theorem fk_after {p : Program} {l : Launch} {e : Env} {R : Room} {s : State} {m : MethodId} {args : Array Value} {below : List Frame} {meth : Method} {c : Code} {H : Heap} {locs : List Loc} {Q : State → Prop} {pc : Nat} {ls : Array Slot} {st0 rest : List Value}
    {D : va_G} {cl : List vw_C} {ws1 : va_W} {rv : Option Value} {A0 A1 : Nat → Prop} {H0 : Heap}
    (hr : va_Run p l e R s m args below meth c H locs 0 0 0 0 (F0 m pc ls st0) rest (fun s0 oc t => oc = .returned rv ∧ va_P D cl ws1 t.heap ∧ va_F A1 s0 t) A1) (hS : va_S A0 H0 H locs) (hA : ∀ q, q < H.size → A1 q → A0 q) (hf : ∀ q, A1 q → A0 q)
    (kk : ∀ (H1 : Heap) (locs1 : List Loc), va_P D cl ws1 H1 → va_S A0 H0 H1 locs1 → W p l e R s m args below meth c H1 locs1 0 0 Q (F0 m (pc + 3) ls (rv.toList ++ rest))) : W p l e R s m args below meth c H locs 0 0 Q (F0 m pc ls st0) := by
  intro T hT X
  obtain ⟨v, st₀, t, T', L, h0, X', hL, e1, e2, ⟨hv, hp, hz, hk⟩, st⟩ := hr T hT X
  cases hv
  rw [h0] at hz hk
  obtain ⟨t2, a1, b1⟩ := kk T'.heap (locs ++ L) (by rw [e1]; exact hp)
    ⟨Nat.le_trans hS.1 (by rw [e1]; exact hz), fun q h1 h2 => by rw [e1, hk q (Nat.lt_of_lt_of_le h1 hS.1) (fun z => h2 (hA q (Nat.lt_of_lt_of_le h1 hS.1) z))]; exact hS.2.1 q h1 h2, fun q hq => by
      rcases List.mem_append.mp hq with h | h
      · exact hS.2.2 q h
      · exact hf _ (hL q h)⟩ T' rfl X'
  exact ⟨t2, st t2 a1, b1⟩
theorem fk_A_up {w : fkW} {g : fkG} {a b : Nat} (h : a ≤ b) : ∀ q, fk_A w g b q → fk_A w g a q := by
  rintro q (h1 | h1)
  · exact Or.inl h1
  · exact Or.inr (Nat.le_trans h h1)
theorem fk_blind {w : fkW} {g : fkG} {st : fkS} {sz : Nat} {av : List Value} : FrameBlind (va_Pc av (fk_B w g st sz)) := by
  intro a U f mk h
  obtain ⟨h0, h1, h2, h3, h4⟩ := h
  exact ⟨h0, h1, h2, va_K.moved (u := U) (U := U.calling f mk a) (Vm.Alike.refl U.vm) h3, h4.blind f mk a⟩
theorem fk_pre {w : fkW} {g : fkG} {st : fkS} {av : List Value} {s U : State} {H : Heap} {locs : List Loc} (hK : va_K g.2.1 vwCl (fk_tys g) s) (hE : fk_env g (fk_A w g s.heap.size) s) (hP : va_P g.2.1 vwCl (fk_ws w g st) H) (hS : va_S (fk_A w g s.heap.size) s.heap H locs) (hU : U.heap = H) (hW : s.WarmedH U.vm) :
    va_Pc av (fk_B w g st H.size) av.toArray U := by
  subst hU
  exact ⟨rfl, rfl, hP, va_K.moved hW.alike hK, hE.go hW (fun a h1 h2 => hS.2.1 a h1 h2) (fk_A_up hS.1)⟩
