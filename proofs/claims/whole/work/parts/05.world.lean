def kdCL : List Nat := [7, 9, 11, 5, 5, 5, 5, 5, 5, 5, 5, 10, 10, 10, 10, 10, 10, 10, 10, 0, 0, 0, 9, 9, 9, 9, 9, 9, 9, 9, 9, 9, 9, 9, 4, 9, 1, 9, 3, 9, 6, 6, 9, 9, 2, 9, 9, 9]
def lnCL : List Nat := [0, 8, 8, 0, 0, 0, 0, 0, 0, 0, 0, 160, 160, 160, 160, 160, 160, 160, 160, 0, 0, 0, 7, 7, 7, 7, 7, 7, 7, 7, 7, 40, 40, 40, 0, 3, 0, 20, 0, 8, 0, 0, 16, 16, 0, 7, 7, 7]
def kdML : List Nat := [8, 9, 9, 9, 9, 9, 9, 9, 10, 9, 9, 9, 9, 9, 9, 9, 9, 9, 9, 9, 9, 9]
def lnML : List Nat := [0, 7, 7, 7, 3, 40, 8, 8, 1280, 3, 67, 20, 8, 67, 8, 16, 7, 14, 7, 7, 7, 7]
def kdC (i : Nat) : Nat := kdCL.getD i 99
def lnC (i : Nat) : Nat := lnCL.getD i 0
def kdM (i : Nat) : Nat := kdML.getD i 99
def lnM (i : Nat) : Nat := lnML.getD i 0
def xEC (g : fkG) (st : fkS) (i : Nat) : va_E := match kdC i with
  | 0 => .inr (0, [.int (gI st 0 i), fk_r g (i + 3), fk_r g (i + 6), fk_r g (i + 9), fk_r g (i + 12), .int (gI st 5 i), .int (gI st 6 i), .int (gI st 7 i), .int (gI st 8 i), .int (gI st 9 i), .int (gI st 10 i)])
  | 1 => .inr (1, [fk_r g (i + 1), .int (gI st 21 i), .int (gI st 22 i), .int (gI st 23 i), .int (gI st 24 i)])
  | 2 => .inr (2, [.int (gI st 40 i), .int (gI st 41 i), fk_r g (i + 1), fk_r g (i + 2), fk_r g (i + 3)])
  | 3 => .inr (3, [fk_r g (i + 1), .int (gI st 61 i)])
  | 4 => .inr (4, [.int (gI st 80 i), .int (gI st 81 i), va_rf ((gT st).map g.1), fk_r g (i + 1)])
  | 5 => .inr (5, [.int (gI st 100 i), .int (gI st 101 i), .int (gI st 102 i), .int (gI st 103 i), fk_r g (i + 8)])
  | 6 => .inr (6, [.int (gI st 120 i), .int (gI st 121 i), .int (gI st 122 i), .int (gI st 123 i), .int (gI st 124 i), fk_r g (i + 2)])
  | 7 => .inr (7, [fk_r g 2, fk_r g 19, fk_r g 20, fk_r g 21, .int (gI st 144 i), fk_r g 34, fk_r g 36, fk_r g 38, fk_r g 40, fk_r g 41, fk_r g 44, fk_r g 1])
  | 9 => .inl (g.2.2.1.1, lnC i, .inl (gA st i))
  | 10 => .inl (g.2.2.1.2.1, lnC i, .inr (.inl (gL st i)))
  | 11 => .inl (g.2.2.1.2.2, 8, .inr (.inr (.inr (.inr (fun j => some (g.1 (3 + j)))))))
  | _ => .inl (g.2.2.1.1, 0, .inl (fun _ => 0))
def xEM (g : fkG) (st : fkS) (i : Nat) : va_E := match kdM i with
  | 8 => .inr (8, (.int (gI st 0 i) :: fk_r g 1 :: fk_r g 2 :: fk_r g 3 :: fk_r g 4 :: fk_r g 5 :: .int (gI st 6 i) :: .int (gI st 7 i) :: .int (gI st 8 i) :: fk_r g 6 :: fk_r g 7 :: fk_r g 8 :: .int (gI st 12 i) :: .int (gI st 13 i) :: fk_r g 9 :: .int (gI st 15 i) :: fk_r g 10 :: .int (gI st 17 i) :: fk_r g 11 :: fk_r g 12 :: .int (gI st 20 i) :: fk_r g 13 :: .int (gI st 22 i) :: fk_r g 14 :: .int (gI st 24 i) :: fk_r g 15 :: .int (gI st 26 i) :: .int (gI st 27 i) :: fk_r g 16 :: fk_r g 17 :: fk_r g 18 :: .int (gI st 31 i) :: fk_r g 19 :: fk_r g 20 :: fk_r g 21 :: .int (gI st 35 i) :: .int (gI st 36 i) :: []))
  | 9 => .inl (g.2.2.1.1, lnM i, .inl (gA st i))
  | 10 => .inl (g.2.2.1.2.1, lnM i, .inr (.inl (gL st i)))
  | _ => .inl (g.2.2.1.1, 0, .inl (fun _ => 0))
def wC : fkW := (xEC, 48)
def wM : fkW := (xEM, 22)
theorem kdC_lt {i : Nat} (h : kdC i ≠ 99) : i < 48 := by
  rcases Nat.lt_or_ge i 48 with h1 | h1
  · exact h1
  · exfalso
    apply h
    unfold kdC
    rw [List.getD_eq_getElem?_getD, List.getElem?_eq_none (by rw [show kdCL.length = 48 from rfl]; exact h1)]
    rfl
theorem xEC_I {g : fkG} {st : fkS} {f i j : Nat} {v : Int32} (h : j ≠ i) : xEC g (sI st f i v) j = xEC g st j := by
  simp only [xEC, gI_sI, gA_sI, gL_sI, gT_sI, h, and_false, if_false]
theorem xEC_A {g : fkG} {st : fkS} {i j : Nat} {v : Nat → Int32} (h : j ≠ i) : xEC g (sAF st i v) j = xEC g st j := by
  simp only [xEC, gI_sAF, gA_sAF, gL_sAF, gT_sAF, h, if_false]
theorem xEC_L {g : fkG} {st : fkS} {i j : Nat} {v : Nat → Int64} (h : j ≠ i) : xEC g (sLF st i v) j = xEC g st j := by
  simp only [xEC, gI_sLF, gA_sLF, gL_sLF, gT_sLF, h, if_false]
theorem kdM_lt {i : Nat} (h : kdM i ≠ 99) : i < 22 := by
  rcases Nat.lt_or_ge i 22 with h1 | h1
  · exact h1
  · exfalso
    apply h
    unfold kdM
    rw [List.getD_eq_getElem?_getD, List.getElem?_eq_none (by rw [show kdML.length = 22 from rfl]; exact h1)]
    rfl
theorem xEM_I {g : fkG} {st : fkS} {f i j : Nat} {v : Int32} (h : j ≠ i) : xEM g (sI st f i v) j = xEM g st j := by
  simp only [xEM, gI_sI, gA_sI, gL_sI, gT_sI, h, and_false, if_false]
theorem xEM_A {g : fkG} {st : fkS} {i j : Nat} {v : Nat → Int32} (h : j ≠ i) : xEM g (sAF st i v) j = xEM g st j := by
  simp only [xEM, gI_sAF, gA_sAF, gL_sAF, gT_sAF, h, if_false]
theorem xEM_L {g : fkG} {st : fkS} {i j : Nat} {v : Nat → Int64} (h : j ≠ i) : xEM g (sLF st i v) j = xEM g st j := by
  simp only [xEM, gI_sLF, gA_sLF, gL_sLF, gT_sLF, h, if_false]
theorem kdC_4 : ∀ j, kdC j = 4 → j = 34 := by
  intro j h
  have h1 : j < 48 := kdC_lt (by rw [h]; decide)
  exact (show ∀ j, j < 48 → kdC j = 4 → j = 34 from by decide +kernel) j h1 h
theorem xEC_T {g : fkG} {st : fkS} {j : Nat} {t : Option Nat} (h : j ≠ 34) : xEC g (sT st t) j = xEC g st j := by
  have h4 : kdC j ≠ 4 := fun q => h (kdC_4 j q)
  unfold xEC
  split <;> first | rfl | (rename_i q; exact absurd q h4)
theorem at_0 {g : fkG} {st : fkS} {i : Nat} (h : kdC i = 0) : xEC g st i = .inr (0, [.int (gI st 0 i), fk_r g (i + 3), fk_r g (i + 6), fk_r g (i + 9), fk_r g (i + 12), .int (gI st 5 i), .int (gI st 6 i), .int (gI st 7 i), .int (gI st 8 i), .int (gI st 9 i), .int (gI st 10 i)]) := by
  unfold xEC
  rw [h]
  first | done | rfl
theorem wat_0 {g : fkG} {st : fkS} {i : Nat} (h : kdC i = 0) : (fk_ws wC g st)[i]? = some (g.1 i, .inr (0, [.int (gI st 0 i), fk_r g (i + 3), fk_r g (i + 6), fk_r g (i + 9), fk_r g (i + 12), .int (gI st 5 i), .int (gI st 6 i), .int (gI st 7 i), .int (gI st 8 i), .int (gI st 9 i), .int (gI st 10 i)])) := by
  rw [fk_wat (w := wC) (kdC_lt (by rw [h]; decide))]
  show some (g.1 i, xEC g st i) = _
  rw [at_0 h]
theorem rcv_0 {g : fkG} {i : Nat} (h : kdC i = 0) : fk_rcv wC g i RX0 := by
  refine ⟨kdC_lt (by rw [h]; decide), fun st => ⟨0, _, _, at_0 h, rfl, rfl⟩⟩
theorem wB_0 : ∀ w ∈ u_ws RX0 TX0 11, w ∈ fkB := fun w h => fkB_in ((show ∀ w ∈ u_ws RX0 TX0 11, w ∈ lw_tbl from by decide +kernel) w h) (List.all_eq_true.mp (show (u_ws RX0 TX0 11).all goodWord = true from by decide +kernel) w h)
theorem wst_0_0 {g : fkG} {st : fkS} {i : Nat} {v : Int32} (h : kdC i = 0) : (fk_ws wC g st).set i (g.1 i, .inr (0, [.int v, fk_r g (i + 3), fk_r g (i + 6), fk_r g (i + 9), fk_r g (i + 12), .int (gI st 5 i), .int (gI st 6 i), .int (gI st 7 i), .int (gI st 8 i), .int (gI st 9 i), .int (gI st 10 i)])) = fk_ws wC g (sI st 0 i v) := by
  refine fk_wset (w := wC) (kdC_lt (by rw [h]; decide)) (fun j _ hj => xEC_I hj) ?_
  show xEC g (sI st 0 i v) i = _
  rw [at_0 h]
  simp [gI_sI, gT_sI]
theorem wst_0_5 {g : fkG} {st : fkS} {i : Nat} {v : Int32} (h : kdC i = 0) : (fk_ws wC g st).set i (g.1 i, .inr (0, [.int (gI st 0 i), fk_r g (i + 3), fk_r g (i + 6), fk_r g (i + 9), fk_r g (i + 12), .int v, .int (gI st 6 i), .int (gI st 7 i), .int (gI st 8 i), .int (gI st 9 i), .int (gI st 10 i)])) = fk_ws wC g (sI st 5 i v) := by
  refine fk_wset (w := wC) (kdC_lt (by rw [h]; decide)) (fun j _ hj => xEC_I hj) ?_
  show xEC g (sI st 5 i v) i = _
  rw [at_0 h]
  simp [gI_sI, gT_sI]
theorem wst_0_6 {g : fkG} {st : fkS} {i : Nat} {v : Int32} (h : kdC i = 0) : (fk_ws wC g st).set i (g.1 i, .inr (0, [.int (gI st 0 i), fk_r g (i + 3), fk_r g (i + 6), fk_r g (i + 9), fk_r g (i + 12), .int (gI st 5 i), .int v, .int (gI st 7 i), .int (gI st 8 i), .int (gI st 9 i), .int (gI st 10 i)])) = fk_ws wC g (sI st 6 i v) := by
  refine fk_wset (w := wC) (kdC_lt (by rw [h]; decide)) (fun j _ hj => xEC_I hj) ?_
  show xEC g (sI st 6 i v) i = _
  rw [at_0 h]
  simp [gI_sI, gT_sI]
theorem wst_0_7 {g : fkG} {st : fkS} {i : Nat} {v : Int32} (h : kdC i = 0) : (fk_ws wC g st).set i (g.1 i, .inr (0, [.int (gI st 0 i), fk_r g (i + 3), fk_r g (i + 6), fk_r g (i + 9), fk_r g (i + 12), .int (gI st 5 i), .int (gI st 6 i), .int v, .int (gI st 8 i), .int (gI st 9 i), .int (gI st 10 i)])) = fk_ws wC g (sI st 7 i v) := by
  refine fk_wset (w := wC) (kdC_lt (by rw [h]; decide)) (fun j _ hj => xEC_I hj) ?_
  show xEC g (sI st 7 i v) i = _
  rw [at_0 h]
  simp [gI_sI, gT_sI]
theorem wst_0_8 {g : fkG} {st : fkS} {i : Nat} {v : Int32} (h : kdC i = 0) : (fk_ws wC g st).set i (g.1 i, .inr (0, [.int (gI st 0 i), fk_r g (i + 3), fk_r g (i + 6), fk_r g (i + 9), fk_r g (i + 12), .int (gI st 5 i), .int (gI st 6 i), .int (gI st 7 i), .int v, .int (gI st 9 i), .int (gI st 10 i)])) = fk_ws wC g (sI st 8 i v) := by
  refine fk_wset (w := wC) (kdC_lt (by rw [h]; decide)) (fun j _ hj => xEC_I hj) ?_
  show xEC g (sI st 8 i v) i = _
  rw [at_0 h]
  simp [gI_sI, gT_sI]
theorem wst_0_9 {g : fkG} {st : fkS} {i : Nat} {v : Int32} (h : kdC i = 0) : (fk_ws wC g st).set i (g.1 i, .inr (0, [.int (gI st 0 i), fk_r g (i + 3), fk_r g (i + 6), fk_r g (i + 9), fk_r g (i + 12), .int (gI st 5 i), .int (gI st 6 i), .int (gI st 7 i), .int (gI st 8 i), .int v, .int (gI st 10 i)])) = fk_ws wC g (sI st 9 i v) := by
  refine fk_wset (w := wC) (kdC_lt (by rw [h]; decide)) (fun j _ hj => xEC_I hj) ?_
  show xEC g (sI st 9 i v) i = _
  rw [at_0 h]
  simp [gI_sI, gT_sI]
theorem wst_0_10 {g : fkG} {st : fkS} {i : Nat} {v : Int32} (h : kdC i = 0) : (fk_ws wC g st).set i (g.1 i, .inr (0, [.int (gI st 0 i), fk_r g (i + 3), fk_r g (i + 6), fk_r g (i + 9), fk_r g (i + 12), .int (gI st 5 i), .int (gI st 6 i), .int (gI st 7 i), .int (gI st 8 i), .int (gI st 9 i), .int v])) = fk_ws wC g (sI st 10 i v) := by
  refine fk_wset (w := wC) (kdC_lt (by rw [h]; decide)) (fun j _ hj => xEC_I hj) ?_
  show xEC g (sI st 10 i v) i = _
  rw [at_0 h]
  simp [gI_sI, gT_sI]
theorem at_1 {g : fkG} {st : fkS} {i : Nat} (h : kdC i = 1) : xEC g st i = .inr (1, [fk_r g (i + 1), .int (gI st 21 i), .int (gI st 22 i), .int (gI st 23 i), .int (gI st 24 i)]) := by
  unfold xEC
  rw [h]
  first | done | rfl
theorem wat_1 {g : fkG} {st : fkS} {i : Nat} (h : kdC i = 1) : (fk_ws wC g st)[i]? = some (g.1 i, .inr (1, [fk_r g (i + 1), .int (gI st 21 i), .int (gI st 22 i), .int (gI st 23 i), .int (gI st 24 i)])) := by
  rw [fk_wat (w := wC) (kdC_lt (by rw [h]; decide))]
  show some (g.1 i, xEC g st i) = _
  rw [at_1 h]
theorem rcv_1 {g : fkG} {i : Nat} (h : kdC i = 1) : fk_rcv wC g i RX1 := by
  refine ⟨kdC_lt (by rw [h]; decide), fun st => ⟨1, _, _, at_1 h, rfl, rfl⟩⟩
theorem wB_1 : ∀ w ∈ u_ws RX1 TX1 5, w ∈ fkB := fun w h => fkB_in ((show ∀ w ∈ u_ws RX1 TX1 5, w ∈ lw_tbl from by decide +kernel) w h) (List.all_eq_true.mp (show (u_ws RX1 TX1 5).all goodWord = true from by decide +kernel) w h)
theorem wst_1_1 {g : fkG} {st : fkS} {i : Nat} {v : Int32} (h : kdC i = 1) : (fk_ws wC g st).set i (g.1 i, .inr (1, [fk_r g (i + 1), .int v, .int (gI st 22 i), .int (gI st 23 i), .int (gI st 24 i)])) = fk_ws wC g (sI st 21 i v) := by
  refine fk_wset (w := wC) (kdC_lt (by rw [h]; decide)) (fun j _ hj => xEC_I hj) ?_
  show xEC g (sI st 21 i v) i = _
  rw [at_1 h]
  simp [gI_sI, gT_sI]
theorem wst_1_2 {g : fkG} {st : fkS} {i : Nat} {v : Int32} (h : kdC i = 1) : (fk_ws wC g st).set i (g.1 i, .inr (1, [fk_r g (i + 1), .int (gI st 21 i), .int v, .int (gI st 23 i), .int (gI st 24 i)])) = fk_ws wC g (sI st 22 i v) := by
  refine fk_wset (w := wC) (kdC_lt (by rw [h]; decide)) (fun j _ hj => xEC_I hj) ?_
  show xEC g (sI st 22 i v) i = _
  rw [at_1 h]
  simp [gI_sI, gT_sI]
theorem wst_1_3 {g : fkG} {st : fkS} {i : Nat} {v : Int32} (h : kdC i = 1) : (fk_ws wC g st).set i (g.1 i, .inr (1, [fk_r g (i + 1), .int (gI st 21 i), .int (gI st 22 i), .int v, .int (gI st 24 i)])) = fk_ws wC g (sI st 23 i v) := by
  refine fk_wset (w := wC) (kdC_lt (by rw [h]; decide)) (fun j _ hj => xEC_I hj) ?_
  show xEC g (sI st 23 i v) i = _
  rw [at_1 h]
  simp [gI_sI, gT_sI]
theorem wst_1_4 {g : fkG} {st : fkS} {i : Nat} {v : Int32} (h : kdC i = 1) : (fk_ws wC g st).set i (g.1 i, .inr (1, [fk_r g (i + 1), .int (gI st 21 i), .int (gI st 22 i), .int (gI st 23 i), .int v])) = fk_ws wC g (sI st 24 i v) := by
  refine fk_wset (w := wC) (kdC_lt (by rw [h]; decide)) (fun j _ hj => xEC_I hj) ?_
  show xEC g (sI st 24 i v) i = _
  rw [at_1 h]
  simp [gI_sI, gT_sI]
theorem at_2 {g : fkG} {st : fkS} {i : Nat} (h : kdC i = 2) : xEC g st i = .inr (2, [.int (gI st 40 i), .int (gI st 41 i), fk_r g (i + 1), fk_r g (i + 2), fk_r g (i + 3)]) := by
  unfold xEC
  rw [h]
  first | done | rfl
theorem wat_2 {g : fkG} {st : fkS} {i : Nat} (h : kdC i = 2) : (fk_ws wC g st)[i]? = some (g.1 i, .inr (2, [.int (gI st 40 i), .int (gI st 41 i), fk_r g (i + 1), fk_r g (i + 2), fk_r g (i + 3)])) := by
  rw [fk_wat (w := wC) (kdC_lt (by rw [h]; decide))]
  show some (g.1 i, xEC g st i) = _
  rw [at_2 h]
theorem rcv_2 {g : fkG} {i : Nat} (h : kdC i = 2) : fk_rcv wC g i RX2 := by
  refine ⟨kdC_lt (by rw [h]; decide), fun st => ⟨2, _, _, at_2 h, rfl, rfl⟩⟩
theorem wB_2 : ∀ w ∈ u_ws RX2 TX2 5, w ∈ fkB := fun w h => fkB_in ((show ∀ w ∈ u_ws RX2 TX2 5, w ∈ lw_tbl from by decide +kernel) w h) (List.all_eq_true.mp (show (u_ws RX2 TX2 5).all goodWord = true from by decide +kernel) w h)
theorem wst_2_0 {g : fkG} {st : fkS} {i : Nat} {v : Int32} (h : kdC i = 2) : (fk_ws wC g st).set i (g.1 i, .inr (2, [.int v, .int (gI st 41 i), fk_r g (i + 1), fk_r g (i + 2), fk_r g (i + 3)])) = fk_ws wC g (sI st 40 i v) := by
  refine fk_wset (w := wC) (kdC_lt (by rw [h]; decide)) (fun j _ hj => xEC_I hj) ?_
  show xEC g (sI st 40 i v) i = _
  rw [at_2 h]
  simp [gI_sI, gT_sI]
theorem wst_2_1 {g : fkG} {st : fkS} {i : Nat} {v : Int32} (h : kdC i = 2) : (fk_ws wC g st).set i (g.1 i, .inr (2, [.int (gI st 40 i), .int v, fk_r g (i + 1), fk_r g (i + 2), fk_r g (i + 3)])) = fk_ws wC g (sI st 41 i v) := by
  refine fk_wset (w := wC) (kdC_lt (by rw [h]; decide)) (fun j _ hj => xEC_I hj) ?_
  show xEC g (sI st 41 i v) i = _
  rw [at_2 h]
  simp [gI_sI, gT_sI]
theorem at_3 {g : fkG} {st : fkS} {i : Nat} (h : kdC i = 3) : xEC g st i = .inr (3, [fk_r g (i + 1), .int (gI st 61 i)]) := by
  unfold xEC
  rw [h]
  first | done | rfl
theorem wat_3 {g : fkG} {st : fkS} {i : Nat} (h : kdC i = 3) : (fk_ws wC g st)[i]? = some (g.1 i, .inr (3, [fk_r g (i + 1), .int (gI st 61 i)])) := by
  rw [fk_wat (w := wC) (kdC_lt (by rw [h]; decide))]
  show some (g.1 i, xEC g st i) = _
  rw [at_3 h]
theorem rcv_3 {g : fkG} {i : Nat} (h : kdC i = 3) : fk_rcv wC g i RX3 := by
  refine ⟨kdC_lt (by rw [h]; decide), fun st => ⟨3, _, _, at_3 h, rfl, rfl⟩⟩
theorem wB_3 : ∀ w ∈ u_ws RX3 TX3 2, w ∈ fkB := fun w h => fkB_in ((show ∀ w ∈ u_ws RX3 TX3 2, w ∈ lw_tbl from by decide +kernel) w h) (List.all_eq_true.mp (show (u_ws RX3 TX3 2).all goodWord = true from by decide +kernel) w h)
theorem wst_3_1 {g : fkG} {st : fkS} {i : Nat} {v : Int32} (h : kdC i = 3) : (fk_ws wC g st).set i (g.1 i, .inr (3, [fk_r g (i + 1), .int v])) = fk_ws wC g (sI st 61 i v) := by
  refine fk_wset (w := wC) (kdC_lt (by rw [h]; decide)) (fun j _ hj => xEC_I hj) ?_
  show xEC g (sI st 61 i v) i = _
  rw [at_3 h]
  simp [gI_sI, gT_sI]
theorem at_4 {g : fkG} {st : fkS} {i : Nat} (h : kdC i = 4) : xEC g st i = .inr (4, [.int (gI st 80 i), .int (gI st 81 i), va_rf ((gT st).map g.1), fk_r g (i + 1)]) := by
  unfold xEC
  rw [h]
  first | done | rfl
theorem wat_4 {g : fkG} {st : fkS} {i : Nat} (h : kdC i = 4) : (fk_ws wC g st)[i]? = some (g.1 i, .inr (4, [.int (gI st 80 i), .int (gI st 81 i), va_rf ((gT st).map g.1), fk_r g (i + 1)])) := by
  rw [fk_wat (w := wC) (kdC_lt (by rw [h]; decide))]
  show some (g.1 i, xEC g st i) = _
  rw [at_4 h]
theorem rcv_4 {g : fkG} {i : Nat} (h : kdC i = 4) : fk_rcv wC g i RX4 := by
  refine ⟨kdC_lt (by rw [h]; decide), fun st => ⟨4, _, _, at_4 h, rfl, rfl⟩⟩
theorem wB_4 : ∀ w ∈ u_ws RX4 TX4 4, w ∈ fkB := fun w h => fkB_in ((show ∀ w ∈ u_ws RX4 TX4 4, w ∈ lw_tbl from by decide +kernel) w h) (List.all_eq_true.mp (show (u_ws RX4 TX4 4).all goodWord = true from by decide +kernel) w h)
theorem wst_4_0 {g : fkG} {st : fkS} {i : Nat} {v : Int32} (h : kdC i = 4) : (fk_ws wC g st).set i (g.1 i, .inr (4, [.int v, .int (gI st 81 i), va_rf ((gT st).map g.1), fk_r g (i + 1)])) = fk_ws wC g (sI st 80 i v) := by
  refine fk_wset (w := wC) (kdC_lt (by rw [h]; decide)) (fun j _ hj => xEC_I hj) ?_
  show xEC g (sI st 80 i v) i = _
  rw [at_4 h]
  simp [gI_sI, gT_sI]
theorem wst_4_1 {g : fkG} {st : fkS} {i : Nat} {v : Int32} (h : kdC i = 4) : (fk_ws wC g st).set i (g.1 i, .inr (4, [.int (gI st 80 i), .int v, va_rf ((gT st).map g.1), fk_r g (i + 1)])) = fk_ws wC g (sI st 81 i v) := by
  refine fk_wset (w := wC) (kdC_lt (by rw [h]; decide)) (fun j _ hj => xEC_I hj) ?_
  show xEC g (sI st 81 i v) i = _
  rw [at_4 h]
  simp [gI_sI, gT_sI]
theorem at_5 {g : fkG} {st : fkS} {i : Nat} (h : kdC i = 5) : xEC g st i = .inr (5, [.int (gI st 100 i), .int (gI st 101 i), .int (gI st 102 i), .int (gI st 103 i), fk_r g (i + 8)]) := by
  unfold xEC
  rw [h]
  first | done | rfl
theorem wat_5 {g : fkG} {st : fkS} {i : Nat} (h : kdC i = 5) : (fk_ws wC g st)[i]? = some (g.1 i, .inr (5, [.int (gI st 100 i), .int (gI st 101 i), .int (gI st 102 i), .int (gI st 103 i), fk_r g (i + 8)])) := by
  rw [fk_wat (w := wC) (kdC_lt (by rw [h]; decide))]
  show some (g.1 i, xEC g st i) = _
  rw [at_5 h]
theorem rcv_5 {g : fkG} {i : Nat} (h : kdC i = 5) : fk_rcv wC g i RX5 := by
  refine ⟨kdC_lt (by rw [h]; decide), fun st => ⟨5, _, _, at_5 h, rfl, rfl⟩⟩
theorem wB_5 : ∀ w ∈ u_ws RX5 TX5 5, w ∈ fkB := fun w h => fkB_in ((show ∀ w ∈ u_ws RX5 TX5 5, w ∈ lw_tbl from by decide +kernel) w h) (List.all_eq_true.mp (show (u_ws RX5 TX5 5).all goodWord = true from by decide +kernel) w h)
theorem wst_5_0 {g : fkG} {st : fkS} {i : Nat} {v : Int32} (h : kdC i = 5) : (fk_ws wC g st).set i (g.1 i, .inr (5, [.int v, .int (gI st 101 i), .int (gI st 102 i), .int (gI st 103 i), fk_r g (i + 8)])) = fk_ws wC g (sI st 100 i v) := by
  refine fk_wset (w := wC) (kdC_lt (by rw [h]; decide)) (fun j _ hj => xEC_I hj) ?_
  show xEC g (sI st 100 i v) i = _
  rw [at_5 h]
  simp [gI_sI, gT_sI]
theorem wst_5_1 {g : fkG} {st : fkS} {i : Nat} {v : Int32} (h : kdC i = 5) : (fk_ws wC g st).set i (g.1 i, .inr (5, [.int (gI st 100 i), .int v, .int (gI st 102 i), .int (gI st 103 i), fk_r g (i + 8)])) = fk_ws wC g (sI st 101 i v) := by
  refine fk_wset (w := wC) (kdC_lt (by rw [h]; decide)) (fun j _ hj => xEC_I hj) ?_
  show xEC g (sI st 101 i v) i = _
  rw [at_5 h]
  simp [gI_sI, gT_sI]
theorem wst_5_2 {g : fkG} {st : fkS} {i : Nat} {v : Int32} (h : kdC i = 5) : (fk_ws wC g st).set i (g.1 i, .inr (5, [.int (gI st 100 i), .int (gI st 101 i), .int v, .int (gI st 103 i), fk_r g (i + 8)])) = fk_ws wC g (sI st 102 i v) := by
  refine fk_wset (w := wC) (kdC_lt (by rw [h]; decide)) (fun j _ hj => xEC_I hj) ?_
  show xEC g (sI st 102 i v) i = _
  rw [at_5 h]
  simp [gI_sI, gT_sI]
theorem wst_5_3 {g : fkG} {st : fkS} {i : Nat} {v : Int32} (h : kdC i = 5) : (fk_ws wC g st).set i (g.1 i, .inr (5, [.int (gI st 100 i), .int (gI st 101 i), .int (gI st 102 i), .int v, fk_r g (i + 8)])) = fk_ws wC g (sI st 103 i v) := by
  refine fk_wset (w := wC) (kdC_lt (by rw [h]; decide)) (fun j _ hj => xEC_I hj) ?_
  show xEC g (sI st 103 i v) i = _
  rw [at_5 h]
  simp [gI_sI, gT_sI]
theorem at_6 {g : fkG} {st : fkS} {i : Nat} (h : kdC i = 6) : xEC g st i = .inr (6, [.int (gI st 120 i), .int (gI st 121 i), .int (gI st 122 i), .int (gI st 123 i), .int (gI st 124 i), fk_r g (i + 2)]) := by
  unfold xEC
  rw [h]
  first | done | rfl
theorem wat_6 {g : fkG} {st : fkS} {i : Nat} (h : kdC i = 6) : (fk_ws wC g st)[i]? = some (g.1 i, .inr (6, [.int (gI st 120 i), .int (gI st 121 i), .int (gI st 122 i), .int (gI st 123 i), .int (gI st 124 i), fk_r g (i + 2)])) := by
  rw [fk_wat (w := wC) (kdC_lt (by rw [h]; decide))]
  show some (g.1 i, xEC g st i) = _
  rw [at_6 h]
theorem rcv_6 {g : fkG} {i : Nat} (h : kdC i = 6) : fk_rcv wC g i RX6 := by
  refine ⟨kdC_lt (by rw [h]; decide), fun st => ⟨6, _, _, at_6 h, rfl, rfl⟩⟩
theorem wB_6 : ∀ w ∈ u_ws RX6 TX6 6, w ∈ fkB := fun w h => fkB_in ((show ∀ w ∈ u_ws RX6 TX6 6, w ∈ lw_tbl from by decide +kernel) w h) (List.all_eq_true.mp (show (u_ws RX6 TX6 6).all goodWord = true from by decide +kernel) w h)
theorem wst_6_0 {g : fkG} {st : fkS} {i : Nat} {v : Int32} (h : kdC i = 6) : (fk_ws wC g st).set i (g.1 i, .inr (6, [.int v, .int (gI st 121 i), .int (gI st 122 i), .int (gI st 123 i), .int (gI st 124 i), fk_r g (i + 2)])) = fk_ws wC g (sI st 120 i v) := by
  refine fk_wset (w := wC) (kdC_lt (by rw [h]; decide)) (fun j _ hj => xEC_I hj) ?_
  show xEC g (sI st 120 i v) i = _
  rw [at_6 h]
  simp [gI_sI, gT_sI]
theorem wst_6_1 {g : fkG} {st : fkS} {i : Nat} {v : Int32} (h : kdC i = 6) : (fk_ws wC g st).set i (g.1 i, .inr (6, [.int (gI st 120 i), .int v, .int (gI st 122 i), .int (gI st 123 i), .int (gI st 124 i), fk_r g (i + 2)])) = fk_ws wC g (sI st 121 i v) := by
  refine fk_wset (w := wC) (kdC_lt (by rw [h]; decide)) (fun j _ hj => xEC_I hj) ?_
  show xEC g (sI st 121 i v) i = _
  rw [at_6 h]
  simp [gI_sI, gT_sI]
theorem wst_6_2 {g : fkG} {st : fkS} {i : Nat} {v : Int32} (h : kdC i = 6) : (fk_ws wC g st).set i (g.1 i, .inr (6, [.int (gI st 120 i), .int (gI st 121 i), .int v, .int (gI st 123 i), .int (gI st 124 i), fk_r g (i + 2)])) = fk_ws wC g (sI st 122 i v) := by
  refine fk_wset (w := wC) (kdC_lt (by rw [h]; decide)) (fun j _ hj => xEC_I hj) ?_
  show xEC g (sI st 122 i v) i = _
  rw [at_6 h]
  simp [gI_sI, gT_sI]
theorem wst_6_3 {g : fkG} {st : fkS} {i : Nat} {v : Int32} (h : kdC i = 6) : (fk_ws wC g st).set i (g.1 i, .inr (6, [.int (gI st 120 i), .int (gI st 121 i), .int (gI st 122 i), .int v, .int (gI st 124 i), fk_r g (i + 2)])) = fk_ws wC g (sI st 123 i v) := by
  refine fk_wset (w := wC) (kdC_lt (by rw [h]; decide)) (fun j _ hj => xEC_I hj) ?_
  show xEC g (sI st 123 i v) i = _
  rw [at_6 h]
  simp [gI_sI, gT_sI]
theorem wst_6_4 {g : fkG} {st : fkS} {i : Nat} {v : Int32} (h : kdC i = 6) : (fk_ws wC g st).set i (g.1 i, .inr (6, [.int (gI st 120 i), .int (gI st 121 i), .int (gI st 122 i), .int (gI st 123 i), .int v, fk_r g (i + 2)])) = fk_ws wC g (sI st 124 i v) := by
  refine fk_wset (w := wC) (kdC_lt (by rw [h]; decide)) (fun j _ hj => xEC_I hj) ?_
  show xEC g (sI st 124 i v) i = _
  rw [at_6 h]
  simp [gI_sI, gT_sI]
theorem at_7 {g : fkG} {st : fkS} {i : Nat} (h : kdC i = 7) : xEC g st i = .inr (7, [fk_r g 2, fk_r g 19, fk_r g 20, fk_r g 21, .int (gI st 144 i), fk_r g 34, fk_r g 36, fk_r g 38, fk_r g 40, fk_r g 41, fk_r g 44, fk_r g 1]) := by
  unfold xEC
  rw [h]
  first | done | rfl
theorem wat_7 {g : fkG} {st : fkS} {i : Nat} (h : kdC i = 7) : (fk_ws wC g st)[i]? = some (g.1 i, .inr (7, [fk_r g 2, fk_r g 19, fk_r g 20, fk_r g 21, .int (gI st 144 i), fk_r g 34, fk_r g 36, fk_r g 38, fk_r g 40, fk_r g 41, fk_r g 44, fk_r g 1])) := by
  rw [fk_wat (w := wC) (kdC_lt (by rw [h]; decide))]
  show some (g.1 i, xEC g st i) = _
  rw [at_7 h]
theorem rcv_7 {g : fkG} {i : Nat} (h : kdC i = 7) : fk_rcv wC g i RX7 := by
  refine ⟨kdC_lt (by rw [h]; decide), fun st => ⟨7, _, _, at_7 h, rfl, rfl⟩⟩
theorem wB_7 : ∀ w ∈ u_ws RX7 TX7 12, w ∈ fkB := fun w h => fkB_in ((show ∀ w ∈ u_ws RX7 TX7 12, w ∈ lw_tbl from by decide +kernel) w h) (List.all_eq_true.mp (show (u_ws RX7 TX7 12).all goodWord = true from by decide +kernel) w h)
theorem wst_7_4 {g : fkG} {st : fkS} {i : Nat} {v : Int32} (h : kdC i = 7) : (fk_ws wC g st).set i (g.1 i, .inr (7, [fk_r g 2, fk_r g 19, fk_r g 20, fk_r g 21, .int v, fk_r g 34, fk_r g 36, fk_r g 38, fk_r g 40, fk_r g 41, fk_r g 44, fk_r g 1])) = fk_ws wC g (sI st 144 i v) := by
  refine fk_wset (w := wC) (kdC_lt (by rw [h]; decide)) (fun j _ hj => xEC_I hj) ?_
  show xEC g (sI st 144 i v) i = _
  rw [at_7 h]
  simp [gI_sI, gT_sI]
theorem at_8 {g : fkG} {st : fkS} {i : Nat} (h : kdM i = 8) : xEM g st i = .inr (8, (.int (gI st 0 i) :: fk_r g 1 :: fk_r g 2 :: fk_r g 3 :: fk_r g 4 :: fk_r g 5 :: .int (gI st 6 i) :: .int (gI st 7 i) :: .int (gI st 8 i) :: fk_r g 6 :: fk_r g 7 :: fk_r g 8 :: .int (gI st 12 i) :: .int (gI st 13 i) :: fk_r g 9 :: .int (gI st 15 i) :: fk_r g 10 :: .int (gI st 17 i) :: fk_r g 11 :: fk_r g 12 :: .int (gI st 20 i) :: fk_r g 13 :: .int (gI st 22 i) :: fk_r g 14 :: .int (gI st 24 i) :: fk_r g 15 :: .int (gI st 26 i) :: .int (gI st 27 i) :: fk_r g 16 :: fk_r g 17 :: fk_r g 18 :: .int (gI st 31 i) :: fk_r g 19 :: fk_r g 20 :: fk_r g 21 :: .int (gI st 35 i) :: .int (gI st 36 i) :: [])) := by
  unfold xEM
  rw [h]
  first | done | rfl
theorem wat_8 {g : fkG} {st : fkS} {i : Nat} (h : kdM i = 8) : (fk_ws wM g st)[i]? = some (g.1 i, .inr (8, (.int (gI st 0 i) :: fk_r g 1 :: fk_r g 2 :: fk_r g 3 :: fk_r g 4 :: fk_r g 5 :: .int (gI st 6 i) :: .int (gI st 7 i) :: .int (gI st 8 i) :: fk_r g 6 :: fk_r g 7 :: fk_r g 8 :: .int (gI st 12 i) :: .int (gI st 13 i) :: fk_r g 9 :: .int (gI st 15 i) :: fk_r g 10 :: .int (gI st 17 i) :: fk_r g 11 :: fk_r g 12 :: .int (gI st 20 i) :: fk_r g 13 :: .int (gI st 22 i) :: fk_r g 14 :: .int (gI st 24 i) :: fk_r g 15 :: .int (gI st 26 i) :: .int (gI st 27 i) :: fk_r g 16 :: fk_r g 17 :: fk_r g 18 :: .int (gI st 31 i) :: fk_r g 19 :: fk_r g 20 :: fk_r g 21 :: .int (gI st 35 i) :: .int (gI st 36 i) :: []))) := by
  rw [fk_wat (w := wM) (kdM_lt (by rw [h]; decide))]
  show some (g.1 i, xEM g st i) = _
  rw [at_8 h]
theorem rcv_8 {g : fkG} {i : Nat} (h : kdM i = 8) : fk_rcv wM g i RX8 := by
  refine ⟨kdM_lt (by rw [h]; decide), fun st => ⟨8, _, _, at_8 h, rfl, rfl⟩⟩
theorem wB_8 : ∀ w ∈ u_ws RX8 TX8 37, w ∈ fkB := fun w h => fkB_in ((show ∀ w ∈ u_ws RX8 TX8 37, w ∈ lw_tbl from by decide +kernel) w h) (List.all_eq_true.mp (show (u_ws RX8 TX8 37).all goodWord = true from by decide +kernel) w h)
theorem wst_8_0 {g : fkG} {st : fkS} {i : Nat} {v : Int32} (h : kdM i = 8) : (fk_ws wM g st).set i (g.1 i, .inr (8, (.int v :: fk_r g 1 :: fk_r g 2 :: fk_r g 3 :: fk_r g 4 :: fk_r g 5 :: .int (gI st 6 i) :: .int (gI st 7 i) :: .int (gI st 8 i) :: fk_r g 6 :: fk_r g 7 :: fk_r g 8 :: .int (gI st 12 i) :: .int (gI st 13 i) :: fk_r g 9 :: .int (gI st 15 i) :: fk_r g 10 :: .int (gI st 17 i) :: fk_r g 11 :: fk_r g 12 :: .int (gI st 20 i) :: fk_r g 13 :: .int (gI st 22 i) :: fk_r g 14 :: .int (gI st 24 i) :: fk_r g 15 :: .int (gI st 26 i) :: .int (gI st 27 i) :: fk_r g 16 :: fk_r g 17 :: fk_r g 18 :: .int (gI st 31 i) :: fk_r g 19 :: fk_r g 20 :: fk_r g 21 :: .int (gI st 35 i) :: .int (gI st 36 i) :: []))) = fk_ws wM g (sI st 0 i v) := by
  refine fk_wset (w := wM) (kdM_lt (by rw [h]; decide)) (fun j _ hj => xEM_I hj) ?_
  show xEM g (sI st 0 i v) i = _
  rw [at_8 h]
  simp [gI_sI, gT_sI]
theorem wst_8_6 {g : fkG} {st : fkS} {i : Nat} {v : Int32} (h : kdM i = 8) : (fk_ws wM g st).set i (g.1 i, .inr (8, (.int (gI st 0 i) :: fk_r g 1 :: fk_r g 2 :: fk_r g 3 :: fk_r g 4 :: fk_r g 5 :: .int v :: .int (gI st 7 i) :: .int (gI st 8 i) :: fk_r g 6 :: fk_r g 7 :: fk_r g 8 :: .int (gI st 12 i) :: .int (gI st 13 i) :: fk_r g 9 :: .int (gI st 15 i) :: fk_r g 10 :: .int (gI st 17 i) :: fk_r g 11 :: fk_r g 12 :: .int (gI st 20 i) :: fk_r g 13 :: .int (gI st 22 i) :: fk_r g 14 :: .int (gI st 24 i) :: fk_r g 15 :: .int (gI st 26 i) :: .int (gI st 27 i) :: fk_r g 16 :: fk_r g 17 :: fk_r g 18 :: .int (gI st 31 i) :: fk_r g 19 :: fk_r g 20 :: fk_r g 21 :: .int (gI st 35 i) :: .int (gI st 36 i) :: []))) = fk_ws wM g (sI st 6 i v) := by
  refine fk_wset (w := wM) (kdM_lt (by rw [h]; decide)) (fun j _ hj => xEM_I hj) ?_
  show xEM g (sI st 6 i v) i = _
  rw [at_8 h]
  simp [gI_sI, gT_sI]
theorem wst_8_7 {g : fkG} {st : fkS} {i : Nat} {v : Int32} (h : kdM i = 8) : (fk_ws wM g st).set i (g.1 i, .inr (8, (.int (gI st 0 i) :: fk_r g 1 :: fk_r g 2 :: fk_r g 3 :: fk_r g 4 :: fk_r g 5 :: .int (gI st 6 i) :: .int v :: .int (gI st 8 i) :: fk_r g 6 :: fk_r g 7 :: fk_r g 8 :: .int (gI st 12 i) :: .int (gI st 13 i) :: fk_r g 9 :: .int (gI st 15 i) :: fk_r g 10 :: .int (gI st 17 i) :: fk_r g 11 :: fk_r g 12 :: .int (gI st 20 i) :: fk_r g 13 :: .int (gI st 22 i) :: fk_r g 14 :: .int (gI st 24 i) :: fk_r g 15 :: .int (gI st 26 i) :: .int (gI st 27 i) :: fk_r g 16 :: fk_r g 17 :: fk_r g 18 :: .int (gI st 31 i) :: fk_r g 19 :: fk_r g 20 :: fk_r g 21 :: .int (gI st 35 i) :: .int (gI st 36 i) :: []))) = fk_ws wM g (sI st 7 i v) := by
  refine fk_wset (w := wM) (kdM_lt (by rw [h]; decide)) (fun j _ hj => xEM_I hj) ?_
  show xEM g (sI st 7 i v) i = _
  rw [at_8 h]
  simp [gI_sI, gT_sI]
theorem wst_8_8 {g : fkG} {st : fkS} {i : Nat} {v : Int32} (h : kdM i = 8) : (fk_ws wM g st).set i (g.1 i, .inr (8, (.int (gI st 0 i) :: fk_r g 1 :: fk_r g 2 :: fk_r g 3 :: fk_r g 4 :: fk_r g 5 :: .int (gI st 6 i) :: .int (gI st 7 i) :: .int v :: fk_r g 6 :: fk_r g 7 :: fk_r g 8 :: .int (gI st 12 i) :: .int (gI st 13 i) :: fk_r g 9 :: .int (gI st 15 i) :: fk_r g 10 :: .int (gI st 17 i) :: fk_r g 11 :: fk_r g 12 :: .int (gI st 20 i) :: fk_r g 13 :: .int (gI st 22 i) :: fk_r g 14 :: .int (gI st 24 i) :: fk_r g 15 :: .int (gI st 26 i) :: .int (gI st 27 i) :: fk_r g 16 :: fk_r g 17 :: fk_r g 18 :: .int (gI st 31 i) :: fk_r g 19 :: fk_r g 20 :: fk_r g 21 :: .int (gI st 35 i) :: .int (gI st 36 i) :: []))) = fk_ws wM g (sI st 8 i v) := by
  refine fk_wset (w := wM) (kdM_lt (by rw [h]; decide)) (fun j _ hj => xEM_I hj) ?_
  show xEM g (sI st 8 i v) i = _
  rw [at_8 h]
  simp [gI_sI, gT_sI]
theorem wst_8_12 {g : fkG} {st : fkS} {i : Nat} {v : Int32} (h : kdM i = 8) : (fk_ws wM g st).set i (g.1 i, .inr (8, (.int (gI st 0 i) :: fk_r g 1 :: fk_r g 2 :: fk_r g 3 :: fk_r g 4 :: fk_r g 5 :: .int (gI st 6 i) :: .int (gI st 7 i) :: .int (gI st 8 i) :: fk_r g 6 :: fk_r g 7 :: fk_r g 8 :: .int v :: .int (gI st 13 i) :: fk_r g 9 :: .int (gI st 15 i) :: fk_r g 10 :: .int (gI st 17 i) :: fk_r g 11 :: fk_r g 12 :: .int (gI st 20 i) :: fk_r g 13 :: .int (gI st 22 i) :: fk_r g 14 :: .int (gI st 24 i) :: fk_r g 15 :: .int (gI st 26 i) :: .int (gI st 27 i) :: fk_r g 16 :: fk_r g 17 :: fk_r g 18 :: .int (gI st 31 i) :: fk_r g 19 :: fk_r g 20 :: fk_r g 21 :: .int (gI st 35 i) :: .int (gI st 36 i) :: []))) = fk_ws wM g (sI st 12 i v) := by
  refine fk_wset (w := wM) (kdM_lt (by rw [h]; decide)) (fun j _ hj => xEM_I hj) ?_
  show xEM g (sI st 12 i v) i = _
  rw [at_8 h]
  simp [gI_sI, gT_sI]
theorem wst_8_13 {g : fkG} {st : fkS} {i : Nat} {v : Int32} (h : kdM i = 8) : (fk_ws wM g st).set i (g.1 i, .inr (8, (.int (gI st 0 i) :: fk_r g 1 :: fk_r g 2 :: fk_r g 3 :: fk_r g 4 :: fk_r g 5 :: .int (gI st 6 i) :: .int (gI st 7 i) :: .int (gI st 8 i) :: fk_r g 6 :: fk_r g 7 :: fk_r g 8 :: .int (gI st 12 i) :: .int v :: fk_r g 9 :: .int (gI st 15 i) :: fk_r g 10 :: .int (gI st 17 i) :: fk_r g 11 :: fk_r g 12 :: .int (gI st 20 i) :: fk_r g 13 :: .int (gI st 22 i) :: fk_r g 14 :: .int (gI st 24 i) :: fk_r g 15 :: .int (gI st 26 i) :: .int (gI st 27 i) :: fk_r g 16 :: fk_r g 17 :: fk_r g 18 :: .int (gI st 31 i) :: fk_r g 19 :: fk_r g 20 :: fk_r g 21 :: .int (gI st 35 i) :: .int (gI st 36 i) :: []))) = fk_ws wM g (sI st 13 i v) := by
  refine fk_wset (w := wM) (kdM_lt (by rw [h]; decide)) (fun j _ hj => xEM_I hj) ?_
  show xEM g (sI st 13 i v) i = _
  rw [at_8 h]
  simp [gI_sI, gT_sI]
theorem wst_8_15 {g : fkG} {st : fkS} {i : Nat} {v : Int32} (h : kdM i = 8) : (fk_ws wM g st).set i (g.1 i, .inr (8, (.int (gI st 0 i) :: fk_r g 1 :: fk_r g 2 :: fk_r g 3 :: fk_r g 4 :: fk_r g 5 :: .int (gI st 6 i) :: .int (gI st 7 i) :: .int (gI st 8 i) :: fk_r g 6 :: fk_r g 7 :: fk_r g 8 :: .int (gI st 12 i) :: .int (gI st 13 i) :: fk_r g 9 :: .int v :: fk_r g 10 :: .int (gI st 17 i) :: fk_r g 11 :: fk_r g 12 :: .int (gI st 20 i) :: fk_r g 13 :: .int (gI st 22 i) :: fk_r g 14 :: .int (gI st 24 i) :: fk_r g 15 :: .int (gI st 26 i) :: .int (gI st 27 i) :: fk_r g 16 :: fk_r g 17 :: fk_r g 18 :: .int (gI st 31 i) :: fk_r g 19 :: fk_r g 20 :: fk_r g 21 :: .int (gI st 35 i) :: .int (gI st 36 i) :: []))) = fk_ws wM g (sI st 15 i v) := by
  refine fk_wset (w := wM) (kdM_lt (by rw [h]; decide)) (fun j _ hj => xEM_I hj) ?_
  show xEM g (sI st 15 i v) i = _
  rw [at_8 h]
  simp [gI_sI, gT_sI]
theorem wst_8_17 {g : fkG} {st : fkS} {i : Nat} {v : Int32} (h : kdM i = 8) : (fk_ws wM g st).set i (g.1 i, .inr (8, (.int (gI st 0 i) :: fk_r g 1 :: fk_r g 2 :: fk_r g 3 :: fk_r g 4 :: fk_r g 5 :: .int (gI st 6 i) :: .int (gI st 7 i) :: .int (gI st 8 i) :: fk_r g 6 :: fk_r g 7 :: fk_r g 8 :: .int (gI st 12 i) :: .int (gI st 13 i) :: fk_r g 9 :: .int (gI st 15 i) :: fk_r g 10 :: .int v :: fk_r g 11 :: fk_r g 12 :: .int (gI st 20 i) :: fk_r g 13 :: .int (gI st 22 i) :: fk_r g 14 :: .int (gI st 24 i) :: fk_r g 15 :: .int (gI st 26 i) :: .int (gI st 27 i) :: fk_r g 16 :: fk_r g 17 :: fk_r g 18 :: .int (gI st 31 i) :: fk_r g 19 :: fk_r g 20 :: fk_r g 21 :: .int (gI st 35 i) :: .int (gI st 36 i) :: []))) = fk_ws wM g (sI st 17 i v) := by
  refine fk_wset (w := wM) (kdM_lt (by rw [h]; decide)) (fun j _ hj => xEM_I hj) ?_
  show xEM g (sI st 17 i v) i = _
  rw [at_8 h]
  simp [gI_sI, gT_sI]
theorem wst_8_20 {g : fkG} {st : fkS} {i : Nat} {v : Int32} (h : kdM i = 8) : (fk_ws wM g st).set i (g.1 i, .inr (8, (.int (gI st 0 i) :: fk_r g 1 :: fk_r g 2 :: fk_r g 3 :: fk_r g 4 :: fk_r g 5 :: .int (gI st 6 i) :: .int (gI st 7 i) :: .int (gI st 8 i) :: fk_r g 6 :: fk_r g 7 :: fk_r g 8 :: .int (gI st 12 i) :: .int (gI st 13 i) :: fk_r g 9 :: .int (gI st 15 i) :: fk_r g 10 :: .int (gI st 17 i) :: fk_r g 11 :: fk_r g 12 :: .int v :: fk_r g 13 :: .int (gI st 22 i) :: fk_r g 14 :: .int (gI st 24 i) :: fk_r g 15 :: .int (gI st 26 i) :: .int (gI st 27 i) :: fk_r g 16 :: fk_r g 17 :: fk_r g 18 :: .int (gI st 31 i) :: fk_r g 19 :: fk_r g 20 :: fk_r g 21 :: .int (gI st 35 i) :: .int (gI st 36 i) :: []))) = fk_ws wM g (sI st 20 i v) := by
  refine fk_wset (w := wM) (kdM_lt (by rw [h]; decide)) (fun j _ hj => xEM_I hj) ?_
  show xEM g (sI st 20 i v) i = _
  rw [at_8 h]
  simp [gI_sI, gT_sI]
theorem wst_8_22 {g : fkG} {st : fkS} {i : Nat} {v : Int32} (h : kdM i = 8) : (fk_ws wM g st).set i (g.1 i, .inr (8, (.int (gI st 0 i) :: fk_r g 1 :: fk_r g 2 :: fk_r g 3 :: fk_r g 4 :: fk_r g 5 :: .int (gI st 6 i) :: .int (gI st 7 i) :: .int (gI st 8 i) :: fk_r g 6 :: fk_r g 7 :: fk_r g 8 :: .int (gI st 12 i) :: .int (gI st 13 i) :: fk_r g 9 :: .int (gI st 15 i) :: fk_r g 10 :: .int (gI st 17 i) :: fk_r g 11 :: fk_r g 12 :: .int (gI st 20 i) :: fk_r g 13 :: .int v :: fk_r g 14 :: .int (gI st 24 i) :: fk_r g 15 :: .int (gI st 26 i) :: .int (gI st 27 i) :: fk_r g 16 :: fk_r g 17 :: fk_r g 18 :: .int (gI st 31 i) :: fk_r g 19 :: fk_r g 20 :: fk_r g 21 :: .int (gI st 35 i) :: .int (gI st 36 i) :: []))) = fk_ws wM g (sI st 22 i v) := by
  refine fk_wset (w := wM) (kdM_lt (by rw [h]; decide)) (fun j _ hj => xEM_I hj) ?_
  show xEM g (sI st 22 i v) i = _
  rw [at_8 h]
  simp [gI_sI, gT_sI]
theorem wst_8_24 {g : fkG} {st : fkS} {i : Nat} {v : Int32} (h : kdM i = 8) : (fk_ws wM g st).set i (g.1 i, .inr (8, (.int (gI st 0 i) :: fk_r g 1 :: fk_r g 2 :: fk_r g 3 :: fk_r g 4 :: fk_r g 5 :: .int (gI st 6 i) :: .int (gI st 7 i) :: .int (gI st 8 i) :: fk_r g 6 :: fk_r g 7 :: fk_r g 8 :: .int (gI st 12 i) :: .int (gI st 13 i) :: fk_r g 9 :: .int (gI st 15 i) :: fk_r g 10 :: .int (gI st 17 i) :: fk_r g 11 :: fk_r g 12 :: .int (gI st 20 i) :: fk_r g 13 :: .int (gI st 22 i) :: fk_r g 14 :: .int v :: fk_r g 15 :: .int (gI st 26 i) :: .int (gI st 27 i) :: fk_r g 16 :: fk_r g 17 :: fk_r g 18 :: .int (gI st 31 i) :: fk_r g 19 :: fk_r g 20 :: fk_r g 21 :: .int (gI st 35 i) :: .int (gI st 36 i) :: []))) = fk_ws wM g (sI st 24 i v) := by
  refine fk_wset (w := wM) (kdM_lt (by rw [h]; decide)) (fun j _ hj => xEM_I hj) ?_
  show xEM g (sI st 24 i v) i = _
  rw [at_8 h]
  simp [gI_sI, gT_sI]
theorem wst_8_26 {g : fkG} {st : fkS} {i : Nat} {v : Int32} (h : kdM i = 8) : (fk_ws wM g st).set i (g.1 i, .inr (8, (.int (gI st 0 i) :: fk_r g 1 :: fk_r g 2 :: fk_r g 3 :: fk_r g 4 :: fk_r g 5 :: .int (gI st 6 i) :: .int (gI st 7 i) :: .int (gI st 8 i) :: fk_r g 6 :: fk_r g 7 :: fk_r g 8 :: .int (gI st 12 i) :: .int (gI st 13 i) :: fk_r g 9 :: .int (gI st 15 i) :: fk_r g 10 :: .int (gI st 17 i) :: fk_r g 11 :: fk_r g 12 :: .int (gI st 20 i) :: fk_r g 13 :: .int (gI st 22 i) :: fk_r g 14 :: .int (gI st 24 i) :: fk_r g 15 :: .int v :: .int (gI st 27 i) :: fk_r g 16 :: fk_r g 17 :: fk_r g 18 :: .int (gI st 31 i) :: fk_r g 19 :: fk_r g 20 :: fk_r g 21 :: .int (gI st 35 i) :: .int (gI st 36 i) :: []))) = fk_ws wM g (sI st 26 i v) := by
  refine fk_wset (w := wM) (kdM_lt (by rw [h]; decide)) (fun j _ hj => xEM_I hj) ?_
  show xEM g (sI st 26 i v) i = _
  rw [at_8 h]
  simp [gI_sI, gT_sI]
theorem wst_8_27 {g : fkG} {st : fkS} {i : Nat} {v : Int32} (h : kdM i = 8) : (fk_ws wM g st).set i (g.1 i, .inr (8, (.int (gI st 0 i) :: fk_r g 1 :: fk_r g 2 :: fk_r g 3 :: fk_r g 4 :: fk_r g 5 :: .int (gI st 6 i) :: .int (gI st 7 i) :: .int (gI st 8 i) :: fk_r g 6 :: fk_r g 7 :: fk_r g 8 :: .int (gI st 12 i) :: .int (gI st 13 i) :: fk_r g 9 :: .int (gI st 15 i) :: fk_r g 10 :: .int (gI st 17 i) :: fk_r g 11 :: fk_r g 12 :: .int (gI st 20 i) :: fk_r g 13 :: .int (gI st 22 i) :: fk_r g 14 :: .int (gI st 24 i) :: fk_r g 15 :: .int (gI st 26 i) :: .int v :: fk_r g 16 :: fk_r g 17 :: fk_r g 18 :: .int (gI st 31 i) :: fk_r g 19 :: fk_r g 20 :: fk_r g 21 :: .int (gI st 35 i) :: .int (gI st 36 i) :: []))) = fk_ws wM g (sI st 27 i v) := by
  refine fk_wset (w := wM) (kdM_lt (by rw [h]; decide)) (fun j _ hj => xEM_I hj) ?_
  show xEM g (sI st 27 i v) i = _
  rw [at_8 h]
  simp [gI_sI, gT_sI]
theorem wst_8_31 {g : fkG} {st : fkS} {i : Nat} {v : Int32} (h : kdM i = 8) : (fk_ws wM g st).set i (g.1 i, .inr (8, (.int (gI st 0 i) :: fk_r g 1 :: fk_r g 2 :: fk_r g 3 :: fk_r g 4 :: fk_r g 5 :: .int (gI st 6 i) :: .int (gI st 7 i) :: .int (gI st 8 i) :: fk_r g 6 :: fk_r g 7 :: fk_r g 8 :: .int (gI st 12 i) :: .int (gI st 13 i) :: fk_r g 9 :: .int (gI st 15 i) :: fk_r g 10 :: .int (gI st 17 i) :: fk_r g 11 :: fk_r g 12 :: .int (gI st 20 i) :: fk_r g 13 :: .int (gI st 22 i) :: fk_r g 14 :: .int (gI st 24 i) :: fk_r g 15 :: .int (gI st 26 i) :: .int (gI st 27 i) :: fk_r g 16 :: fk_r g 17 :: fk_r g 18 :: .int v :: fk_r g 19 :: fk_r g 20 :: fk_r g 21 :: .int (gI st 35 i) :: .int (gI st 36 i) :: []))) = fk_ws wM g (sI st 31 i v) := by
  refine fk_wset (w := wM) (kdM_lt (by rw [h]; decide)) (fun j _ hj => xEM_I hj) ?_
  show xEM g (sI st 31 i v) i = _
  rw [at_8 h]
  simp [gI_sI, gT_sI]
theorem wst_8_35 {g : fkG} {st : fkS} {i : Nat} {v : Int32} (h : kdM i = 8) : (fk_ws wM g st).set i (g.1 i, .inr (8, (.int (gI st 0 i) :: fk_r g 1 :: fk_r g 2 :: fk_r g 3 :: fk_r g 4 :: fk_r g 5 :: .int (gI st 6 i) :: .int (gI st 7 i) :: .int (gI st 8 i) :: fk_r g 6 :: fk_r g 7 :: fk_r g 8 :: .int (gI st 12 i) :: .int (gI st 13 i) :: fk_r g 9 :: .int (gI st 15 i) :: fk_r g 10 :: .int (gI st 17 i) :: fk_r g 11 :: fk_r g 12 :: .int (gI st 20 i) :: fk_r g 13 :: .int (gI st 22 i) :: fk_r g 14 :: .int (gI st 24 i) :: fk_r g 15 :: .int (gI st 26 i) :: .int (gI st 27 i) :: fk_r g 16 :: fk_r g 17 :: fk_r g 18 :: .int (gI st 31 i) :: fk_r g 19 :: fk_r g 20 :: fk_r g 21 :: .int v :: .int (gI st 36 i) :: []))) = fk_ws wM g (sI st 35 i v) := by
  refine fk_wset (w := wM) (kdM_lt (by rw [h]; decide)) (fun j _ hj => xEM_I hj) ?_
  show xEM g (sI st 35 i v) i = _
  rw [at_8 h]
  simp [gI_sI, gT_sI]
theorem wst_8_36 {g : fkG} {st : fkS} {i : Nat} {v : Int32} (h : kdM i = 8) : (fk_ws wM g st).set i (g.1 i, .inr (8, (.int (gI st 0 i) :: fk_r g 1 :: fk_r g 2 :: fk_r g 3 :: fk_r g 4 :: fk_r g 5 :: .int (gI st 6 i) :: .int (gI st 7 i) :: .int (gI st 8 i) :: fk_r g 6 :: fk_r g 7 :: fk_r g 8 :: .int (gI st 12 i) :: .int (gI st 13 i) :: fk_r g 9 :: .int (gI st 15 i) :: fk_r g 10 :: .int (gI st 17 i) :: fk_r g 11 :: fk_r g 12 :: .int (gI st 20 i) :: fk_r g 13 :: .int (gI st 22 i) :: fk_r g 14 :: .int (gI st 24 i) :: fk_r g 15 :: .int (gI st 26 i) :: .int (gI st 27 i) :: fk_r g 16 :: fk_r g 17 :: fk_r g 18 :: .int (gI st 31 i) :: fk_r g 19 :: fk_r g 20 :: fk_r g 21 :: .int (gI st 35 i) :: .int v :: []))) = fk_ws wM g (sI st 36 i v) := by
  refine fk_wset (w := wM) (kdM_lt (by rw [h]; decide)) (fun j _ hj => xEM_I hj) ?_
  show xEM g (sI st 36 i v) i = _
  rw [at_8 h]
  simp [gI_sI, gT_sI]
theorem wst_4_T {g : fkG} {st : fkS} {t : Nat} : (fk_ws wC g st).set 34 (g.1 34, .inr (4, [.int (gI st 80 34), .int (gI st 81 34), fk_r g t, fk_r g 35])) = fk_ws wC g (sT st (some t)) :=
  fk_wset (w := wC) (show 34 < 48 by decide) (fun j _ hj => xEC_T hj) rfl
/-- a row of ints, of longs, at a place of the world -/
def fk_isI (w : fkW) (g : fkG) (i n : Nat) : Prop := i < w.2 ∧ (∀ st, w.1 g st i = .inl (g.2.2.1.1, n, .inl (gA st i))) ∧ ∀ (st : fkS) (h : Nat → Int32) (j : Nat), j ≠ i → w.1 g (sAF st i h) j = w.1 g st j
def fk_isL (w : fkW) (g : fkG) (i n : Nat) : Prop := i < w.2 ∧ (∀ st, w.1 g st i = .inl (g.2.2.1.2.1, n, .inr (.inl (gL st i)))) ∧ ∀ (st : fkS) (h : Nat → Int64) (j : Nat), j ≠ i → w.1 g (sLF st i h) j = w.1 g st j
theorem isI_C {g : fkG} {i n : Nat} (h : kdC i = 9) (hn : lnC i = n) : fk_isI wC g i n := by
  refine ⟨kdC_lt (by rw [h]; decide), fun st => ?_, fun st v j hj => xEC_A hj⟩
  show xEC g st i = _
  subst hn
  unfold xEC
  rw [h]
  first | done | rfl
theorem isL_C {g : fkG} {i n : Nat} (h : kdC i = 10) (hn : lnC i = n) : fk_isL wC g i n := by
  refine ⟨kdC_lt (by rw [h]; decide), fun st => ?_, fun st v j hj => xEC_L hj⟩
  show xEC g st i = _
  subst hn
  unfold xEC
  rw [h]
  first | done | rfl
theorem isI_M {g : fkG} {i n : Nat} (h : kdM i = 9) (hn : lnM i = n) : fk_isI wM g i n := by
  refine ⟨kdM_lt (by rw [h]; decide), fun st => ?_, fun st v j hj => xEM_A hj⟩
  show xEM g st i = _
  subst hn
  unfold xEM
  rw [h]
  first | done | rfl
theorem isL_M {g : fkG} {i n : Nat} (h : kdM i = 10) (hn : lnM i = n) : fk_isL wM g i n := by
  refine ⟨kdM_lt (by rw [h]; decide), fun st => ?_, fun st v j hj => xEM_L hj⟩
  show xEM g st i = _
  subst hn
  unfold xEM
  rw [h]
  first | done | rfl
theorem isI_0_1 {g : fkG} {i : Nat} (h : kdC i = 0) : fk_isI wC g (i + 3) 7 := by
  have h1 : i < 48 := kdC_lt (by rw [h]; decide)
  have h2 := (show ∀ i, i < 48 → kdC i = 0 → kdC (i + 3) = 9 ∧ lnC (i + 3) = 7 from by decide +kernel) i h1 h
  exact isI_C h2.1 h2.2
theorem isI_0_2 {g : fkG} {i : Nat} (h : kdC i = 0) : fk_isI wC g (i + 6) 7 := by
  have h1 : i < 48 := kdC_lt (by rw [h]; decide)
  have h2 := (show ∀ i, i < 48 → kdC i = 0 → kdC (i + 6) = 9 ∧ lnC (i + 6) = 7 from by decide +kernel) i h1 h
  exact isI_C h2.1 h2.2
theorem isI_0_3 {g : fkG} {i : Nat} (h : kdC i = 0) : fk_isI wC g (i + 9) 7 := by
  have h1 : i < 48 := kdC_lt (by rw [h]; decide)
  have h2 := (show ∀ i, i < 48 → kdC i = 0 → kdC (i + 9) = 9 ∧ lnC (i + 9) = 7 from by decide +kernel) i h1 h
  exact isI_C h2.1 h2.2
theorem isI_0_4 {g : fkG} {i : Nat} (h : kdC i = 0) : fk_isI wC g (i + 12) 40 := by
  have h1 : i < 48 := kdC_lt (by rw [h]; decide)
  have h2 := (show ∀ i, i < 48 → kdC i = 0 → kdC (i + 12) = 9 ∧ lnC (i + 12) = 40 from by decide +kernel) i h1 h
  exact isI_C h2.1 h2.2
theorem isI_1_0 {g : fkG} {i : Nat} (h : kdC i = 1) : fk_isI wC g (i + 1) 20 := by
  have h1 : i < 48 := kdC_lt (by rw [h]; decide)
  have h2 := (show ∀ i, i < 48 → kdC i = 1 → kdC (i + 1) = 9 ∧ lnC (i + 1) = 20 from by decide +kernel) i h1 h
  exact isI_C h2.1 h2.2
theorem isI_2_2 {g : fkG} {i : Nat} (h : kdC i = 2) : fk_isI wC g (i + 1) 7 := by
  have h1 : i < 48 := kdC_lt (by rw [h]; decide)
  have h2 := (show ∀ i, i < 48 → kdC i = 2 → kdC (i + 1) = 9 ∧ lnC (i + 1) = 7 from by decide +kernel) i h1 h
  exact isI_C h2.1 h2.2
theorem isI_2_3 {g : fkG} {i : Nat} (h : kdC i = 2) : fk_isI wC g (i + 2) 7 := by
  have h1 : i < 48 := kdC_lt (by rw [h]; decide)
  have h2 := (show ∀ i, i < 48 → kdC i = 2 → kdC (i + 2) = 9 ∧ lnC (i + 2) = 7 from by decide +kernel) i h1 h
  exact isI_C h2.1 h2.2
theorem isI_2_4 {g : fkG} {i : Nat} (h : kdC i = 2) : fk_isI wC g (i + 3) 7 := by
  have h1 : i < 48 := kdC_lt (by rw [h]; decide)
  have h2 := (show ∀ i, i < 48 → kdC i = 2 → kdC (i + 3) = 9 ∧ lnC (i + 3) = 7 from by decide +kernel) i h1 h
  exact isI_C h2.1 h2.2
theorem isI_3_0 {g : fkG} {i : Nat} (h : kdC i = 3) : fk_isI wC g (i + 1) 8 := by
  have h1 : i < 48 := kdC_lt (by rw [h]; decide)
  have h2 := (show ∀ i, i < 48 → kdC i = 3 → kdC (i + 1) = 9 ∧ lnC (i + 1) = 8 from by decide +kernel) i h1 h
  exact isI_C h2.1 h2.2
theorem isI_4_3 {g : fkG} {i : Nat} (h : kdC i = 4) : fk_isI wC g (i + 1) 3 := by
  have h1 : i < 48 := kdC_lt (by rw [h]; decide)
  have h2 := (show ∀ i, i < 48 → kdC i = 4 → kdC (i + 1) = 9 ∧ lnC (i + 1) = 3 from by decide +kernel) i h1 h
  exact isI_C h2.1 h2.2
theorem isL_5_4 {g : fkG} {i : Nat} (h : kdC i = 5) : fk_isL wC g (i + 8) 160 := by
  have h1 : i < 48 := kdC_lt (by rw [h]; decide)
  have h2 := (show ∀ i, i < 48 → kdC i = 5 → kdC (i + 8) = 10 ∧ lnC (i + 8) = 160 from by decide +kernel) i h1 h
  exact isL_C h2.1 h2.2
theorem isI_6_5 {g : fkG} {i : Nat} (h : kdC i = 6) : fk_isI wC g (i + 2) 16 := by
  have h1 : i < 48 := kdC_lt (by rw [h]; decide)
  have h2 := (show ∀ i, i < 48 → kdC i = 6 → kdC (i + 2) = 9 ∧ lnC (i + 2) = 16 from by decide +kernel) i h1 h
  exact isI_C h2.1 h2.2
theorem isI_7_11 {g : fkG} : fk_isI wC g 1 8 := isI_C rfl rfl
theorem isI_8_1 {g : fkG} : fk_isI wM g 1 7 := isI_M rfl rfl
theorem isI_8_2 {g : fkG} : fk_isI wM g 2 7 := isI_M rfl rfl
theorem isI_8_3 {g : fkG} : fk_isI wM g 3 7 := isI_M rfl rfl
theorem isI_8_4 {g : fkG} : fk_isI wM g 4 3 := isI_M rfl rfl
theorem isI_8_5 {g : fkG} : fk_isI wM g 5 40 := isI_M rfl rfl
theorem isI_8_9 {g : fkG} : fk_isI wM g 6 8 := isI_M rfl rfl
theorem isI_8_10 {g : fkG} : fk_isI wM g 7 8 := isI_M rfl rfl
theorem isL_8_11 {g : fkG} : fk_isL wM g 8 1280 := isL_M rfl rfl
theorem isI_8_14 {g : fkG} : fk_isI wM g 9 3 := isI_M rfl rfl
theorem isI_8_16 {g : fkG} : fk_isI wM g 10 67 := isI_M rfl rfl
theorem isI_8_18 {g : fkG} : fk_isI wM g 11 20 := isI_M rfl rfl
theorem isI_8_19 {g : fkG} : fk_isI wM g 12 8 := isI_M rfl rfl
theorem isI_8_21 {g : fkG} : fk_isI wM g 13 67 := isI_M rfl rfl
theorem isI_8_23 {g : fkG} : fk_isI wM g 14 8 := isI_M rfl rfl
theorem isI_8_25 {g : fkG} : fk_isI wM g 15 16 := isI_M rfl rfl
theorem isI_8_28 {g : fkG} : fk_isI wM g 16 7 := isI_M rfl rfl
theorem isI_8_29 {g : fkG} : fk_isI wM g 17 14 := isI_M rfl rfl
theorem isI_8_30 {g : fkG} : fk_isI wM g 18 7 := isI_M rfl rfl
theorem isI_8_32 {g : fkG} : fk_isI wM g 19 7 := isI_M rfl rfl
theorem isI_8_33 {g : fkG} : fk_isI wM g 20 7 := isI_M rfl rfl
theorem isI_8_34 {g : fkG} : fk_isI wM g 21 7 := isI_M rfl rfl
theorem a_iload {w : fkW} {g : fkG} {k : fkK} {ρ : Type} {en : ρ → Option Value} {own : String} {cc : ByteArray} {nL fr lo pc : Nat} {ret : Option FieldType} {lv : List (Nat × Value)} {stk : List Value} {st : fkS} (hk : fk_ok w g k own cc nL ret fr lo) {i n : Nat} {j : Int32} {F1 : Int32 → Option (ρ × fkS)} (hi : fk_isI w g i n) (hdg : decode cc pc = .ok (.iaload, 1))
    (kk : ∀ x, fk_J w g en k (pc + 1) lv (.int x :: stk) st (F1 x)) : fk_J w g en k pc lv (.int j :: fk_r g i :: stk) st (fk_chk (fk_in j n) (fk_let (gA st i j.toNatClampNeg) F1)) := by
  intro o ho hq
  cases hin : fk_in j n with
  | false => rw [hin] at ho; exact absurd ho (by simp [fk_chk])
  | true =>
  rw [hin] at ho
  have hin := fk_in_vp hin
  have kk := kk (gA st i j.toNatClampNeg) o ho hq
  obtain ⟨p, l, e, R, s, m, args, below, meth, c, rv, sf⟩ := k
  obtain ⟨hx, hb, hml, hown, hts, hK, hE, hr, hlk, hinj, hfr, hlo⟩ := hk
  obtain ⟨hi1, hi2, hi3⟩ := hi
  intro H locs ls hl hP hS
  exact va_iald (D := g.2.1) (ws := fk_ws w g st) hx hb hK hP i 0 (by rw [fk_wat hi1, hi2]) rfl hin hdg (kk H locs ls hl hP hS)
theorem a_istore {w : fkW} {g : fkG} {k : fkK} {ρ : Type} {en : ρ → Option Value} {own : String} {cc : ByteArray} {nL fr lo pc : Nat} {ret : Option FieldType} {lv : List (Nat × Value)} {stk : List Value} {st : fkS} (hk : fk_ok w g k own cc nL ret fr lo) {i n : Nat} {j : Int32} {x : Int32} {F1 : fkS → Option (ρ × fkS)} (hi : fk_isI w g i n) (hdg : decode cc pc = .ok (.iastore, 1))
    (kk : ∀ st1, fk_J w g en k (pc + 1) lv stk st1 (F1 st1)) : fk_J w g en k pc lv (.int x :: .int j :: fk_r g i :: stk) st (fk_chk (fk_in j n) (fk_let (sA st i j.toNatClampNeg x) F1)) := by
  intro o ho hq
  cases hin : fk_in j n with
  | false => rw [hin] at ho; exact absurd ho (by simp [fk_chk])
  | true =>
  rw [hin] at ho
  have hin := fk_in_vp hin
  have kk := kk (sA st i j.toNatClampNeg x) o ho hq
  obtain ⟨p, l, e, R, s, m, args, below, meth, c, rv, sf⟩ := k
  obtain ⟨hx, hb, hml, hown, hts, hK, hE, hr, hlk, hinj, hfr, hlo⟩ := hk
  obtain ⟨hi1, hi2, hi3⟩ := hi
  intro H locs ls hl hP hS
  refine va_iast (D := g.2.1) (ws := fk_ws w g st) hx hb hK hP (fk_wD hinj _ _) hS i 0 (by rw [fk_wat hi1, hi2]) rfl hin hdg (fun H1 locs1 hP1 hD1 hS1 => kk H1 locs1 ls hl ?_ hS1)
  rw [fk_wset (st' := sA st i j.toNatClampNeg x) hi1 (fun q _ hq => hi3 _ _ _ hq) (by rw [sA, hi2]; simp [gA_sAF])] at hP1
  exact hP1
theorem a_ilen {w : fkW} {g : fkG} {k : fkK} {ρ : Type} {en : ρ → Option Value} {own : String} {cc : ByteArray} {nL fr lo pc : Nat} {ret : Option FieldType} {lv : List (Nat × Value)} {stk : List Value} {st : fkS} {F : Option (ρ × fkS)} (hk : fk_ok w g k own cc nL ret fr lo) {i n : Nat} {v : Int32} (hi : fk_isI w g i n) (hv : Int32.ofNat n = v) (hdg : decode cc pc = .ok (.arraylength, 1))
    (kk : fk_J w g en k (pc + 1) lv (.int v :: stk) st F) : fk_J w g en k pc lv (fk_r g i :: stk) st F := by
  intro o ho hq
  have kk := kk o ho hq
  obtain ⟨p, l, e, R, s, m, args, below, meth, c, rv, sf⟩ := k
  obtain ⟨hx, hb, hml, hown, hts, hK, hE, hr, hlk, hinj, hfr, hlo⟩ := hk
  intro H locs ls hl hP hS
  obtain ⟨hi1, hi2, hi3⟩ := hi
  exact va_alen (D := g.2.1) (ws := fk_ws w g st) hx hb hK hP i 0 (by rw [fk_wat hi1, hi2]) rfl hv hdg (kk H locs ls hl hP hS)
theorem a_lload {w : fkW} {g : fkG} {k : fkK} {ρ : Type} {en : ρ → Option Value} {own : String} {cc : ByteArray} {nL fr lo pc : Nat} {ret : Option FieldType} {lv : List (Nat × Value)} {stk : List Value} {st : fkS} (hk : fk_ok w g k own cc nL ret fr lo) {i n : Nat} {j : Int32} {F1 : Int64 → Option (ρ × fkS)} (hi : fk_isL w g i n) (hdg : decode cc pc = .ok (.laload, 1))
    (kk : ∀ x, fk_J w g en k (pc + 1) lv (.long x :: stk) st (F1 x)) : fk_J w g en k pc lv (.int j :: fk_r g i :: stk) st (fk_chk (fk_in j n) (fk_let (gL st i j.toNatClampNeg) F1)) := by
  intro o ho hq
  cases hin : fk_in j n with
  | false => rw [hin] at ho; exact absurd ho (by simp [fk_chk])
  | true =>
  rw [hin] at ho
  have hin := fk_in_vp hin
  have kk := kk (gL st i j.toNatClampNeg) o ho hq
  obtain ⟨p, l, e, R, s, m, args, below, meth, c, rv, sf⟩ := k
  obtain ⟨hx, hb, hml, hown, hts, hK, hE, hr, hlk, hinj, hfr, hlo⟩ := hk
  obtain ⟨hi1, hi2, hi3⟩ := hi
  intro H locs ls hl hP hS
  exact va_lald (D := g.2.1) (ws := fk_ws w g st) hx hb hK hP i 1 (by rw [fk_wat hi1, hi2]) rfl hin hdg (kk H locs ls hl hP hS)
theorem a_lstore {w : fkW} {g : fkG} {k : fkK} {ρ : Type} {en : ρ → Option Value} {own : String} {cc : ByteArray} {nL fr lo pc : Nat} {ret : Option FieldType} {lv : List (Nat × Value)} {stk : List Value} {st : fkS} (hk : fk_ok w g k own cc nL ret fr lo) {i n : Nat} {j : Int32} {x : Int64} {F1 : fkS → Option (ρ × fkS)} (hi : fk_isL w g i n) (hdg : decode cc pc = .ok (.lastore, 1))
    (kk : ∀ st1, fk_J w g en k (pc + 1) lv stk st1 (F1 st1)) : fk_J w g en k pc lv (.long x :: .int j :: fk_r g i :: stk) st (fk_chk (fk_in j n) (fk_let (sL st i j.toNatClampNeg x) F1)) := by
  intro o ho hq
  cases hin : fk_in j n with
  | false => rw [hin] at ho; exact absurd ho (by simp [fk_chk])
  | true =>
  rw [hin] at ho
  have hin := fk_in_vp hin
  have kk := kk (sL st i j.toNatClampNeg x) o ho hq
  obtain ⟨p, l, e, R, s, m, args, below, meth, c, rv, sf⟩ := k
  obtain ⟨hx, hb, hml, hown, hts, hK, hE, hr, hlk, hinj, hfr, hlo⟩ := hk
  obtain ⟨hi1, hi2, hi3⟩ := hi
  intro H locs ls hl hP hS
  refine va_last (D := g.2.1) (ws := fk_ws w g st) hx hb hK hP (fk_wD hinj _ _) hS i 1 (by rw [fk_wat hi1, hi2]) rfl hin hdg (fun H1 locs1 hP1 hD1 hS1 => kk H1 locs1 ls hl ?_ hS1)
  rw [fk_wset (st' := sL st i j.toNatClampNeg x) hi1 (fun q _ hq => hi3 _ _ _ hq) (by rw [sL, hi2]; simp [gL_sLF])] at hP1
  exact hP1
theorem a_llen {w : fkW} {g : fkG} {k : fkK} {ρ : Type} {en : ρ → Option Value} {own : String} {cc : ByteArray} {nL fr lo pc : Nat} {ret : Option FieldType} {lv : List (Nat × Value)} {stk : List Value} {st : fkS} {F : Option (ρ × fkS)} (hk : fk_ok w g k own cc nL ret fr lo) {i n : Nat} {v : Int32} (hi : fk_isL w g i n) (hv : Int32.ofNat n = v) (hdg : decode cc pc = .ok (.arraylength, 1))
    (kk : fk_J w g en k (pc + 1) lv (.int v :: stk) st F) : fk_J w g en k pc lv (fk_r g i :: stk) st F := by
  intro o ho hq
  have kk := kk o ho hq
  obtain ⟨p, l, e, R, s, m, args, below, meth, c, rv, sf⟩ := k
  obtain ⟨hx, hb, hml, hown, hts, hK, hE, hr, hlk, hinj, hfr, hlo⟩ := hk
  intro H locs ls hl hP hS
  obtain ⟨hi1, hi2, hi3⟩ := hi
  exact va_alen (D := g.2.1) (ws := fk_ws w g st) hx hb hK hP i 1 (by rw [fk_wat hi1, hi2]) rfl hv hdg (kk H locs ls hl hP hS)
def fk_cp (sp dp n : Int32) (n0 n1 : Nat) : Bool := decide (¬ sp < 0 ∧ ¬ dp < 0 ∧ ¬ n < 0 ∧ sp.toNatClampNeg + n.toNatClampNeg ≤ n0 ∧ dp.toNatClampNeg + n.toNatClampNeg ≤ n1)
theorem wd_cpn : Cond.native arraycopyName ∈ fkB := fkB_in (List.mem_of_getElem? (i := 425) (by decide +kernel)) rfl
theorem wd_cps : Cond.static arraycopyName ∈ fkB := fkB_in (List.mem_of_getElem? (i := 424) (by decide +kernel)) rfl
theorem wd_cpi : Cond.initialized "java/lang/System" ∈ fkB := fkB_in (List.mem_of_getElem? (i := 116) (by decide +kernel)) rfl
theorem a_icopy {w : fkW} {g : fkG} {k : fkK} {ρ : Type} {en : ρ → Option Value} {own : String} {cc : ByteArray} {nL fr lo pc : Nat} {ret : Option FieldType} {lv : List (Nat × Value)} {stk : List Value} {st : fkS} (hk : fk_ok w g k own cc nL ret fr lo) {ix i0 i1 n0 n1 : Nat} {sp dp n : Int32} {F1 : fkS → Option (ρ × fkS)} (h0 : fk_isI w g i0 n0) (h1 : fk_isI w g i1 n1) (hlink : Cond.methodLink own ix arraycopyName ∈ fkB) (hf : 1 ≤ fr) (hlq : (stk.map fun v => v.category).sum + (nativeFrameWords "java/lang/System" "arraycopy" 5 + 11) ≤ lo) (hdg : decode cc pc = .ok (.invokestatic ix, 3))
    (kk : ∀ st1, fk_J w g en k (pc + 3) lv stk st1 (F1 st1)) : fk_J w g en k pc lv (.int n :: .int dp :: fk_r g i1 :: .int sp :: fk_r g i0 :: stk) st (fk_chk (fk_cp sp dp n n0 n1) (fk_let (sAF st i1 (va_cpy (gA st i0) (gA st i1) sp.toNatClampNeg dp.toNatClampNeg n.toNatClampNeg)) F1)) := by
  intro o ho hq
  cases hin : fk_cp sp dp n n0 n1 with
  | false => rw [hin] at ho; exact absurd ho (by simp [fk_chk])
  | true =>
  rw [hin] at ho
  have hin := of_decide_eq_true hin
  have kk := kk (sAF st i1 (va_cpy (gA st i0) (gA st i1) sp.toNatClampNeg dp.toNatClampNeg n.toNatClampNeg)) o ho hq
  obtain ⟨p, l, e, R, s, m, args, below, meth, c, rv, sf⟩ := k
  obtain ⟨hx, hb, hml, hown, hts, hK, hE, hr, hlk, hinj, hfr, hlo⟩ := hk
  obtain ⟨hi1, hi2, hi3⟩ := h0
  obtain ⟨hj1, hj2, hj3⟩ := h1
  intro H locs ls hl hP hS
  refine va_copyi (D := g.2.1) (ws := fk_ws w g st) hx hb hl.1.symm hown (hts _ hlink) (hts _ wd_cpn) (hts _ wd_cps) (hts _ wd_cpi) hK hP (fk_wD hinj _ _) hS i0 i1 0 0 (by rw [fk_wat hi1, hi2]) (by rw [fk_wat hj1, hj2]) rfl rfl rfl hin.1 hin.2.1 hin.2.2.1 hin.2.2.2.1 hin.2.2.2.2 (fun _ _ => rfl) (Nat.le_trans hf hfr) (Nat.le_trans hlq hlo) hdg (fun H1 locs1 hP1 hD1 hS1 => kk H1 locs1 ls hl ?_ hS1)
  rw [fk_wset (st' := sAF st i1 (va_cpy (gA st i0) (gA st i1) sp.toNatClampNeg dp.toNatClampNeg n.toNatClampNeg)) hj1 (fun q _ hq => hj3 _ _ _ hq) (by rw [hj2]; simp [gA_sAF])] at hP1
  exact hP1
theorem a_lcopy {w : fkW} {g : fkG} {k : fkK} {ρ : Type} {en : ρ → Option Value} {own : String} {cc : ByteArray} {nL fr lo pc : Nat} {ret : Option FieldType} {lv : List (Nat × Value)} {stk : List Value} {st : fkS} (hk : fk_ok w g k own cc nL ret fr lo) {ix i0 i1 n0 n1 : Nat} {sp dp n : Int32} {F1 : fkS → Option (ρ × fkS)} (h0 : fk_isL w g i0 n0) (h1 : fk_isL w g i1 n1) (hlink : Cond.methodLink own ix arraycopyName ∈ fkB) (hf : 1 ≤ fr) (hlq : (stk.map fun v => v.category).sum + (nativeFrameWords "java/lang/System" "arraycopy" 5 + 11) ≤ lo) (hdg : decode cc pc = .ok (.invokestatic ix, 3))
    (kk : ∀ st1, fk_J w g en k (pc + 3) lv stk st1 (F1 st1)) : fk_J w g en k pc lv (.int n :: .int dp :: fk_r g i1 :: .int sp :: fk_r g i0 :: stk) st (fk_chk (fk_cp sp dp n n0 n1) (fk_let (sLF st i1 (va_cpy (gL st i0) (gL st i1) sp.toNatClampNeg dp.toNatClampNeg n.toNatClampNeg)) F1)) := by
  intro o ho hq
  cases hin : fk_cp sp dp n n0 n1 with
  | false => rw [hin] at ho; exact absurd ho (by simp [fk_chk])
  | true =>
  rw [hin] at ho
  have hin := of_decide_eq_true hin
  have kk := kk (sLF st i1 (va_cpy (gL st i0) (gL st i1) sp.toNatClampNeg dp.toNatClampNeg n.toNatClampNeg)) o ho hq
  obtain ⟨p, l, e, R, s, m, args, below, meth, c, rv, sf⟩ := k
  obtain ⟨hx, hb, hml, hown, hts, hK, hE, hr, hlk, hinj, hfr, hlo⟩ := hk
  obtain ⟨hi1, hi2, hi3⟩ := h0
  obtain ⟨hj1, hj2, hj3⟩ := h1
  intro H locs ls hl hP hS
  refine va_copyl (D := g.2.1) (ws := fk_ws w g st) hx hb hl.1.symm hown (hts _ hlink) (hts _ wd_cpn) (hts _ wd_cps) (hts _ wd_cpi) hK hP (fk_wD hinj _ _) hS i0 i1 1 1 (by rw [fk_wat hi1, hi2]) (by rw [fk_wat hj1, hj2]) rfl rfl rfl hin.1 hin.2.1 hin.2.2.1 hin.2.2.2.1 hin.2.2.2.2 (fun _ _ => rfl) (Nat.le_trans hf hfr) (Nat.le_trans hlq hlo) hdg (fun H1 locs1 hP1 hD1 hS1 => kk H1 locs1 ls hl ?_ hS1)
  rw [fk_wset (st' := sLF st i1 (va_cpy (gL st i0) (gL st i1) sp.toNatClampNeg dp.toNatClampNeg n.toNatClampNeg)) hj1 (fun q _ hq => hj3 _ _ _ hq) (by rw [hj2]; simp [gL_sLF])] at hP1
  exact hP1
theorem sh_kd : ∀ n, n < 8 → kdC (3 + n) = 5 := by decide +kernel
theorem fk_in_lt {j : Int32} {n : Nat} (h : fk_in j n = true) : j.toNatClampNeg < n := by
  have h1 := fk_in_vp h
  unfold vp_in at h1
  omega
theorem a_shelf {g : fkG} {k : fkK} {ρ : Type} {en : ρ → Option Value} {own : String} {cc : ByteArray} {nL fr lo pc : Nat} {ret : Option FieldType} {lv : List (Nat × Value)} {stk : List Value} {st : fkS} {F : Option (ρ × fkS)} (hk : fk_ok wC g k own cc nL ret fr lo) {j : Int32} (hdg : decode cc pc = .ok (.aaload, 1))
    (kk : kdC (3 + j.toNatClampNeg) = 5 → fk_J wC g en k (pc + 1) lv (fk_r g (3 + j.toNatClampNeg) :: stk) st F) : fk_J wC g en k pc lv (.int j :: fk_r g 2 :: stk) st (fk_chk (fk_in j 8) F) := by
  intro o ho hq
  cases hin : fk_in j 8 with
  | false => rw [hin] at ho; exact absurd ho (by simp [fk_chk])
  | true =>
  rw [hin] at ho
  have kk := kk (sh_kd _ (fk_in_lt hin)) o ho hq
  have hin := fk_in_vp hin
  obtain ⟨p, l, e, R, s, m, args, below, meth, c, rv, sf⟩ := k
  obtain ⟨hx, hb, hml, hown, hts, hK, hE, hr, hlk, hinj, hfr, hlo⟩ := hk
  intro H locs ls hl hP hS
  exact va_aldq (D := g.2.1) (ws := fk_ws wC g st) hx hb hK hP 2 2 (f := fun j => some (g.1 (3 + j))) (n := 8) (by rw [fk_wat (w := wC) (show 2 < 48 by decide)]; rfl) rfl hin hdg (kk H locs ls hl hP hS)
theorem a_slen {g : fkG} {k : fkK} {ρ : Type} {en : ρ → Option Value} {own : String} {cc : ByteArray} {nL fr lo pc : Nat} {ret : Option FieldType} {lv : List (Nat × Value)} {stk : List Value} {st : fkS} {F : Option (ρ × fkS)} (hk : fk_ok wC g k own cc nL ret fr lo) (hdg : decode cc pc = .ok (.arraylength, 1))
    (kk : fk_J wC g en k (pc + 1) lv (.int (8 : Int32) :: stk) st F) : fk_J wC g en k pc lv (fk_r g 2 :: stk) st F := by
  intro o ho hq
  have kk := kk o ho hq
  obtain ⟨p, l, e, R, s, m, args, below, meth, c, rv, sf⟩ := k
  obtain ⟨hx, hb, hml, hown, hts, hK, hE, hr, hlk, hinj, hfr, hlo⟩ := hk
  intro H locs ls hl hP hS
  exact va_alen (D := g.2.1) (ws := fk_ws wC g st) hx hb hK hP 2 2 (x := (8, .inr (.inr (.inr (.inr (fun j => some (g.1 (3 + j)))))))) (by rw [fk_wat (w := wC) (show 2 < 48 by decide)]; rfl) rfl (v := (8 : Int32)) rfl hdg (kk H locs ls hl hP hS)
def fk_rka (g : fkG) : Value := .ref g.2.2.2.1.1
theorem wd_ka : Cond.fieldLink RX7 341 "PieFunnels" "KIND_ABOVE" "[I" ∈ fkB := fkB_in (List.mem_of_getElem? (i := 465) (by decide +kernel)) rfl
theorem a_kaget {w : fkW} {g : fkG} {k : fkK} {ρ : Type} {en : ρ → Option Value} {cc : ByteArray} {nL fr lo pc : Nat} {ret : Option FieldType} {lv : List (Nat × Value)} {stk : List Value} {st : fkS} {F : Option (ρ × fkS)} (hk : fk_ok w g k RX7 cc nL ret fr lo) (hdg : decode cc pc = .ok (.getstatic 341, 3))
    (kk : fk_J w g en k (pc + 3) lv (fk_rka g :: stk) st F) : fk_J w g en k pc lv stk st F := by
  intro o ho hq
  have kk := kk o ho hq
  obtain ⟨p, l, e, R, s, m, args, below, meth, c, rv, sf⟩ := k
  obtain ⟨hx, hb, hml, hown, hts, hK, hE, hr, hlk, hinj, hfr, hlo⟩ := hk
  intro H locs ls hl hP hS
  exact va_gets hx hb hE.2.1 hS hown (hts _ wd_ka) (fun _ h => h) hdg (kk H locs ls hl hP hS)
theorem a_kaload {w : fkW} {g : fkG} {k : fkK} {ρ : Type} {en : ρ → Option Value} {own : String} {cc : ByteArray} {nL fr lo pc : Nat} {ret : Option FieldType} {lv : List (Nat × Value)} {stk : List Value} {st : fkS} (hk : fk_ok w g k own cc nL ret fr lo) {j : Int32} {F1 : Int32 → Option (ρ × fkS)} (hdg : decode cc pc = .ok (.iaload, 1))
    (kk : ∀ x, fk_J w g en k (pc + 1) lv (.int x :: stk) st (F1 x)) : fk_J w g en k pc lv (.int j :: fk_rka g :: stk) st (fk_chk (fk_in j 7) (fk_let (fk_ka j.toNatClampNeg) F1)) := by
  intro o ho hq
  cases hin : fk_in j 7 with
  | false => rw [hin] at ho; exact absurd ho (by simp [fk_chk])
  | true =>
  rw [hin] at ho
  have hin := fk_in_vp hin
  have kk := kk (fk_ka j.toNatClampNeg) o ho hq
  obtain ⟨p, l, e, R, s, m, args, below, meth, c, rv, sf⟩ := k
  obtain ⟨hx, hb, hml, hown, hts, hK, hE, hr, hlk, hinj, hfr, hlo⟩ := hk
  intro H locs ls hl hP hS
  exact va_ti hx hb hE.2.2.1 hS hin rfl hdg (kk H locs ls hl hP hS)
theorem a_kalen {w : fkW} {g : fkG} {k : fkK} {ρ : Type} {en : ρ → Option Value} {own : String} {cc : ByteArray} {nL fr lo pc : Nat} {ret : Option FieldType} {lv : List (Nat × Value)} {stk : List Value} {st : fkS} {F : Option (ρ × fkS)} (hk : fk_ok w g k own cc nL ret fr lo) (hdg : decode cc pc = .ok (.arraylength, 1))
    (kk : fk_J w g en k (pc + 1) lv (.int 7 :: stk) st F) : fk_J w g en k pc lv (fk_rka g :: stk) st F := by
  intro o ho hq
  have kk := kk o ho hq
  obtain ⟨p, l, e, R, s, m, args, below, meth, c, rv, sf⟩ := k
  obtain ⟨hx, hb, hml, hown, hts, hK, hE, hr, hlk, hinj, hfr, hlo⟩ := hk
  intro H locs ls hl hP hS
  exact va_tlen hx hb hE.2.2.1 hS rfl hdg (kk H locs ls hl hP hS)
def fk_rbo (g : fkG) : Value := .ref g.2.2.2.1.2
theorem wd_bo : Cond.fieldLink RX1 46 "PieFunnels$Moves" "BODIES" "[I" ∈ fkB := fkB_in (List.mem_of_getElem? (i := 868) (by decide +kernel)) rfl
theorem a_boget {w : fkW} {g : fkG} {k : fkK} {ρ : Type} {en : ρ → Option Value} {cc : ByteArray} {nL fr lo pc : Nat} {ret : Option FieldType} {lv : List (Nat × Value)} {stk : List Value} {st : fkS} {F : Option (ρ × fkS)} (hk : fk_ok w g k RX1 cc nL ret fr lo) (hdg : decode cc pc = .ok (.getstatic 46, 3))
    (kk : fk_J w g en k (pc + 3) lv (fk_rbo g :: stk) st F) : fk_J w g en k pc lv stk st F := by
  intro o ho hq
  have kk := kk o ho hq
  obtain ⟨p, l, e, R, s, m, args, below, meth, c, rv, sf⟩ := k
  obtain ⟨hx, hb, hml, hown, hts, hK, hE, hr, hlk, hinj, hfr, hlo⟩ := hk
  intro H locs ls hl hP hS
  exact va_gets hx hb hE.2.2.2.1 hS hown (hts _ wd_bo) (fun _ h => h) hdg (kk H locs ls hl hP hS)
theorem a_boload {w : fkW} {g : fkG} {k : fkK} {ρ : Type} {en : ρ → Option Value} {own : String} {cc : ByteArray} {nL fr lo pc : Nat} {ret : Option FieldType} {lv : List (Nat × Value)} {stk : List Value} {st : fkS} (hk : fk_ok w g k own cc nL ret fr lo) {j : Int32} {F1 : Int32 → Option (ρ × fkS)} (hdg : decode cc pc = .ok (.iaload, 1))
    (kk : ∀ x, fk_J w g en k (pc + 1) lv (.int x :: stk) st (F1 x)) : fk_J w g en k pc lv (.int j :: fk_rbo g :: stk) st (fk_chk (fk_in j 21) (fk_let (fk_bo j.toNatClampNeg) F1)) := by
  intro o ho hq
  cases hin : fk_in j 21 with
  | false => rw [hin] at ho; exact absurd ho (by simp [fk_chk])
  | true =>
  rw [hin] at ho
  have hin := fk_in_vp hin
  have kk := kk (fk_bo j.toNatClampNeg) o ho hq
  obtain ⟨p, l, e, R, s, m, args, below, meth, c, rv, sf⟩ := k
  obtain ⟨hx, hb, hml, hown, hts, hK, hE, hr, hlk, hinj, hfr, hlo⟩ := hk
  intro H locs ls hl hP hS
  exact va_ti hx hb hE.2.2.2.2.1 hS hin rfl hdg (kk H locs ls hl hP hS)
theorem a_bolen {w : fkW} {g : fkG} {k : fkK} {ρ : Type} {en : ρ → Option Value} {own : String} {cc : ByteArray} {nL fr lo pc : Nat} {ret : Option FieldType} {lv : List (Nat × Value)} {stk : List Value} {st : fkS} {F : Option (ρ × fkS)} (hk : fk_ok w g k own cc nL ret fr lo) (hdg : decode cc pc = .ok (.arraylength, 1))
    (kk : fk_J w g en k (pc + 1) lv (.int 21 :: stk) st F) : fk_J w g en k pc lv (fk_rbo g :: stk) st F := by
  intro o ho hq
  have kk := kk o ho hq
  obtain ⟨p, l, e, R, s, m, args, below, meth, c, rv, sf⟩ := k
  obtain ⟨hx, hb, hml, hown, hts, hK, hE, hr, hlk, hinj, hfr, hlo⟩ := hk
  intro H locs ls hl hP hS
  exact va_tlen hx hb hE.2.2.2.2.1 hS rfl hdg (kk H locs ls hl hP hS)
theorem wd_kaN : Cond.fieldLinkNest RX1 49 "PieFunnels" "KIND_ABOVE" "[I" "PieFunnels" ∈ fk_nests := List.mem_of_getElem? (i := 45) (by decide +kernel)
theorem a_kagetN {w : fkW} {g : fkG} {k : fkK} {ρ : Type} {en : ρ → Option Value} {cc : ByteArray} {nL fr lo pc : Nat} {ret : Option FieldType} {lv : List (Nat × Value)} {stk : List Value} {st : fkS} {F : Option (ρ × fkS)} (hk : fk_ok w g k RX1 cc nL ret fr lo) (hdg : decode cc pc = .ok (.getstatic 49, 3))
    (kk : fk_J w g en k (pc + 3) lv (fk_rka g :: stk) st F) : fk_J w g en k pc lv stk st F := by
  intro o ho hq
  have kk := kk o ho hq
  obtain ⟨p, l, e, R, s, m, args, below, meth, c, rv, sf⟩ := k
  obtain ⟨hx, hb, hml, hown, hts, hK, hE, hr, hlk, hinj, hfr, hlo⟩ := hk
  intro H locs ls hl hP hS
  exact va_getsN hx hb hE.2.1 hS hown (va_Nw.use rfl (hE.1 _ wd_kaN)) (fun _ h => h) hdg (kk H locs ls hl hP hS)
