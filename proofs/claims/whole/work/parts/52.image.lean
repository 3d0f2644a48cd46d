/-! image -/
theorem op_image {c m : fkS} (h : Rel c m) : Op2 (F7_image c) (F8_image m) := by
  obtain ⟨nb, ⟨a1, a2, a3, a4, a5, a6⟩, ⟨b1, b2, b3, b4⟩, ⟨d1, d2, d3⟩, hs, ⟨e1, e2, e3, e4⟩, -⟩ := h
  obtain ⟨c', q1, q2, q3, q4, ⟨r0, r5, r6, r7, r8, r9, r10⟩, q6, q7⟩ := become_ok (c := c) (h := 21) (o := 19) (Or.inl ⟨rfl, rfl⟩)
  obtain ⟨arr, p1, p2⟩ := keepM_ok (st := sI m 20 0 1)
  unfold F7_image F8_image
  rw [q1, fk_bind_some, fk_let_e, fk_let_e, fk_let_e, p1, fk_bind_some, fk_let_e, fk_let_e, fk_let_e]
  obtain ⟨k1, k2, k3, k4, k5, k6⟩ := p2
  have gc : ∀ f i, i ≠ 21 → f ≠ 144 → gI (sI c' 144 0 1) f i = gI c f i := fun f i n1 n2 => by
    rw [gI_sI, if_neg (fun z => n2 z.1)]
    exact q2 f i n1
  have ga : ∀ i, i ≠ 24 → i ≠ 27 → i ≠ 30 → i ≠ 33 → gA (sI c' 144 0 1) i = gA c i := fun i n1 n2 n3 n4 => q3 i n1 n2 n3 n4
  have e144 : gI (sI c' 144 0 1) 144 0 = 1 := gI_same
  have c21 : ∀ f, f ≠ 144 → gI (sI c' 144 0 1) f 21 = gI c' f 21 := fun f n => by rw [gI_sI, if_neg (fun z => n z.1)]
  have r : gI (sI c' 144 0 1) 0 19 = nI nb := by rw [gc 0 19 (by decide) (by decide)]; exact a2
  have hF : RelN (sI c' 144 0 1) (sI (sAF (sI m 20 0 1) 13 arr) 36 0 (gI (sAF (sI m 20 0 1) 13 arr) 8 0)) nb := by
    refine ⟨⟨a1, r, a3, ?_, ?_, ?_⟩, ⟨?_, ?_, ?_, ?_⟩, ⟨?_, ?_, ?_⟩, ?_, ⟨?_, ?_, ?_, ?_⟩, ?_, Or.inr ⟨e144, ?_, ?_, ?_, ?_, ?_, ?_, ?_, ?_, ?_⟩⟩
    · rw [ga 22 (by decide) (by decide) (by decide) (by decide)]; exact a4
    · rw [ga 25 (by decide) (by decide) (by decide) (by decide)]; exact a5
    · rw [ga 28 (by decide) (by decide) (by decide) (by decide)]; exact a6
    · rw [ga 31 (by decide) (by decide) (by decide) (by decide)]; exact b1
    · rw [gc 5 19 (by decide) (by decide)]; exact b2
    · rw [gc 6 19 (by decide) (by decide)]; exact b3
    · rw [gc 7 19 (by decide) (by decide)]; exact b4
    · rw [gc 8 19 (by decide) (by decide)]; exact d1
    · rw [gc 9 19 (by decide) (by decide)]; exact d2
    · rw [gc 10 19 (by decide) (by decide)]; exact d3
    · intro s hs8
      have := hs s hs8
      unfold isE isB isR at this ⊢
      rw [gc 100 (3 + s) (by omega) (by decide), gc 101 (3 + s) (by omega) (by decide), gc 102 (3 + s) (by omega) (by decide), gc 103 (3 + s) (by omega) (by decide), show gL (sI c' 144 0 1) (3 + s + 8) = gL c (3 + s + 8) from q4 _]
      exact this
    · rw [gc 80 34 (by decide) (by decide)]; exact e1
    · rw [gc 21 36 (by decide) (by decide)]; exact e2
    · rw [ga 37 (by decide) (by decide) (by decide) (by decide)]; exact e3
    · rw [ga 1 (by decide) (by decide) (by decide) (by decide)]; exact e4
    · rw [e144]; rfl
    · exact ⟨nb, a1, by rw [c21 0 (by decide), r0]; exact a2, k4.trans a3⟩
    · intro b hb
      obtain ⟨w1, w2, w3⟩ := q6 b hb
      obtain ⟨x1, x2, x3⟩ := k1 b hb
      have y1 : gA (sI c' 144 0 1) 24 b = gA c 22 b := w1
      have y2 : gA (sI c' 144 0 1) 27 b = gA c 25 b := w2
      have y3 : gA (sI c' 144 0 1) 30 b = gA c 28 b := w3
      rw [y1, y2, y3]
      exact ⟨⟨(a4 b hb).1.trans x1.symm, (a4 b hb).2⟩, ⟨(a5 b hb).1.trans x2.symm, (a5 b hb).2⟩, ⟨(a6 b hb).1.trans x3.symm, (a6 b hb).2⟩⟩
    · intro j hj
      have y : gA (sI c' 144 0 1) 33 j = gA c 31 j := q7 j hj
      rw [y]
      exact ⟨(b1 j hj).1.trans (k2 j hj).symm, (b1 j hj).2⟩
    · rw [c21 5 (by decide), r5]; exact ⟨b2.1.trans (k3 0 (by decide)).symm, b2.2⟩
    · rw [c21 6 (by decide), r6]; exact ⟨b3.1.trans (k3 1 (by decide)).symm, b3.2⟩
    · rw [c21 7 (by decide), r7]; exact b4.trans (k3 2 (by decide)).symm
    · rw [c21 8 (by decide), r8]; exact d1.trans k5.symm
    · rw [c21 9 (by decide), r9]; exact d2.trans k6.symm
    · rw [c21 10 (by decide), r10]; exact d3
  rw [r, show gI (sI (sAF (sI m 20 0 1) 13 arr) 36 0 (gI (sAF (sI m 20 0 1) 13 arr) 8 0)) 0 0 = nI nb from a3]
  exact Op2.mk ⟨nb, hF⟩
