/-! said, brings -/
theorem rg10 {x : Int32} (h0 : ¬ x < 0) (h : x < 10) : rg x 10 := by
  obtain ⟨j, hj, rfl⟩ := nI_of h0
  rw [zl10, nI_ltI hj (by decide)] at h
  exact rg_nI h
theorem pieOf {c m : fkS} {nb : Nat} (h : RelN c m nb) (x b p q : Int32) :
    (∃ code, RC code ∧ F7_noPieOfWhat x b p q c = some (code, c) ∧ F8_noPie x b m = some (code, m)) ∨
    (∃ s bN, s < 8 ∧ x = nI s ∧ bN < nb ∧ b = nI bN ∧ isR c m s ∧ F8_noPie x b m = some (0, m) ∧
      F7_noPieOfWhat x b p q c = if p < 0 then some (-5, c) else if p ≤ q then fk_bind (F3_take (3 + s) 0 c) (fun x8 st9 => if x8 = 0 then some ((-6 : Int32), st9) else some ((0 : Int32), st9)) else some (-5, c)) := by
  have hnb := h.1.1
  have k1 : ¬ (1 : Int32) = 0 := by decide
  have kr : (0 : Int32) = 0 := rfl
  unfold F7_noPieOfWhat F8_noPie
  rw [w8]
  rcases rgQ (x := x) 8 with hx | hx
  · rw [noShelf_in hx, fk_bind_some, if_pos kr, within_in (by decide) hx, fk_bind_some, if_neg k1]
    rcases rgQ (x := b) nb with hb | hb
    · rw [lacks_in hnb h.1.2.1 hb, fk_bind_some, if_pos kr, isBird_in hnb h.1.2.2.1 hb, fk_bind_some, if_neg k1]
      rcases row1 h x with ⟨s, hs, rfl, hR, e1, e2⟩ | ⟨code, hc, e1, e2⟩
      · obtain ⟨bN, hb2, rfl⟩ := hb
        refine Or.inr ⟨s, bN, hs, rfl, hb2, rfl, hR, ?_, ?_⟩
        · rw [e2, fk_bind_some]
        · rw [e1, fk_bind_some, if_pos kr, fk_chk_in hs (by decide), nI_clamp (by omega)]
      · refine Or.inl ⟨code, hc, ?_, ?_⟩
        · rw [e1, fk_bind_some, if_neg hc.ref.1]
        · rw [e2, fk_bind_some]
    · refine Or.inl ⟨-1, Or.inl rfl, ?_, ?_⟩
      · rw [lacks_out hnb h.1.2.1 hb, fk_bind_some, if_neg k1]
      · rw [isBird_out hnb h.1.2.2.1 hb, fk_bind_some, if_pos kr]
  · refine Or.inl ⟨-1, Or.inl rfl, ?_, ?_⟩
    · rw [noShelf_out hx, fk_bind_some, if_neg k1]
    · rw [within_out (by decide) hx, fk_bind_some, if_pos kr]
theorem rg_ne1 {x : Int32} {n : Nat} (hn : n < 2 ^ 31) (h : rg x n) : ¬ x = -1 := fun q => nneg hn h (by rw [q]; decide)
theorem op_said {c m : fkS} (h : Rel c m) (x b p : Int32) : Op2 (F7_said x b p c) (F8_said x b p m) := by
  have h0 := h
  obtain ⟨nb, h⟩ := h
  have k1 : ¬ (1 : Int32) = 0 := by decide
  have k6 : ¬ (-6 : Int32) = 0 := by decide
  have kr : (0 : Int32) = 0 := rfl
  unfold F7_said F8_said F7_noPieOf
  rw [bind_id]
  rcases pieOf h x b 0 0 with ⟨code, hc, e1, e2⟩ | ⟨s, bN, hs, rfl, hb, rfl, hR, e2, e1⟩
  · rw [e1, e2, fk_bind_some, fk_bind_some, if_neg hc.ref.1, if_neg hc.ref.2.1]
    exact refC h0 hc
  · rw [e1, e2, fk_bind_some, if_pos Int32.le_rfl, if_neg (by decide), if_pos Int32.le_rfl]
    obtain ⟨r, c', m', t1, t2, t3, t4, t5⟩ := take2 (lo := 0) hs hR
    rw [t1, t2, fk_bind_some, fk_bind_some]
    have hK := h.keep t3 t4
    rcases t5 with rfl | ⟨rfl, n, hn, -, g1, g2, g3⟩
    · rw [if_pos kr, if_pos kr, fk_bind_some, if_neg k6]
      exact ref6 ⟨nb, hK⟩
    · rw [if_neg k1, if_neg k1, fk_bind_some, if_pos kr]
      obtain ⟨K, f, hK16, hf, ⟨c1, c2, s1, s2, s3, s4, s5⟩, ⟨m2, u1, u2, u3, u4⟩, -⟩ := spk (Or.inl rfl) hK hb hn g1 g2 (fun i hi => ⟨(g3 i hi).1, rg10 (g3 i hi).2.1 (g3 i hi).2.2⟩)
      have hF : Rel c2 m2 := ⟨nb, hK.keep (s3.eq (Or.inl rfl)) u2.eq⟩
      rw [s1, fk_bind_some, s2, fk_bind_some, u1, fk_bind_some]
      by_cases q : p = -1
      · rw [if_pos q, if_pos q, fk_let_e, fk_let_e, s4, u3]
        exact Op2.mk hF
      · rw [if_neg q, if_neg q, fk_let_e, u3]
        rcases rgQ (x := p) K with hp | hp
        · rw [within_in (by omega) hp, fk_bind_some, if_neg k1]
          obtain ⟨j, hj, rfl⟩ := hp
          have e0 : F6_sign 40 (nI j) c2 = some (f j, c2) := (sign_ok hj hK16 s4).trans (by rw [show gA c2 (40 + 2) j = f j from s5 j hj])
          rw [e0, fk_bind_some, if_neg (rg_ne1 (by decide) (hf j hj)), fk_chk_in (by omega) (by decide), fk_let_e, nI_clamp (by omega), u4 j hj]
          exact Op2.mk hF
        · rw [within_out (by omega) hp, fk_bind_some, if_pos kr, sign_no s4 (not_rg (by omega) hp), fk_bind_some, if_pos (show (-1 : Int32) = -1 from rfl)]
          exact ref5 hF
theorem rg2 {x : Int32} : rg x 2 ↔ ¬ x < 0 ∧ x ≤ 1 := by
  constructor
  · rintro ⟨a, ha, rfl⟩
    refine ⟨nI_pos (by omega), ?_⟩
    rw [zl1, nI_leI (by omega) (by decide)]
    omega
  · rintro ⟨h0, h1⟩
    obtain ⟨j, hj, rfl⟩ := nI_of h0
    rw [zl1, nI_leI hj (by decide)] at h1
    exact rg_nI (by omega)
theorem within2_in {x : Int32} {st : fkS} (h : rg x 2) : F8_within x 0 1 st = some (1, st) := by
  have := within_in (st := st) (n := 2) (by decide) h
  rw [← w2] at this
  exact this
theorem within2_out {x : Int32} {st : fkS} (h : ¬ rg x 2) : F8_within x 0 1 st = some (0, st) := by
  have := within_out (st := st) (n := 2) (by decide) h
  rw [← w2] at this
  exact this
theorem op_brings {c m : fkS} (h : Rel c m) (x b p : Int32) : Op2 (F7_brings x b p c) (F8_brings x b p m) := by
  have h0 := h
  obtain ⟨nb, h⟩ := h
  have k1 : ¬ (1 : Int32) = 0 := by decide
  have k5 : ¬ (-5 : Int32) = 0 := by decide
  have k6 : ¬ (-6 : Int32) = 0 := by decide
  have kr : (0 : Int32) = 0 := rfl
  unfold F7_brings F8_brings
  rcases pieOf h x b p 1 with ⟨code, hc, e1, e2⟩ | ⟨s, bN, hs, rfl, hb, rfl, hR, e2, e1⟩
  · rw [e1, e2, fk_bind_some, fk_bind_some, if_neg hc.ref.1, if_neg hc.ref.2.1]
    exact refC h0 hc
  · rw [e1, e2, fk_bind_some, if_pos Int32.le_rfl]
    rcases rgQ (x := p) 2 with hp | hp
    · have hp' := rg2.mp hp
      rw [within2_in hp, fk_bind_some, if_neg k1, if_neg hp'.1, if_pos hp'.2]
      obtain ⟨r, c', m', t1, t2, t3, t4, t5⟩ := take2 (lo := 0) hs hR
      rw [t1, t2, fk_bind_some, fk_bind_some]
      have hK := h.keep t3 t4
      rcases t5 with rfl | ⟨rfl, n, hn, -, g1, g2, g3⟩
      · rw [if_pos kr, if_pos kr, fk_bind_some, if_neg k6]
        exact ref6 ⟨nb, hK⟩
      · rw [if_neg k1, if_neg k1, fk_bind_some, if_pos kr, fk_chk_t (show fk_in (1 : Int32) 3 = true by decide), fk_let_e, cl1]
        obtain ⟨K, f, hK16, hf, ⟨c1, c2, s1, s2, s3, s4, s5⟩, -, hG⟩ := spk (Or.inl rfl) hK hb hn g1 g2 (fun i hi => ⟨(g3 i hi).1, rg10 (g3 i hi).2.1 (g3 i hi).2.2⟩)
        obtain ⟨hT, -, hS, hR⟩ := hK.2.1
        obtain ⟨m2, u1, u2, u3, u4⟩ := hG (gA m' 4 1) (by rw [← hS.1]; exact hS.2)
        have hF : Rel c2 m2 := ⟨nb, hK.keep (s3.eq (Or.inl rfl)) u2.eq⟩
        have s5' : ∀ i, i < K → gA c2 42 i = f i := s5
        have e31 : gA c2 31 = gA c' 31 := s3.2.1 31 (by decide)
        have e6 : gI c2 6 19 = gI c' 6 19 := s3.1 6 19 (by decide)
        have e7 : gI c2 7 19 = gI c' 7 19 := s3.1 7 19 (by decide)
        have hr2 : ∀ i, i < K → rg (gA c2 42 i) 20 := fun i hi => by
          rw [s5' i hi]
          exact hf i hi
        have hT2 : ∀ i, i < 40 → gA c2 31 i = gA m' 5 i := fun i hi => by
          rw [e31]
          exact (hT i hi).1
        have hT3 : ∀ i, i < 40 → rg (gA c2 31 i) 8 := fun i hi => by
          rw [e31]
          exact (hT i hi).2
        have hs2 : rg (gI c2 6 19) 8 := by
          rw [e6]
          exact hS.2
        rw [s1, fk_bind_some, s2, fk_bind_some, u1, fk_bind_some]
        by_cases q : p = 0
        · rw [if_pos q, if_pos q, fk_let_e, fk_let_e, end_ok hK16 s4 hr2 hT3 hs2, fk_bind_some, u3, (goE_eq (c := K) hT2 hT3 s5' hr2 K 0 _ (by omega) hs2).1, e6, hS.1]
          exact Op2.mk hF
        · rw [if_neg q, if_neg q, fk_let_e, ill_ok hK16 s4 hr2 hT3 hs2, fk_bind_some, u4, ilE_eq (c := K) hT2 hT3 s5' hr2 K 0 _ _ (by omega) hs2, e6, hS.1, e7, hR]
          exact Op2.mk hF
    · rw [within2_out hp, fk_bind_some, if_pos kr]
      by_cases q : p < 0
      · rw [if_pos q, fk_bind_some, if_neg k5]
        exact ref5 h0
      · rw [if_neg q, if_neg (fun z => hp (rg2.mpr ⟨q, z⟩)), fk_bind_some, if_neg k5]
        exact ref5 h0
