/-! tribes: the reference's partings -/
def PtM (nb T : Nat) (B W : Nat → Int32) (m : fkS) : Prop := gI m 0 0 = nI nb ∧ gI m 31 0 = nI T ∧ (∀ b, b < nb → gA m 19 b = B b) ∧ ∀ i, i < T → gA m 18 i = W i
def Tf (t : Nat) (m m' : fkS) : Prop := (∀ f i, gI m' f i = gI m f i) ∧ (∀ i, i ≠ 20 → gA m' i = gA m i) ∧ (∀ i, gL m' i = gL m i) ∧ ∀ i, i < t → gA m' 20 i = gA m 20 i
def Ff (t : Nat) (m m' : fkS) : Prop := (∀ f i, f ≠ 35 → gI m' f i = gI m f i) ∧ (∀ i, i ≠ 20 → i ≠ 21 → gA m' i = gA m i) ∧ (∀ i, gL m' i = gL m i) ∧ ∀ i, i < t → gA m' 20 i = gA m 20 i
theorem Tf.rf {t : Nat} {m : fkS} : Tf t m m := ⟨fun _ _ => rfl, fun _ _ => rfl, fun _ => rfl, fun _ _ => rfl⟩
theorem Tf.tr {t t' : Nat} {a b c : fkS} (h : Tf t a b) (h2 : Tf t' b c) (ht : t ≤ t') : Tf t a c :=
  ⟨fun f i => (h2.1 f i).trans (h.1 f i), fun i n => (h2.2.1 i n).trans (h.2.1 i n), fun i => (h2.2.2.1 i).trans (h.2.2.1 i), fun i hi => (h2.2.2.2 i (by omega)).trans (h.2.2.2 i hi)⟩
theorem Ff.rf {t : Nat} {m : fkS} : Ff t m m := ⟨fun _ _ _ => rfl, fun _ _ _ => rfl, fun _ => rfl, fun _ _ => rfl⟩
theorem Ff.tr {t t' : Nat} {a b c : fkS} (h : Ff t a b) (h2 : Ff t' b c) (ht : t ≤ t') : Ff t a c :=
  ⟨fun f i n => (h2.1 f i n).trans (h.1 f i n), fun i n n2 => (h2.2.1 i n n2).trans (h.2.1 i n n2), fun i => (h2.2.2.1 i).trans (h.2.2.1 i), fun i hi => (h2.2.2.2 i (by omega)).trans (h.2.2.2 i hi)⟩
theorem Tf.ff {t : Nat} {a b : fkS} (h : Tf t a b) : Ff t a b := ⟨fun f i _ => h.1 f i, fun i n _ => h.2.1 i n, h.2.2.1, h.2.2.2⟩
theorem Tf.try {t : Nat} {m : fkS} {v : Int32} : Tf t m (sA m 20 t v) := by
  refine ⟨fun _ _ => rfl, fun i n => ?_, fun _ => rfl, fun i hi => ?_⟩
  · rw [gA_sA, if_neg n]
  · rw [gA_sA, if_pos rfl, upd_ne (by omega)]
theorem PtM.tf {nb T t : Nat} {B W : Nat → Int32} {m m' : fkS} (h : PtM nb T B W m) (f : Tf t m m') : PtM nb T B W m' :=
  ⟨(f.1 0 0).trans h.1, (f.1 31 0).trans h.2.1, fun b hb => by rw [f.2.1 19 (by decide)]; exact h.2.2.1 b hb, fun i hi => by rw [f.2.1 18 (by decide)]; exact h.2.2.2 i hi⟩
theorem PtM.ff {nb T t : Nat} {B W : Nat → Int32} {m m' : fkS} (h : PtM nb T B W m) (f : Ff t m m') : PtM nb T B W m' :=
  ⟨(f.1 0 0 (by decide)).trans h.1, (f.1 31 0 (by decide)).trans h.2.1, fun b hb => by rw [f.2.1 19 (by decide) (by decide)]; exact h.2.2.1 b hb, fun i hi => by rw [f.2.1 18 (by decide) (by decide)]; exact h.2.2.2 i hi⟩
theorem has_tb {u b : Nat} {st : fkS} (hu : u < 128) (hb : b < 7) : F8_has (nI u) (nI b) st = some ((if tb u b = true then 1 else 0), st) := by
  rw [has_ok, hasb ⟨u, hu⟩ ⟨b, hb⟩]
  rfl
/-- a bird looked at: is it free and wished for -/
theorem look {nb T t u j h : Nat} {B W : Nat → Int32} {m : fkS} {rec : Int32 → Int32 → Int32 → fkS → Option (Unit × fkS)} {k56 : Int32 → Int32 → Int32 → Int32 → fkS → Option (Unit × fkS)} (hnb : nb ≤ 7) (hT : T ≤ 7) (hu : u < 128) (hP : PtM nb T B W m) (hj : j < nb) (ht : t < T) :
    B8_parts_56 rec k56 (nI t) (nI u) (nI h) (nI j) m = (if jB (tb u) B (W t) j = 0 then k56 (nI t) (nI u) (nI h) (nI (j + 1)) m else fk_bind (rec (nI (t + 1)) (nI (u ||| 2 ^ j)) (nI (h + 1)) (sA m 20 t (nI j))) (fun _ st14 => k56 (nI t) (nI u) (nI h) (nI (j + 1)) st14)) := by
  obtain ⟨p1, p2, p3, p4⟩ := hP
  have q1 : ¬ nI nb ≤ nI j := by
    rw [nI_leI (by omega) (by omega)]
    omega
  rw [B8_parts_56, fk_let_e, p1, if_neg q1, has_tb hu (by omega), fk_bind_some, (orb ⟨u, hu⟩ ⟨j, by omega⟩).1, nI_1, nI_1]
  unfold B8_parts_117
  rw [nI_1]
  cases e : tb u j with
  | true =>
    rw [if_pos rfl, if_neg (show ¬ (1 : Int32) = 0 by decide), if_pos (show jB (tb u) B (W t) j = 0 from Classical.not_not.mp (fun z => by rw [(jB_iff.mp z).1] at e; cases e))]
  | false =>
    rw [if_neg (show ¬ false = true by decide), if_pos rfl, fk_chk_in (by omega) (by decide), fk_let_e, fk_chk_in (by omega) (by decide), fk_let_e, nI_clamp (by omega), nI_clamp (by omega), p3 j hj, p4 t ht, fk_chk_in (by omega) (by decide), fk_let_e]
    by_cases q : B j = W t
    · rw [if_pos q, if_neg (jB_iff.mpr ⟨e, q⟩)]
    · rw [if_neg q, if_pos (Classical.not_not.mp (fun z => q (jB_iff.mp z).2))]
theorem look_end {nb T t u h : Nat} {B W : Nat → Int32} {m : fkS} {rec : Int32 → Int32 → Int32 → fkS → Option (Unit × fkS)} {k56 : Int32 → Int32 → Int32 → Int32 → fkS → Option (Unit × fkS)} (hT : T ≤ 7) (hP : PtM nb T B W m) (ht : t < T) :
    B8_parts_56 rec k56 (nI t) (nI u) (nI h) (nI nb) m = fk_bind (rec (nI (t + 1)) (nI u) (nI h) (sA m 20 t (-1))) (fun _ st8 => some ((), st8)) := by
  rw [B8_parts_56, fk_let_e, hP.1, if_pos Int32.le_rfl, fk_chk_in (by omega) (by decide), fk_let_e, nI_clamp (by omega), nI_1]
theorem bindU {o : Option (Unit × fkS)} : fk_bind o (fun _ st => some ((), st)) = o := by
  cases o with
  | none => rfl
  | some x => rfl
theorem later {nb T M : Nat} {B W : Nat → Int32} (hnb : nb ≤ 7) (hT : T ≤ 7) (hM : M ≤ 7) : ∀ (d t n u h : Nat) (m : fkS), t + d = T → d < n → u < 128 → h ≤ t → PtM nb T B W m → gI m 35 0 = nI M → h + gN B W nb d t (tb u) ≤ M →
    ∃ m', fk_lp3 G8_parts n (nI t) (nI u) (nI h) m = some ((), m') ∧ Tf t m m' := by
  intro d
  induction d with
  | zero =>
    intro t n u h m ht hn hu hh hP hm hle
    obtain ⟨v, rfl⟩ : ∃ v, n = v + 1 := ⟨n - 1, by omega⟩
    obtain rfl : t = T := by omega
    have hle : h + 0 ≤ M := hle
    rw [fk_lp3_s, G8_parts, fk_let_e, hP.2.1, if_pos rfl, fk_let_e, hm, if_neg (show ¬ nI M < nI h by rw [nI_ltI (by omega) (by omega)]; omega)]
    exact ⟨m, rfl, Tf.rf⟩
  | succ d ih =>
    intro t n u h m ht hn hu hh hP hm hle
    obtain ⟨v, rfl⟩ : ∃ v, n = v + 1 := ⟨n - 1, by omega⟩
    have inner : ∀ (e j fu : Nat) (m1 : fkS), j + e = nb → e < fu → Tf t m m1 → ∃ m', fk_lp4 (B8_parts_56 (fk_lp3 G8_parts v)) fu (nI t) (nI u) (nI h) (nI j) m1 = some ((), m') ∧ Tf t m m' := by
      intro e
      induction e with
      | zero =>
        intro j fu m1 hj hf hX
        obtain ⟨w, rfl⟩ : ∃ w, fu = w + 1 := ⟨fu - 1, by omega⟩
        obtain rfl : j = nb := by omega
        have hX2 : Tf t m (sA m1 20 t (-1)) := hX.tr Tf.try (Nat.le_refl _)
        have hgm := gN_mono (B := B) (W := W) (nb := j) (d := d) (t := t) (U := tb u)
        obtain ⟨m', o1, o2⟩ := ih (t + 1) v u h (sA m1 20 t (-1)) (by omega) (by omega) hu (by omega) (hP.tf hX2) ((hX2.1 35 0).trans hm) (by omega)
        rw [fk_lp4_s, look_end hT (hP.tf hX) (by omega), o1, fk_bind_some]
        exact ⟨m', rfl, hX2.tr o2 (by omega)⟩
      | succ e ihe =>
        intro j fu m1 hj hf hX
        obtain ⟨w, rfl⟩ : ∃ w, fu = w + 1 := ⟨fu - 1, by omega⟩
        rw [fk_lp4_s, look hnb hT hu (hP.tf hX) (by omega) (by omega)]
        by_cases q : jB (tb u) B (W t) j = 0
        · rw [if_pos q]
          exact ihe (j + 1) w m1 (by omega) (by omega) hX
        · have q' := jB_iff.mp q
          have hX2 : Tf t m (sA m1 20 t (nI j)) := hX.tr Tf.try (Nat.le_refl _)
          have hgm := gN_any (B := B) (W := W) (nb := nb) (d := d) (t := t) (U := tb u) (b := j) (by omega) q'.1 q'.2
          rw [← tb_or] at hgm
          obtain ⟨m', o1, o2⟩ := ih (t + 1) v (u ||| 2 ^ j) (h + 1) (sA m1 20 t (nI j)) (by omega) (by omega) (orb ⟨u, hu⟩ ⟨j, by omega⟩).2 (by omega) (hP.tf hX2) ((hX2.1 35 0).trans hm) (by omega)
          rw [if_neg q, o1, fk_bind_some]
          exact ihe (j + 1) w m' (by omega) (by omega) (hX2.tr o2 (by omega))
    rw [fk_lp3_s, G8_parts, fk_let_e, hP.2.1, if_neg (show ¬ nI t = nI T by rw [nI_eq (by omega) (by omega)]; omega)]
    exact inner nb 0 fk_fuel m (by omega) (by unfold fk_fuel; omega) Tf.rf
theorem best_loop {rec : Int32 → Int32 → Int32 → fkS → Option (Unit × fkS)} : ∀ (d j fu : Nat) (m : fkS), j + d = 7 → d < fu → (∀ i, i < j → gA m 21 i = gA m 20 i) → ∃ arr, fk_lp1 (B8_parts_25 rec) fu (nI j) m = some ((), sAF m 21 arr) ∧ ∀ i, i < 7 → arr i = gA m 20 i := by
  intro d
  induction d with
  | zero =>
    intro j fu m hj hf h
    obtain ⟨w, rfl⟩ : ∃ w, fu = w + 1 := ⟨fu - 1, by omega⟩
    obtain rfl : j = 7 := by omega
    rw [fk_lp1_s, B8_parts_25, if_pos (show (7 : Int32) ≤ nI 7 by decide)]
    exact ⟨gA m 21, by rw [sAF_self], h⟩
  | succ d ih =>
    intro j fu m hj hf h
    obtain ⟨w, rfl⟩ : ∃ w, fu = w + 1 := ⟨fu - 1, by omega⟩
    have q1 : ¬ (7 : Int32) ≤ nI j := by
      rw [zl7, nI_leI (by decide) (by omega)]
      omega
    obtain ⟨arr, e1, e2⟩ := ih (j + 1) w (sAF m 21 (upd (gA m 21) j (gA m 20 j))) (by omega) (by omega) (fun i hi => by
      rw [gA_same, gA_ne (by decide)]
      by_cases q : i = j
      · rw [q, upd_same]
      · rw [upd_ne q]
        exact h i (by omega))
    rw [gA_ne (by decide)] at e2
    rw [sAF_sAF] at e1
    refine ⟨arr, ?_, e2⟩
    rw [fk_lp1_s, B8_parts_25, if_neg q1, fk_chk_in (by omega) (by decide), fk_let_e, nI_clamp (by omega), fk_chk_in (by omega) (by decide), fk_let_e, nI_1, sA_def, e1]
theorem grW_eq {B W : Nat → Int32} {nb : Nat} : ∀ (d t : Nat) (U : Nat → Bool) (A A' : Nat → Int32), (∀ i, i < t → A i = A' i) → ∀ i, i < t + d → grW B W nb d t U A i = grW B W nb d t U A' i := by
  intro d
  induction d with
  | zero => intro t U A A' h i hi; exact h i (by omega)
  | succ d ih =>
    intro t U A A' h i hi
    have hh : ∀ v : Int32, ∀ i, i < t + 1 → upd A t v i = upd A' t v i := fun v i hi => by
      by_cases q : i = t
      · rw [q, upd_same, upd_same]
      · rw [upd_ne q, upd_ne q]
        exact h i (by omega)
    cases e : fst (jB U B (W t)) nb 0 with
    | none =>
      rw [grW_none e, grW_none e]
      exact ih (t + 1) U _ _ (hh _) i (by omega)
    | some b =>
      rw [grW_some e, grW_some e]
      exact ih (t + 1) (setU U b) _ _ (hh _) i (by omega)
theorem first {nb T : Nat} {B W : Nat → Int32} (hnb : nb ≤ 7) (hT : T ≤ 7) : ∀ (d t n u h : Nat) (m : fkS), t + d = T → d < n → u < 128 → h ≤ t → PtM nb T B W m → gI m 35 0 = -1 →
    ∃ m', fk_lp3 G8_parts n (nI t) (nI u) (nI h) m = some ((), m') ∧ Ff t m m' ∧ gI m' 35 0 = nI (h + gN B W nb d t (tb u)) ∧ ∀ i, i < T → gA m' 21 i = grW B W nb d t (tb u) (gA m 20) i := by
  intro d
  induction d with
  | zero =>
    intro t n u h m ht hn hu hh hP hm
    obtain ⟨v, rfl⟩ : ∃ v, n = v + 1 := ⟨n - 1, by omega⟩
    obtain rfl : t = T := by omega
    have hlt : (-1 : Int32) < nI h := by
      rw [Int32.lt_iff_toInt_lt, nI_toInt (by omega), show (-1 : Int32).toInt = -1 from rfl]
      omega
    obtain ⟨arr, e1, e2⟩ := best_loop (rec := fk_lp3 G8_parts v) 7 0 fk_fuel (sI m 35 0 (nI h)) (by omega) (by unfold fk_fuel; omega) (fun i hi => by omega)
    rw [fk_lp3_s, G8_parts, fk_let_e, hP.2.1, if_pos rfl, fk_let_e, hm, if_pos hlt, fk_let_e, show fk_lp1 (B8_parts_25 (fk_lp3 G8_parts v)) fk_fuel 0 (sI m 35 0 (nI h)) = _ from e1]
    refine ⟨_, rfl, ⟨fun f i q => ?_, fun i q q2 => ?_, fun _ => rfl, fun i hi => ?_⟩, ?_, fun i hi => ?_⟩
    · rw [gI_sAF, gI_nf q]
    · rw [gA_ne q2]
      rfl
    · rw [gA_ne (by decide)]
      rfl
    · rw [gI_sAF, gI_same]
      rfl
    · rw [gA_same]
      exact e2 i (by omega)
  | succ d ih =>
    intro t n u h m ht hn hu hh hP hm
    obtain ⟨v, rfl⟩ : ∃ v, n = v + 1 := ⟨n - 1, by omega⟩
    have hgl := gN_le (B := B) (W := W) (nb := nb) (d + 1) t (tb u)
    -- behind the first parting the others don't better it
    have rest : ∀ (e j fu : Nat) (m1 : fkS), j + e = nb → e < fu → Ff t m m1 → gI m1 35 0 = nI (h + gN B W nb (d + 1) t (tb u)) → (∀ i, i < T → gA m1 21 i = grW B W nb (d + 1) t (tb u) (gA m 20) i) →
        ∃ m', fk_lp4 (B8_parts_56 (fk_lp3 G8_parts v)) fu (nI t) (nI u) (nI h) (nI j) m1 = some ((), m') ∧ Ff t m m' ∧ gI m' 35 0 = nI (h + gN B W nb (d + 1) t (tb u)) ∧ ∀ i, i < T → gA m' 21 i = grW B W nb (d + 1) t (tb u) (gA m 20) i := by
      intro e
      induction e with
      | zero =>
        intro j fu m1 hj hf hX x1 x2
        obtain ⟨w, rfl⟩ : ∃ w, fu = w + 1 := ⟨fu - 1, by omega⟩
        obtain rfl : j = nb := by omega
        have hX2 : Ff t m (sA m1 20 t (-1)) := hX.tr Tf.try.ff (Nat.le_refl _)
        have hgm := gN_mono (B := B) (W := W) (nb := j) (d := d) (t := t) (U := tb u)
        obtain ⟨m', o1, o2⟩ := later hnb hT (show h + gN B W j (d + 1) t (tb u) ≤ 7 by omega) d (t + 1) v u h (sA m1 20 t (-1)) (by omega) (by omega) hu (by omega) (hP.ff hX2) x1 (by omega)
        rw [fk_lp4_s, look_end hT (hP.ff hX) (by omega), o1, fk_bind_some]
        refine ⟨m', rfl, hX2.tr o2.ff (by omega), (o2.1 35 0).trans x1, fun i hi => ?_⟩
        rw [o2.2.1 21 (by decide), gA_sA, if_neg (by decide)]
        exact x2 i hi
      | succ e ihe =>
        intro j fu m1 hj hf hX x1 x2
        obtain ⟨w, rfl⟩ : ∃ w, fu = w + 1 := ⟨fu - 1, by omega⟩
        rw [fk_lp4_s, look hnb hT hu (hP.ff hX) (by omega) (by omega)]
        by_cases q : jB (tb u) B (W t) j = 0
        · rw [if_pos q]
          exact ihe (j + 1) w m1 (by omega) (by omega) hX x1 x2
        · have q' := jB_iff.mp q
          have hX2 : Ff t m (sA m1 20 t (nI j)) := hX.tr Tf.try.ff (Nat.le_refl _)
          have hgm := gN_any (B := B) (W := W) (nb := nb) (d := d) (t := t) (U := tb u) (b := j) (by omega) q'.1 q'.2
          rw [← tb_or] at hgm
          obtain ⟨m', o1, o2⟩ := later hnb hT (show h + gN B W nb (d + 1) t (tb u) ≤ 7 by omega) d (t + 1) v (u ||| 2 ^ j) (h + 1) (sA m1 20 t (nI j)) (by omega) (by omega) (orb ⟨u, hu⟩ ⟨j, by omega⟩).2 (by omega) (hP.ff hX2) x1 (by omega)
          rw [if_neg q, o1, fk_bind_some]
          refine ihe (j + 1) w m' (by omega) (by omega) (hX2.tr o2.ff (by omega)) ((o2.1 35 0).trans x1) (fun i hi => ?_)
          rw [o2.2.1 21 (by decide), gA_sA, if_neg (by decide)]
          exact x2 i hi
    have inner : ∀ (e j fu : Nat), j + e = nb → e < fu → fst (jB (tb u) B (W t)) nb 0 = fst (jB (tb u) B (W t)) e j →
        ∃ m', fk_lp4 (B8_parts_56 (fk_lp3 G8_parts v)) fu (nI t) (nI u) (nI h) (nI j) m = some ((), m') ∧ Ff t m m' ∧ gI m' 35 0 = nI (h + gN B W nb (d + 1) t (tb u)) ∧ ∀ i, i < T → gA m' 21 i = grW B W nb (d + 1) t (tb u) (gA m 20) i := by
      intro e
      induction e with
      | zero =>
        intro j fu hj hf hq
        obtain ⟨w, rfl⟩ : ∃ w, fu = w + 1 := ⟨fu - 1, by omega⟩
        obtain rfl : j = nb := by omega
        have hq : fst (jB (tb u) B (W t)) j 0 = none := hq
        have hX2 : Ff t m (sA m 20 t (-1)) := Tf.try.ff
        obtain ⟨m', o1, o2, o3, o4⟩ := ih (t + 1) v u h (sA m 20 t (-1)) (by omega) (by omega) hu (by omega) (hP.ff hX2) hm
        rw [fk_lp4_s, look_end hT hP (by omega), o1, fk_bind_some]
        refine ⟨m', rfl, hX2.tr o2 (by omega), ?_, fun i hi => ?_⟩
        · rw [gN_none hq]
          exact o3
        · rw [grW_none hq, o4 i hi, gA_sA, if_pos rfl]
      | succ e ihe =>
        intro j fu hj hf hq
        obtain ⟨w, rfl⟩ : ∃ w, fu = w + 1 := ⟨fu - 1, by omega⟩
        rw [fk_lp4_s, look hnb hT hu hP (by omega) (by omega)]
        rw [fst_s] at hq
        by_cases q : jB (tb u) B (W t) j = 0
        · rw [if_pos q] at hq ⊢
          exact ihe (j + 1) w (by omega) (by omega) hq
        · rw [if_neg q] at hq
          have hX2 : Ff t m (sA m 20 t (nI j)) := Tf.try.ff
          obtain ⟨m', o1, o2, o3, o4⟩ := ih (t + 1) v (u ||| 2 ^ j) (h + 1) (sA m 20 t (nI j)) (by omega) (by omega) (orb ⟨u, hu⟩ ⟨j, by omega⟩).2 (by omega) (hP.ff hX2) hm
          rw [tb_or] at o3 o4
          rw [if_neg q, o1, fk_bind_some]
          refine rest e (j + 1) w m' (by omega) (by omega) (hX2.tr o2 (by omega)) ?_ (fun i hi => ?_)
          · rw [o3, gN_some hq, show h + 1 + gN B W nb d (t + 1) (setU (tb u) j) = h + (gN B W nb d (t + 1) (setU (tb u) j) + 1) by omega]
          · rw [grW_some hq, o4 i hi, gA_sA, if_pos rfl]
    rw [fk_lp3_s, G8_parts, fk_let_e, hP.2.1, if_neg (show ¬ nI t = nI T by rw [nI_eq (by omega) (by omega)]; omega)]
    exact inner nb 0 fk_fuel (by omega) (by unfold fk_fuel; omega) rfl
