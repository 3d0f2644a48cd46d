theorem rel_start : Rel stC stM := by
  have r0 : ∀ n, 0 < n → rg (0 : Int32) n := fun n h => ⟨0, h, rfl⟩
  have rt : ∀ j, rg (tabF j) 8 := fun j => ⟨(j / 5 + j % 5 + 1) % 8, Nat.mod_lt _ (by decide), rfl⟩
  refine ⟨0, ⟨by decide, rfl, rfl, fun b _ => ⟨rfl, r0 7 (by decide)⟩, fun b _ => ⟨rfl, r0 10 (by decide)⟩, fun b _ => ⟨rfl, r0 20 (by decide)⟩⟩, ⟨fun j _ => ⟨rfl, rt j⟩, ⟨rfl, ⟨5, by decide, rfl⟩⟩, ⟨rfl, r0 8 (by decide)⟩, rfl⟩, ⟨rfl, rfl, rfl⟩, fun s hs => Or.inl ?_, ⟨rfl, ⟨0, by decide, rfl, rfl⟩, fun j _ => rfl, fun j _ => rfl⟩, rfl, Or.inl rfl⟩
  rcases (show s = 0 ∨ s = 1 ∨ s = 2 ∨ s = 3 ∨ s = 4 ∨ s = 5 ∨ s = 6 ∨ s = 7 by omega) with rfl | rfl | rfl | rfl | rfl | rfl | rfl | rfl <;> exact ⟨rfl, rfl⟩
theorem fk_iblind7 {av : List Value} {D : va_G} {ws : va_W} {tys : List (ClassId × FieldType)} {sz : Nat} {B : Nat → Prop} : FrameBlind (va_Pc av (fun U => U.heap.size = sz ∧ va_P D vwCl ws U.heap ∧ va_K D vwCl tys U ∧ va_D B ws ∧ (∀ w ∈ fk_nests, va_Nw w U) ∧ va_AO RX5 U)) := by
  intro a U g mk q
  obtain ⟨q0, q1, qP, qK, qD, qN, qA⟩ := q
  exact ⟨q0, q1, qP, va_K.moved (u := U) (U := U.calling g mk a) (Vm.Alike.refl U.vm) qK, qD, fk_nests_same (s := U) (U := U.calling g mk a) rfl qN, va_AO.moved (u := U) (U := U.calling g mk a) (Vm.Alike.refl U.vm) qA⟩
def ls_f7 : List Value := [.null, .null, .null, .null, .int 0, .null, .null, .null, .null, .null, .null, .null]
def ls_f8 : List Value := [.int 0, .null, .null, .null, .null, .null, .int 0, .int 0, .int 0, .null, .null, .null, .int 0, .int 0, .null, .int 0, .null, .int 0, .null, .null, .int 0, .null, .int 0, .null, .int 0, .null, .int 0, .int 0, .null, .null, .null, .int 0, .null, .null, .null, .int 0, .int 0]
theorem ls_d7 : ∀ j, j < 12 → defaultValue (tyX7 j) = vp_V ls_f7 j := by decide +kernel
theorem ls_d8 : ∀ j, j < 37 → defaultValue (tyX8 j) = vp_V ls_f8 j := by decide +kernel
set_option maxHeartbeats 4000000 in
set_option maxRecDepth 100000 in
/-- THE LAW, from its entry -/
theorem whole_start {p : Program} {e : Env} {s : State} {m : MethodId} {below : List Frame} {meth : Method} {c : Code} (l : Launch) (hflags : l.flags = flags0) {b L : Nat} {xs : Nat → Int32} (hL : L ≤ 3072) (C0 : lw_At p s m meth c b L xs) : W p l e room_1 s m #[Value.ref b] below meth c s.heap [] 0 0 (lw_Z below #[Value.ref b] s) (entryFrame m ([Value.ref b] : List Value).toArray 4) := by
  obtain ⟨hx, hb, hr, hml, hown, htbl, hX, hbl, hlocks, hgv⟩ := C0
  have hown : s.vm.findClass RL = some m.cls := hown
  have hts : ∀ w ∈ fkB, w.before ([Value.ref b] : List Value).toArray s = true := fun w hw => htbl w (List.mem_filter.mp hw).1
  obtain ⟨D, hKc⟩ := ls_cls hts
  obtain ⟨r, hEnv⟩ := ls_env htbl hgv
  obtain ⟨cI, hI1, hI2⟩ := ls_arr (htbl _ ls_aI) (fun _ h => h)
  obtain ⟨cL, hL1, hL2⟩ := ls_arr (htbl _ ls_aL) (fun _ h => h)
  have hNe : ∀ w ∈ fk_nests, va_Nw w s := (hEnv (fun _ => 0) D (cI, cL, cI)).1
  have hAO : va_AO RX5 s := va_AO.of (htbl _ ls_ao)
  have hA : ∀ q : Nat, s.heap.size ≤ q → (fun q : Nat => s.heap.size ≤ q) q := fun _ h => h
  have hS : va_S (fun q : Nat => s.heap.size ≤ q) s.heap s.heap [] := va_S.rf
  have hK : va_K D vwCl [(cI, .int), (cL, .long)] s := ⟨hKc, fun k q h => by
    match k with
    | 0 => cases h; exact ⟨hI1, hI2⟩
    | 1 => cases h; exact ⟨hL1, hL2⟩
    | k + 2 => cases h⟩
  have hP : va_P D vwCl [] s.heap := fun k q h => by simp at h
  have hD : va_D (fun q : Nat => s.heap.size ≤ q) [] := ⟨fun i j p q h => by simp at h, fun k q h => by simp at h⟩
  have hl := lv_entry ([.ref b]) (n := 4) (Nat.le_of_ble_eq_true rfl)
  rw [lg_entry_eq]
  generalize (lg_sl ([.ref b]) ++ List.replicate (4 - (lg_sl ([.ref b])).length) Slot.unset).toArray = ls at hl ⊢
  have hl : lv_has ls 4 [(0, .ref b)] := hl
  refine va_new (ci := 7) (fs := ls_f7) (C := RX7) (T := TX7) (N := 12) hx hb hts wB_7 tyX7 tyX7_ok hown (hts _ wlc_7) (hts _ wzi_7) (hts _ wi_7) hK hP hD hS hA rfl ls_d7 (Nat.le_of_ble_eq_true rfl) (Nat.le_of_ble_eq_true rfl) dl_0 (fun q7 H hP hD hS => ?_)
  have hP : va_P D vwCl [(q7, .inr (7, ls_f7))] H := hP
  have hD : va_D (fun q : Nat => s.heap.size ≤ q) [(q7, .inr (7, ls_f7))] := hD
  refine W.widen (k := 1) (n := 12) (Nat.le_of_ble_eq_true rfl) (Nat.le_of_ble_eq_true rfl) ?_
  refine lv_dup hx hb dl_3 rfl ?_
  have hFc := va_free (wc := [(q7, .inr (7, ls_f7))]) hD hS hA [0] rfl
  refine va_callv (va_runI (As := []) (rest := [.ref q7]) ⟨hx, hb, hml, hown, hts⟩ (ci_X7 l D cI cL r q7 H.size) ⟨callB_of 0 hts (fkB_good wzk_7) rfl rfl rfl (hts _ wi_7) (hts _ wl_9) (by decide +kernel) ⟨Nat.le_of_ble_eq_true rfl, Nat.le_of_ble_eq_true rfl⟩, rfl, hts _ wzy_7⟩ ⟨fk_iblind7, fun U hU hW => ⟨rfl, by rw [hU], by rw [hU]; exact hP, va_K.moved hW.alike hK, hD.weaken (fun _ _ _ _ => trivial), fk_nests_warm hW hNe, va_AO.moved hW.alike hAO⟩⟩ rfl rfl hl.1 rfl (lv_room (Nat.le_of_ble_eq_true rfl)) dl_4 ⟨Nat.le_of_ble_eq_true rfl, Nat.le_of_ble_eq_true rfl⟩) hS (fun q _ h => hFc q h) hFc (fun u t H1 locs ht hvm hw hB hz1 hk1 hS => ?_)
  obtain ⟨aC, cS⟩ := u
  have hw : aC 0 = q7 := hw
  subst hw
  obtain ⟨hP1, hK1, hD1⟩ := hB
  rw [ht] at hP1
  have hK := va_K.moved hvm.symm hK1
  obtain ⟨hP, hD⟩ := va_join (wr := []) (w1 := fk_ws wC (aC, D, (cI, cL, cS), r) stC) hP hD [0] [] rfl rfl (by decide) (by decide) hk1 hFc hP1 hD1
  generalize H1 = H at hP hS ⊢
  have hP : va_P D vwCl (fk_ws wC (aC, D, (cI, cL, cS), r) stC) H := hP
  have hD : va_D (fun q : Nat => s.heap.size ≤ q) (fk_ws wC (aC, D, (cI, cL, cS), r) stC) := hD
  have hK : va_K D vwCl [(cI, .int), (cL, .long), (cS, .object RX5)] s := hK
  refine W.widen (k := 48) (n := 1676) (Nat.le_of_ble_eq_true rfl) (Nat.le_of_ble_eq_true rfl) ?_
  refine lv_astore_n (lv' := [(1, .ref (aC 0)), (0, .ref b)]) hx hb dl_7 rfl hl (by decide) rfl (fun ls hl => ?_)
  refine va_new (ci := 8) (fs := ls_f8) (C := RX8) (T := TX8) (N := 37) hx hb hts wB_8 tyX8 tyX8_ok hown (hts _ wlc_10) (hts _ wzi_8) (hts _ wi_8) hK hP hD hS hA rfl ls_d8 (Nat.le_of_ble_eq_true rfl) (Nat.le_of_ble_eq_true rfl) dl_8 (fun q8 H hP hD hS => ?_)
  refine W.widen (k := 49) (n := 1713) (Nat.le_of_ble_eq_true rfl) (Nat.le_of_ble_eq_true rfl) ?_
  refine lv_dup hx hb dl_11 rfl ?_
  have h48 : (fk_ws wC (aC, D, (cI, cL, cS), r) stC ++ [(q8, .inr (8, ls_f8))])[48]? = some (q8, .inr (8, ls_f8)) := by
    rw [List.getElem?_append_right (by simp [fk_ws, wC])]
    simp [fk_ws, wC]
  have hCs : ([48] : List Nat).map (fun i => (fk_ws wC (aC, D, (cI, cL, cS), r) stC ++ [(q8, .inr (8, ls_f8))])[i]?) = ([(q8, .inr (8, ls_f8))] : va_W).map some := by
    simp only [List.map_cons, List.map_nil, h48]
  have hRs : (List.range 48).map (fun i => (fk_ws wC (aC, D, (cI, cL, cS), r) stC ++ [(q8, .inr (8, ls_f8))])[i]?) = (fk_ws wC (aC, D, (cI, cL, cS), r) stC).map some := by
    unfold fk_ws
    rw [List.map_map]
    refine List.map_congr_left (fun i hi => ?_)
    have hi : i < 48 := List.mem_range.mp hi
    exact (List.getElem?_append_left (by rw [List.length_map, List.length_range]; exact hi)).trans (fk_wat (w := wC) (g := (aC, D, (cI, cL, cS), r)) (st := stC) hi)
  have hFc := va_free (wc := [(q8, .inr (8, ls_f8))]) hD hS hA [48] hCs
  have hPc : va_P D vwCl [(q8, .inr (8, ls_f8))] H := hP.sub [48] (by simp only [List.filterMap_cons, List.filterMap_nil, h48])
  have hDc : va_D (fun q : Nat => s.heap.size ≤ q) [(q8, .inr (8, ls_f8))] := hD.sub [48] (by decide) hCs
  have hKc := hK.sub (tys' := [(cI, .int), (cL, .long)]) [0, 1] rfl
  refine va_callv (va_runI (As := []) (rest := [.ref q8]) ⟨hx, hb, hml, hown, hts⟩ (ci_X8 l D cI cL cS r q8 H.size) ⟨callB_of 0 hts (fkB_good wzk_8) rfl rfl rfl (hts _ wi_8) (hts _ wl_12) (by decide +kernel) ⟨Nat.le_of_ble_eq_true rfl, Nat.le_of_ble_eq_true rfl⟩, rfl, hts _ wzy_8⟩ ⟨fk_iblind, fun U hU hW => ⟨rfl, by rw [hU], by rw [hU]; exact hPc, va_K.moved hW.alike hKc, hDc.weaken (fun _ _ _ _ => trivial)⟩⟩ rfl rfl hl.1 rfl (lv_room (Nat.le_of_ble_eq_true rfl)) dl_12 ⟨Nat.le_of_ble_eq_true rfl, Nat.le_of_ble_eq_true rfl⟩) hS (fun q _ h => hFc q h) hFc (fun aM t H1 locs ht hvm hw hB hz1 hk1 hS => ?_)
  have hw : aM 0 = q8 := hw
  subst hw
  obtain ⟨hP1, -, hD1⟩ := hB
  rw [ht] at hP1
  obtain ⟨hP, hD⟩ := va_join (wr := fk_ws wC (aC, D, (cI, cL, cS), r) stC) (w1 := fk_ws wM (aM, D, (cI, cL, cS), r) stM) hP hD [48] (List.range 48) hCs hRs (by decide) (by decide) hk1 hFc hP1 hD1
  generalize H1 = H at hP hS ⊢
  have lC : (fk_ws wC (aC, D, (cI, cL, cS), r) stC).length = 48 := by simp [fk_ws, wC]
  have aCi : ∀ i, i < 48 → (fk_ws wC (aC, D, (cI, cL, cS), r) stC ++ fk_ws wM (aM, D, (cI, cL, cS), r) stM)[i]? = some (aC i, xEC (aC, D, (cI, cL, cS), r) stC i) := fun i hi => by
    rw [List.getElem?_append_left (by rw [lC]; exact hi)]
    exact fk_wat (w := wC) (g := (aC, D, (cI, cL, cS), r)) hi
  have aMj : ∀ j, j < 22 → (fk_ws wC (aC, D, (cI, cL, cS), r) stC ++ fk_ws wM (aM, D, (cI, cL, cS), r) stM)[48 + j]? = some (aM j, xEM (aM, D, (cI, cL, cS), r) stM j) := fun j hj => by
    rw [List.getElem?_append_right (by rw [lC]; omega), lC, show 48 + j - 48 = j by omega]
    exact fk_wat (w := wM) (g := (aM, D, (cI, cL, cS), r)) hj
  have hPC : va_P D vwCl (fk_ws wC (aC, D, (cI, cL, cS), r) stC) H := hP.by (fun k => k) (fun k q hq => by
    obtain ⟨hk, rfl⟩ := fk_wof (w := wC) hq
    exact aCi k hk)
  have hPM : va_P D vwCl (fk_ws wM (aM, D, (cI, cL, cS), r) stM) H := hP.by (fun k => 48 + k) (fun k q hq => by
    obtain ⟨hk, rfl⟩ := fk_wof (w := wM) hq
    exact aMj k hk)
  have hk : lw_ok (p, l, e, s, m, below, meth, c, b, L, xs) (aC, D, (cI, cL, cS), r) (aM, D, (cI, cL, cS), r) :=
    ⟨hx, hb, hml, hown, hts, hX, hbl, hr, hlocks, hL, rfl, hK, hEnv _ _ _, fun i j hi hj h => hD.1 i j _ _ (aCi i hi) (aCi j hj) h, fun i j hi hj h => by
      have := hD.1 (48 + i) (48 + j) _ _ (aMj i hi) (aMj j hj) h
      omega, fun i hi => hD.2 i _ (aCi i hi), fun j hj => hD.2 _ _ (aMj j hj), fun i j hi hj h => by
      have := hD.1 i (48 + j) _ _ (aCi i hi) (aMj j hj) h
      omega⟩
  refine W.widen (k := 600000) (n := 7302250) (Nat.le_of_ble_eq_true rfl) (Nat.le_of_ble_eq_true rfl) ?_
  refine lv_astore_n (lv' := [(2, .ref (aM 0)), (1, .ref (aC 0)), (0, .ref b)]) hx hb dl_15 rfl hl (by decide) rfl (fun ls hl => ?_)
  refine lv_iconst (v := 0) hx hb dl_16 (by decide) ?_
  refine lv_istore_n (lv' := [(3, .int 0), (2, .ref (aM 0)), (1, .ref (aC 0)), (0, .ref b)]) hx hb dl_17 rfl hl (by decide) rfl (fun ls hl => ?_)
  exact lw_loop hk L 0 stC stM (by show L ≤ 0 + L; omega) (Nat.zero_le _) rel_start H locs ls hl hPC hPM hS
-- ===== YOUR PART ENDS =====
