/-! THE LAW: the two worlds side by side -/
def R_law : String := "PieFunnelsLaw"
def lw_P (b : Addr) (xs : List Int32) (args : Array Value) (s : State) : Prop := args = #[.ref b] ∧ s.IntsAt b xs ∧ xs.length ≤ 3072 ∧ (Jvm.Cond.and given_1 narrow_1).before args s = true
def lw_Q (_ : Array Value) (s : State) (o : Outcome) (t : State) : Prop := o = .returned (some (.int 1)) ∧ Framed s o t [] 600000 7302250
def lw_Z (below : List Frame) (a : Array Value) (s : State) : State → Prop := fun t => ∃ o, t.status = .running ∧ Ended t below o ∧ lw_Q a s o t
/-- the law's own end, with 1 on the stack, nothing written that was there before, its room as the claim has it -/
theorem lw_ret {p : Program} {l : Launch} {e : Env} {s : State} {m : MethodId} {below : List Frame} {meth : Method} {c : Code} {b : Nat} (hx : p.tables.exec = Jvm.exec) (hb : c.code = code) (hr : meth.sig.returnType = ret) (hlocks : meth.locks = false) {pc : Nat} {H : Heap} {ls : Array Slot} (hdg : decode code pc = .ok (.ireturn, 1)) : W p l e room_1 s m #[Value.ref b] below meth c H [] 600000 7302250 (lw_Z below #[Value.ref b] s) (F0 m pc ls [.int 1]) := by
  intro T hT X
  obtain ⟨fs, hret, hrun, hended, hW, hframe⟩ := X.leave (v := some (.int 1)) (hlocks := hlocks) (fun h => by rw [hr] at h; cases h)
  have hmeth' : T.vm.method? m = some meth := X.method'
  refine ⟨T.setFrames fs, ?_, .returned (some (.int 1)), hrun, hended, rfl, ⟨_, rfl⟩, hW, hframe⟩
  jvm_step X.here [X.here.top, hx, hb, hdg, hmeth', hr, ret, narrow_b1]
  (try refine ⟨rfl, ?_⟩); (try refine ⟨rfl, ?_⟩)
  first | (intro acts; rw [hret _ acts rfl rfl rfl]) | rw [hret _ _ rfl rfl rfl]
  exact Steps.refl _
/-- what holds at the law's entry: the machine, the code, the tables' words (any of lw_tbl by 'hts w (by decide +kernel)'), the script of L ints xs at the cell b, what the Statement gives of the start (any of its parts by flat_of_before) -/
def lw_At (p : Program) (s : State) (m : MethodId) (meth : Method) (c : Code) (b L : Nat) (xs : Nat → Int32) : Prop :=
  p.tables.exec = Jvm.exec ∧ c.code = code ∧ meth.sig.returnType = ret ∧ c.maxLocals = 4 ∧ s.vm.findClass R_law = some m.cls ∧ (∀ w ∈ lw_tbl, w.before #[Value.ref b] s = true) ∧ va_X b L xs s s.heap ∧ b < s.heap.size ∧ meth.locks = false ∧ (Jvm.Cond.and given_1 narrow_1).before #[Value.ref b] s = true
/-- what comes behind a call, with what it kept -/
theorem fk_after2 {p : Program} {l : Launch} {e : Env} {R : Room} {s : State} {m : MethodId} {args : Array Value} {below : List Frame} {meth : Method} {c : Code} {H : Heap} {locs : List Loc} {cells slots mc ms : Nat} {Q : State → Prop} {pc : Nat} {ls : Array Slot} {st0 rest : List Value}
    {D : va_G} {cl : List vw_C} {ws1 : va_W} {rv : Option Value} {A0 A1 : Nat → Prop} {H0 : Heap}
    (hr : va_Run p l e R s m args below meth c H locs cells slots mc ms (F0 m pc ls st0) rest (fun s0 oc t => oc = .returned rv ∧ va_P D cl ws1 t.heap ∧ va_F A1 s0 t) A1) (hS : va_S A0 H0 H locs) (hA : ∀ q, q < H.size → A1 q → A0 q) (hf : ∀ q, A1 q → A0 q)
    (kk : ∀ (H1 : Heap) (locs1 : List Loc), va_P D cl ws1 H1 → H.size ≤ H1.size → (∀ q : Nat, q < H.size → ¬ A1 q → H1[q]? = H[q]?) → va_S A0 H0 H1 locs1 → W p l e R s m args below meth c H1 locs1 (cells + mc) (slots + ms) Q (F0 m (pc + 3) ls (rv.toList ++ rest))) : W p l e R s m args below meth c H locs cells slots Q (F0 m pc ls st0) := by
  intro T hT X
  obtain ⟨v, st₀, t, T', L, h0, X', hL, e1, e2, ⟨hv, hp, hz, hk⟩, st⟩ := hr T hT X
  cases hv
  rw [h0] at hz hk
  obtain ⟨t2, a1, b1⟩ := kk T'.heap (locs ++ L) (by rw [e1]; exact hp) (by rw [e1]; exact hz) (by rw [e1]; exact hk)
    ⟨Nat.le_trans hS.1 (by rw [e1]; exact hz), fun q h1 h2 => by rw [e1, hk q (Nat.lt_of_lt_of_le h1 hS.1) (fun z => h2 (hA q (Nat.lt_of_lt_of_le h1 hS.1) z))]; exact hS.2.1 q h1 h2, fun q hq => by
      rcases List.mem_append.mp hq with h | h
      · exact hS.2.2 q h
      · exact hf _ (hL q h)⟩ T' rfl X'
  exact ⟨t2, st t2 a1, b1⟩
abbrev lwK : Type := Program × Launch × Env × State × MethodId × List Frame × Method × Code × Nat × Nat × (Nat → Int32)
def lwL (k : lwK) : Nat := match k with
  | (_, _, _, _, _, _, _, _, _, L, _) => L
def lwx (k : lwK) : Nat → Int32 := match k with
  | (_, _, _, _, _, _, _, _, _, _, xs) => xs
def lw_ok (k : lwK) (gC gM : fkG) : Prop := match k with
  | (p, _, _, s, m, _, meth, c, b, L, xs) => p.tables.exec = Jvm.exec ∧ c.code = cL_law ∧ c.maxLocals = 4 ∧ s.vm.findClass RL = some m.cls ∧ (∀ w ∈ fkB, w.before #[Value.ref b] s = true) ∧ va_X b L xs s s.heap ∧ b < s.heap.size ∧ meth.sig.returnType = ret ∧ meth.locks = false ∧ L ≤ 3072 ∧ gM.2 = gC.2 ∧
    va_K gC.2.1 vwCl (fk_tys gC) s ∧ fk_env gC (fun q => s.heap.size ≤ q) s ∧ fk_inj wC gC ∧ fk_inj wM gM ∧ (∀ i, i < 48 → s.heap.size ≤ gC.1 i) ∧ (∀ j, j < 22 → s.heap.size ≤ gM.1 j) ∧ ∀ i j, i < 48 → j < 22 → gC.1 i ≠ gM.1 j
def lw_J (k : lwK) (gC gM : fkG) (pc i : Nat) (stk : List Value) (cS mS : fkS) : Prop := match k with
  | (p, l, e, s, m, below, meth, c, b, _, _) => ∀ (H : Heap) (locs : List Loc) (ls : Array Slot), lv_has ls 4 [(3, .int (nI i)), (2, fk_r gM 0), (1, fk_r gC 0), (0, .ref b)] → va_P gC.2.1 vwCl (fk_ws wC gC cS) H → va_P gC.2.1 vwCl (fk_ws wM gM mS) H → va_S (fun q => s.heap.size ≤ q) s.heap H locs →
    W p l e room_1 s m #[Value.ref b] below meth c H locs 600000 7302250 (lw_Z below #[Value.ref b] s) (F0 m pc ls stk)
theorem lw_a0 {k : lwK} {gC gM : fkG} {pc i : Nat} {stk : List Value} {cS mS : fkS} (hk : lw_ok k gC gM) (hdg : decode cL_law pc = .ok (.aload_n 1, 1)) (kk : lw_J k gC gM (pc + 1) i (fk_r gC 0 :: stk) cS mS) : lw_J k gC gM pc i stk cS mS := by
  obtain ⟨p, l, e, s, m, below, meth, c, b, L, xs⟩ := k
  obtain ⟨hx, hb, hml, hown, hts, hX, hbl, hr, hlk, hL, h2, hK, hE, hiC, hiM, hgC, hgM, hne⟩ := hk
  intro H locs ls hl hC hM hS
  exact lv_aload_n hx hb hdg rfl (lv_at hl 2 rfl) (kk H locs ls hl hC hM hS)
theorem lw_a2 {k : lwK} {gC gM : fkG} {pc i : Nat} {stk : List Value} {cS mS : fkS} (hk : lw_ok k gC gM) (hdg : decode cL_law pc = .ok (.aload_n 2, 1)) (kk : lw_J k gC gM (pc + 1) i (fk_r gM 0 :: stk) cS mS) : lw_J k gC gM pc i stk cS mS := by
  obtain ⟨p, l, e, s, m, below, meth, c, b, L, xs⟩ := k
  obtain ⟨hx, hb, hml, hown, hts, hX, hbl, hr, hlk, hL, h2, hK, hE, hiC, hiM, hgC, hgM, hne⟩ := hk
  intro H locs ls hl hC hM hS
  exact lv_aload_n hx hb hdg rfl (lv_at hl 1 rfl) (kk H locs ls hl hC hM hS)
def lw_a5 (pc : Nat) (jj : Int) : Prop := decode cL_law pc = .ok (.aload_n 0, 1) ∧ decode cL_law (pc + 1) = .ok (.iload_n 3, 1) ∧ decode cL_law (pc + 2) = .ok (.iconst jj, 1) ∧ decode cL_law (pc + 3) = .ok (.iadd, 1) ∧ decode cL_law (pc + 4) = .ok (.iaload, 1)
theorem lw_arg {k : lwK} {gC gM : fkG} {pc i : Nat} {stk : List Value} {cS mS : fkS} (hk : lw_ok k gC gM) (hi : i + 5 < lwL k) (j : Nat) {jj : Int} (hd : lw_a5 pc jj) (hj5 : j < 6) (hjj : Int32.ofInt jj = nI j) (kk : lw_J k gC gM (pc + 5) i (.int (lwx k (i + j)) :: stk) cS mS) : lw_J k gC gM pc i stk cS mS := by
  obtain ⟨p, l, e, s, m, below, meth, c, b, L, xs⟩ := k
  obtain ⟨hx, hb, hml, hown, hts, hX, hbl, hr, hlk, hL, h2, hK, hE, hiC, hiM, hgC, hgM, hne⟩ := hk
  obtain ⟨d0, d1, d2, d3, d4⟩ := hd
  have hi : i + 5 < L := hi
  intro H locs ls hl hC hM hS
  refine lv_aload_n hx hb d0 rfl (lv_at hl 3 rfl) ?_
  refine lv_iload_n hx hb d1 rfl (lv_at hl 0 rfl) ?_
  refine lv_iconst hx hb d2 hjj ?_
  refine lv_iadd hx hb d3 ?_
  rw [nI_add]
  refine va_sld hx hb hX hbl (Nat.not_le_of_lt hbl) hS (vp_in_nI (by omega) (by omega)) d4 ?_
  rw [nI_clamp (by omega)]
  exact kk H locs ls hl hC hM hS
/-- a call of the class's -/
theorem lw_callC {k : lwK} {gC gM : fkG} {pc i : Nat} {stk rest : List Value} {cS cS' mS : fkS} (hk : lw_ok k gC gM) {ix n a fr lo : Nat} {y : MethodName} {bc : ByteArray} {ret1 : Option FieldType} {rv : Option Value} (As : List Value) (hstk : stk = As.reverse ++ fk_r gC 0 :: rest) (hCt : ∀ l : Launch, fk_C wC y bc n ret1 fr lo l gC (fk_r gC 0 :: As) cS rv cS')
    (hcls : y.cls = RX7) (hY : fk_yV y bc n ret1 a) (hlink : Cond.methodLink RL ix y ∈ fkB) (hlen : As.length = a) (hcat : (rest.map fun v => v.category).sum ≤ 8) (hfr : fr + 1 ≤ 2048) (hlo : 8 + (n + 11) + lo ≤ 84000) (hdg : decode cL_law pc = .ok (.invokevirtual ix, 3))
    (kk : lw_J k gC gM (pc + 3) i (rv.toList ++ rest) cS' mS) : lw_J k gC gM pc i stk cS mS := by
  subst hstk
  obtain ⟨p, l, e, s, m, below, meth, c, b, L, xs⟩ := k
  obtain ⟨hx, hb, hml, hown, hts, hX, hbl, hr, hlk, hL, h2, hK, hE, hiC, hiM, hgC, hgM, hne⟩ := hk
  intro H locs ls hl hC hM hS
  have hMet := hCt l hiC H.size
  have hA : ∀ q, fk_A wC gC H.size q → s.heap.size ≤ q := by
    rintro q (⟨j, hj, rfl⟩ | h)
    · exact hgC j hj
    · exact Nat.le_trans hS.1 h
  have hrecv : ∃ cellB : Cell, H[gC.1 0]? = some cellB ∧ cellB.vm.isStatics = false ∧ s.vm.findClass y.cls = some cellB.cls := by
    rw [hcls]
    exact va_recv (q := (RX7, TX7, 12)) hK hC rfl (q0 := 0) (wat_7 (g := gC) (st := cS) (i := 0) rfl)
  refine fk_after2 (va_runV (b := gC.1 0) (As := As) (rest := rest) ⟨hx, hb, hml, hown, hts⟩ hMet (⟨callB_of a hts (fkB_good hY.2.2.1) rfl rfl rfl (hts _ hY.2.1) (hts _ hlink) hY.2.2.2 ⟨hfr, hlo⟩, hts _ hY.1.1, hts _ hY.1.2⟩) ⟨fk_blind, hrecv, fun U hU hW => ?_⟩ rfl hlen hl.1 rfl (lv_room hcat) hdg ⟨Nat.le_refl _, Nat.le_refl _⟩) hS
    (fun q _ h => hA q h) hA (fun H1 locs1 hP1 hz hk1 hS1 => kk H1 locs1 ls hl hP1 (hM.kept (fun j q hq => ?_)) hS1)
  · subst hU
    exact ⟨rfl, rfl, hC, va_K.moved hW.alike hK, hE.go hW (fun a h1 h2 => hS.2.1 a h1 h2) hA⟩
  · obtain ⟨hj, rfl⟩ := fk_wof hq
    have hlt : gM.1 j < H.size := (hM j _ (fk_wat hj)).lt
    refine hk1 _ hlt ?_
    rintro (⟨i, hi, h⟩ | h)
    · exact hne i j hi hj h.symm
    · exact absurd hlt (Nat.not_lt_of_le h)
/-- a call of the reference's -/
theorem lw_callM {k : lwK} {gC gM : fkG} {pc i : Nat} {stk rest : List Value} {cS mS' mS : fkS} (hk : lw_ok k gC gM) {ix n a fr lo : Nat} {y : MethodName} {bc : ByteArray} {ret1 : Option FieldType} {rv : Option Value} (As : List Value) (hstk : stk = As.reverse ++ fk_r gM 0 :: rest) (hCt : ∀ l : Launch, fk_C wM y bc n ret1 fr lo l gM (fk_r gM 0 :: As) mS rv mS')
    (hcls : y.cls = RX8) (hY : fk_yV y bc n ret1 a) (hlink : Cond.methodLink RL ix y ∈ fkB) (hlen : As.length = a) (hcat : (rest.map fun v => v.category).sum ≤ 8) (hfr : fr + 1 ≤ 2048) (hlo : 8 + (n + 11) + lo ≤ 84000) (hdg : decode cL_law pc = .ok (.invokevirtual ix, 3))
    (kk : lw_J k gC gM (pc + 3) i (rv.toList ++ rest) cS mS') : lw_J k gC gM pc i stk cS mS := by
  subst hstk
  obtain ⟨p, l, e, s, m, below, meth, c, b, L, xs⟩ := k
  obtain ⟨hx, hb, hml, hown, hts, hX, hbl, hr, hlk, hL, h2, hK, hE, hiC, hiM, hgC, hgM, hne⟩ := hk
  obtain ⟨aM, G⟩ := gM
  obtain ⟨aC, G'⟩ := gC
  have h2 : G = G' := h2
  subst h2
  intro H locs ls hl hC hM hS
  have hMet := hCt l hiM H.size
  have hA : ∀ q, fk_A wM (aM, G) H.size q → s.heap.size ≤ q := by
    rintro q (⟨j, hj, rfl⟩ | h)
    · exact hgM j hj
    · exact Nat.le_trans hS.1 h
  have hrecv : ∃ cellB : Cell, H[aM 0]? = some cellB ∧ cellB.vm.isStatics = false ∧ s.vm.findClass y.cls = some cellB.cls := by
    rw [hcls]
    exact va_recv (q := (RX8, TX8, 37)) hK hM rfl (q0 := 0) (wat_8 (g := (aM, G)) (st := mS) (i := 0) rfl)
  refine fk_after2 (va_runV (b := aM 0) (As := As) (rest := rest) ⟨hx, hb, hml, hown, hts⟩ hMet (⟨callB_of a hts (fkB_good hY.2.2.1) rfl rfl rfl (hts _ hY.2.1) (hts _ hlink) hY.2.2.2 ⟨hfr, hlo⟩, hts _ hY.1.1, hts _ hY.1.2⟩) ⟨fk_blind, hrecv, fun U hU hW => ?_⟩ rfl hlen hl.1 rfl (lv_room hcat) hdg ⟨Nat.le_refl _, Nat.le_refl _⟩) hS
    (fun q _ h => hA q h) hA (fun H1 locs1 hP1 hz hk1 hS1 => kk H1 locs1 ls hl (hC.kept (fun j q hq => ?_)) hP1 hS1)
  · subst hU
    exact ⟨rfl, rfl, hM, va_K.moved hW.alike hK, fk_env.go (g := (aM, G)) hE hW (fun a h1 h2 => hS.2.1 a h1 h2) hA⟩
  · obtain ⟨hj, rfl⟩ := fk_wof hq
    have hlt : aC j < H.size := (hC j _ (fk_wat (w := wC) hj)).lt
    refine hk1 _ hlt ?_
    rintro (⟨i, hi, h⟩ | h)
    · exact hne j i hj hi h
    · exact absurd hlt (Nat.not_lt_of_le h)
/-- two answers the same: the script goes on -/
theorem lw_same {k : lwK} {gC gM : fkG} {pc i : Nat} {off : Int} {r : Int32} {cS mS : fkS} (hk : lw_ok k gC gM) (hdg : decode cL_law pc = .ok (.if_icmp .eq off, 3)) (ht : (pc : Int) + off = ((1481 : Nat) : Int)) (kk : lw_J k gC gM 1481 i [] cS mS) : lw_J k gC gM pc i [.int r, .int r] cS mS := by
  obtain ⟨p, l, e, s, m, below, meth, c, b, L, xs⟩ := k
  obtain ⟨hx, hb, hml, hown, hts, hX, hbl, hr, hlk, hL, h2, hK, hE, hiC, hiM, hgC, hgM, hne⟩ := hk
  intro H locs ls hl hC hM hS
  exact lv_icmp_eq hx hb hdg ht (fun _ => kk H locs ls hl hC hM hS) (fun h => absurd rfl h)
theorem lw_sameL {k : lwK} {gC gM : fkG} {pc i : Nat} {off : Int} {r : Int64} {cS mS : fkS} (hk : lw_ok k gC gM) (hdg : decode cL_law pc = .ok (.lcmp, 1)) (hdg2 : decode cL_law (pc + 1) = .ok (.ifCond .eq off, 3)) (ht : ((pc + 1 : Nat) : Int) + off = ((1481 : Nat) : Int)) (kk : lw_J k gC gM 1481 i [] cS mS) : lw_J k gC gM pc i [.long r, .long r] cS mS := by
  obtain ⟨p, l, e, s, m, below, meth, c, b, L, xs⟩ := k
  obtain ⟨hx, hb, hml, hown, hts, hX, hbl, hr, hlk, hL, h2, hK, hE, hiC, hiM, hgC, hgM, hne⟩ := hk
  intro H locs ls hl hC hM hS
  refine W.lcmp hx hb hdg ?_
  exact lv_if_eq hx hb hdg2 ht (fun _ => kk H locs ls hl hC hM hS) (fun h => absurd (show lg_cmp r r = 0 by simp [lg_cmp]) h)
def lw_lg (x y : Int32) : Int64 := (x.toInt64 <<< ((32 : Int32).toInt64 &&& 63)) ||| (y.toInt64 &&& 4294967295)
theorem wl_18 : Cond.constantLong RL 18 4294967295 ∈ fkB := fkB_in (tb_in6 (List.mem_of_getElem? (i := 48) (by decide +kernel))) rfl
def lw_l8 (pc : Nat) : Prop := decode cL_law pc = .ok (.i2l, 1) ∧ decode cL_law (pc + 1) = .ok (.bipush 32, 2) ∧ decode cL_law (pc + 3) = .ok (.lshl, 1) ∧ lw_a5 (pc + 4) 4 ∧ decode cL_law (pc + 9) = .ok (.i2l, 1) ∧ decode cL_law (pc + 10) = .ok (.ldc2_w 18, 3) ∧ decode cL_law (pc + 13) = .ok (.land, 1) ∧ decode cL_law (pc + 14) = .ok (.lor, 1)
theorem lw_long {k : lwK} {gC gM : fkG} {pc i : Nat} {stk : List Value} {x : Int32} {cS mS : fkS} (hk : lw_ok k gC gM) (hi : i + 5 < lwL k) (hd : lw_l8 pc) (kk : lw_J k gC gM (pc + 15) i (.long (lw_lg x (lwx k (i + 4))) :: stk) cS mS) : lw_J k gC gM pc i (.int x :: stk) cS mS := by
  have hk' := hk
  obtain ⟨p, l, e, s, m, below, meth, c, b, L, xs⟩ := k
  obtain ⟨hx, hb, hml, hown, hts, hX, hbl, hr, hlk, hL, h2, hK, hE, hiC, hiM, hgC, hgM, hne⟩ := hk
  obtain ⟨d0, d1, d3, d4, d9, d10, d13, d14⟩ := hd
  intro H locs ls hl hC hM hS
  refine lv_i2l hx hb d0 rfl ?_
  refine lv_bipush (v := 32) hx hb d1 (by decide) ?_
  refine lv_lshl hx hb d3 rfl ?_
  refine lw_arg hk' hi 4 d4 (by decide) rfl ?_ H locs ls hl hC hM hS
  intro H locs ls hl hC hM hS
  refine lv_i2l hx hb d9 rfl ?_
  refine lv_ldc2 hx hb hown (hts _ wl_18) d10 ?_
  refine lv_land hx hb d13 ?_
  refine lv_lor hx hb d14 ?_
  exact kk H locs ls hl hC hM hS
theorem nI_sub6 {n : Nat} (h : n < 2 ^ 30) : (nI n - 6).toInt = (n : Int) - 6 := by
  rw [Int32.toInt_sub, nI_toInt (by omega), show (6 : Int32).toInt = 6 by decide]
  exact Int.bmod_eq_of_le (by omega) (by omega)
