/-! 99zf: the law's wrappers: methods with a table of handlers. Written by wip/gen/mklaw1.py. -/
def zE5 : List String := ["java/lang/IllegalArgumentException", "java/lang/IllegalStateException", "java/lang/IndexOutOfBoundsException", "java/util/NoSuchElementException", "java/lang/UnsupportedOperationException"]
/-- the five kinds of exception are apart -/
def zNC (U : State) : Prop := ∀ E ∈ zE5, ∀ N ∈ zE5, E ≠ N → va_Nc E N U
theorem zNC.moved {u U : State} (hv : u.vm.Alike U.vm) (h : zNC u) : zNC U := fun E hE N hN hne => (h E hE N hN hne).moved hv
theorem zNC.warm {s U : State} (hW : s.WarmedH U.vm) (h : zNC s) : zNC U := h.moved hW.alike
def zPL (D : va_G) (T : Nat → ClassId) (av : List Value) (ws gm : List va_W) (base sz : Nat) : Array Value → State → Prop := fun a U => zPx D T av ws gm base sz a U ∧ zNC U
theorem zPL_blind {D : va_G} {T : Nat → ClassId} {av : List Value} {ws gm : List va_W} {base sz : Nat} : FrameBlind (zPL D T av ws gm base sz) := fun a U g mk q => ⟨zPx_blind a U g mk q.1, zNC.moved (u := U) (U := U.calling g mk a) (Vm.Alike.refl U.vm) q.2⟩
/-- what a walk stands on besides, where handlers are -/
def zFlw (C : zCtx) (base : Nat) : Prop := zEF (zcs C) ∧ zTh base (zcs C) (zcs C).heap ∧ (∀ q : Nat, zcA C q → base ≤ q) ∧ base ≤ (zcs C).heap.size ∧ (zcl C).stackTraces = false ∧ zNC (zcs C)
theorem zMetL {l : Launch} (hst : l.stackTraces = false) {y : MethodName} {cc : ByteArray} {maxL : Nat} {ret : Option FieldType} {hh : List (Nat × Nat × Nat × Nat)} {rm : Room} {D : va_G} {T : Nat → ClassId} {av : List Value} {ws wm : (Nat → ClassId) → List va_W} {mc ms : Nat} {lv0 : List (Nat × Value)} (mp : List Nat) {Qc : va_G → (Nat → ClassId) → (Nat → Prop) → Array Value → State → Outcome → State → Prop} (hy : plainName y.cls = true) (hmp : mp.map (fun i => (ws T)[i]?) = (wm T).map some) (hlen : (lg_sl av).length ≤ maxL) (hlv : lv_args 0 av = lv0)
    (body : ∀ (C : zCtx) (base : Nat), zFx C cc maxL y.cls rm ret → zFlw C base → (zcc C).exceptionTable.toList = tableOf hh → zcQ C = MQ (zcb C) (Qc (zcD C) (zcT C) (zcA C)) (zca C) (zcs C) mc ms (zcA C) → zG C maxL mp 0 0 (ws (zcT C)) 0 lv0 []) (base sz : Nat) :
    Met l y (Cond.codeWith y cc maxL ret hh :: zW) rm (zPL D T av (ws T) (wm T) base sz) (Qc D T (zA (wm T) sz)) mc ms (zA (wm T) sz) := by
  refine va_MetW (cc := cc) (maxL := maxL) (ret := ret) (hh := hh) hy rfl ?_
  intro p e s m args below meth c s₁ B hml hv
  obtain ⟨⟨rfl, hsz, hP, hK, hD0, hE0, hF0, hT0, hb0, hg0⟩, hN0⟩ := hv
  have hx := B.exec
  have hb := B.bytes
  have hr := B.returns
  have hts := atoms_spec (ws := Cond.codeWith y cc maxL ret hh :: zW) B.pre
  have htab := vx_table (x := y) B (hts _ List.mem_cons_self)
  have hown : s.vm.findClass y.cls = some m.cls := findClass_of_methodNamed B.named
  have hlocks := B.notSynchronized
  have hmp2 : ∀ k ∈ mp, ∀ w : va_W, (ws T)[k]? = some w → ∀ x ∈ zad w, zA (wm T) sz x := by
    intro k hk q hq x hx
    obtain ⟨j, hj⟩ := List.getElem?_of_mem hk
    have h1 : (mp.map (fun i => (ws T)[i]?))[j]? = some (some q) := by rw [List.getElem?_map, hj]; simp [hq]
    rw [hmp, List.getElem?_map] at h1
    cases hw : (wm T)[j]? with
    | none => rw [hw] at h1; cases h1
    | some z =>
      rw [hw] at h1
      have h2 : z = q := Option.some.inj (Option.some.inj h1)
      subst h2
      exact Or.inl ⟨z, List.mem_of_getElem? hw, hx⟩
  have hl := lv_entry av (n := maxL) hlen
  rw [lg_entry_eq]
  rw [hlv] at hl
  refine body (p, l, e, rm, s, m, av.toArray, below, meth, c, D, T, zA (wm T) sz, MQ below (Qc D T (zA (wm T) sz)) av.toArray s mc ms (zA (wm T) sz)) base ⟨hx, hb, hml, hown, fun w hw => hts w (List.mem_cons_of_mem _ hw), hK, fun q hq => Or.inr (hsz ▸ hq), hlocks, rfl, hr, hE0⟩ ⟨hF0, hT0, fun q hq => ?_, hsz.symm ▸ hb0, hst, hN0⟩ htab rfl s.heap [] _ hP hD0 hmp2 va_S.rf hl
  rcases hq with ⟨w, hw, hx⟩ | hq
  · exact hg0 w hw q hx
  · exact Nat.le_trans hb0 hq
section ZLW
variable {C : zCtx} {cc : ByteArray} {nL : Nat} {own : String} {rm : Room} {ret : Option FieldType} {mp : List Nat} {cells slots : Nat} {ws ws2 : List va_W} {pc : Nat} {lv : List (Nat × Value)} {st st0 : List Value}
variable {y : MethodName} {bytes : ByteArray} {maxL n index mc ms : Nat} {retc : Option FieldType} {rmc : Room} {wc wm wm1 : List va_W} {As : List Value} {b : Nat}
theorem z_tcallVi {base : Nat} (X : zFx C cc nL own rm ret) (Y : zFlw C base) {o : String ⊕ Int32} (hM : ∀ base sz, vx_Met (zcl C) y (zws y bytes maxL retc) rmc (zPx (zcD C) (zcT C) (.ref b :: As) wc wm base sz) (zQxi (zcD C) o wm1 (zA wm sz)) (zXxi (zcD C) o wm1 (zA wm sz)) mc ms (zA wm sz)) (M : zMV y bytes maxL retc n) (hlk : Cond.methodLink own index y ∈ zW) (hd : decode cc pc = .ok (.invokevirtual index, 3)) (g j ci : Nat) {w : va_W} {fs : List Value} {qcl : vw_C} (hg : ws[g]? = some w) (hrv : w[j]? = some (b, .inr (ci, fs))) (hcl : vwCl[ci]? = some qcl) (hyc : qcl.1 = y.cls) (isC : List Nat) (hC : isC.map (fun i => ws[i]?) = wc.map some) (hCn : va_nd isC = true) (isM : List Nat) (hMo : isM.map (fun i => ws[i]?) = wm.map some) (hmp : ∀ i ∈ isM, i ∈ mp) (ha : zSA wm1 wm) (hw2 : zput ws isM wm1 = ws2) (hst : st0 = As.reverse ++ .ref b :: st) (hn : As.length = n) (hcat : (st.map fun v => v.category).sum ≤ 8)
    (hrc : rmc.cells = mc) (hrs : rmc.slots = ms) (hroom : rmc.frames + 1 ≤ rm.frames ∧ 8 + (maxL + 11) + rmc.locals ≤ rm.locals) (hf : cells + mc ≤ rm.cells ∧ slots + ms ≤ rm.slots)
    (kx : ∀ E : String, o = .inl E → zGx C nL mp (cells + mc) (slots + ms) ws2 pc lv E) (kk : ∀ r, o = .inr r → zG C nL mp (cells + mc) (slots + ms) ws2 (pc + 3) lv (.int r :: st)) : zG C nL mp cells slots ws pc lv st0 := by
  intro H locs ls hP hD hmpA hS hl
  obtain ⟨hEF, hTh, hAb, hbs, hl9, hNC⟩ := Y
  have hwA : ∀ q : Nat, zA wm H.size q → zcA C q := by
    intro q hq
    rcases hq with ⟨w, hw, hx⟩ | hq
    · obtain ⟨k, hk⟩ := List.getElem?_of_mem hw
      obtain ⟨j, h1, h2⟩ := zpl hMo hk
      exact hmpA j (hmp j (List.mem_of_getElem? h1)) _ h2 q hx
    · exact X.2.2.2.2.2.2.1 q (Nat.le_trans hS.1 hq)
  have hpre : ∀ U : State, U.heap = H → (zcs C).WarmedH U.vm → zPx (zcD C) (zcT C) (.ref b :: As) wc wm base H.size (.ref b :: As).toArray U := fun U hU hW => ⟨rfl, by rw [hU], by rw [hU]; exact zsubP hP isC hC, va_K.moved hW.alike X.2.2.2.2.2.1, zsubD hD isC hCn hC, X.2.2.2.2.2.2.2.2.2.2.warm hW, hEF.warm hW, by rw [hU]; exact (hTh.kept (fun a h1 h2 => hS.2.1 a h1 (fun h3 => h2 (hAb a h3)))).moved hW.alike, Nat.le_trans hbs hS.1, fun w hw x hx => hAb x (hwA x (Or.inl ⟨w, hw, hx⟩))⟩
  subst hst
  refine vx_calli (vx_runV (As := As) (rest := st) ⟨X.1, X.2.1, X.2.2.1, X.2.2.2.1, X.2.2.2.2.1⟩ (hM base H.size) ⟨zcallB X.2.2.2.2.1 M.1 M.2.1 hlk M.2.2.2.2 hrc hrs (X.2.2.2.2.2.2.2.2.1 ▸ hroom), X.2.2.2.2.1 _ M.2.2.1, X.2.2.2.2.1 _ M.2.2.2.1⟩ ⟨zPx_blind, hyc ▸ va_recv X.2.2.2.2.2.1 (hP g _ hg) hcl hrv, hpre⟩ rfl hn hl.1 rfl (lv_room hcat) hd (X.2.2.2.2.2.2.2.2.1 ▸ hf)) hS (fun q _ h => hwA q h) hwA (fun q _ h => hwA q h) (fun E ce q9 u t H1 locs1 ht hvm hpx hB hz1 hk1 hS1 hce hcv hcl => ?_) (fun r u t H1 locs1 ht hvm hw hB hz1 hk1 hS1 => ?_)
  · obtain ⟨hB1, hB2⟩ := hB
    rw [ht] at hB2
    obtain ⟨hP2, hD2⟩ := zback hP hD hMo ha hw2 hk1 hB2
    refine kx E hB1 H1 locs1 ls ce q9 st hP2 hD2 (fun k hk q hq x hx => ?_) hS1 hl hce hcv hcl
    obtain ⟨v, he, hv⟩ := zaddr hMo ha hw2 hq
    exact hmpA k hk v he x (by rw [← hv]; exact hx)
  · rw [ht] at hB
    obtain ⟨hP2, hD2⟩ := zback hP hD hMo ha hw2 hk1 hB
    refine kk r hw H1 locs1 ls hP2 hD2 (fun k hk q hq x hx => ?_) hS1 hl
    obtain ⟨v, he, hv⟩ := zaddr hMo ha hw2 hq
    exact hmpA k hk v he x (by rw [← hv]; exact hx)
theorem z_tcallVl {base : Nat} (X : zFx C cc nL own rm ret) (Y : zFlw C base) {o : String ⊕ Int64} (hM : ∀ base sz, vx_Met (zcl C) y (zws y bytes maxL retc) rmc (zPx (zcD C) (zcT C) (.ref b :: As) wc wm base sz) (zQxl (zcD C) o wm1 (zA wm sz)) (zXxl (zcD C) o wm1 (zA wm sz)) mc ms (zA wm sz)) (M : zMV y bytes maxL retc n) (hlk : Cond.methodLink own index y ∈ zW) (hd : decode cc pc = .ok (.invokevirtual index, 3)) (g j ci : Nat) {w : va_W} {fs : List Value} {qcl : vw_C} (hg : ws[g]? = some w) (hrv : w[j]? = some (b, .inr (ci, fs))) (hcl : vwCl[ci]? = some qcl) (hyc : qcl.1 = y.cls) (isC : List Nat) (hC : isC.map (fun i => ws[i]?) = wc.map some) (hCn : va_nd isC = true) (isM : List Nat) (hMo : isM.map (fun i => ws[i]?) = wm.map some) (hmp : ∀ i ∈ isM, i ∈ mp) (ha : zSA wm1 wm) (hw2 : zput ws isM wm1 = ws2) (hst : st0 = As.reverse ++ .ref b :: st) (hn : As.length = n) (hcat : (st.map fun v => v.category).sum ≤ 8)
    (hrc : rmc.cells = mc) (hrs : rmc.slots = ms) (hroom : rmc.frames + 1 ≤ rm.frames ∧ 8 + (maxL + 11) + rmc.locals ≤ rm.locals) (hf : cells + mc ≤ rm.cells ∧ slots + ms ≤ rm.slots)
    (kx : ∀ E : String, o = .inl E → zGx C nL mp (cells + mc) (slots + ms) ws2 pc lv E) (kk : ∀ r, o = .inr r → zG C nL mp (cells + mc) (slots + ms) ws2 (pc + 3) lv (.long r :: st)) : zG C nL mp cells slots ws pc lv st0 := by
  intro H locs ls hP hD hmpA hS hl
  obtain ⟨hEF, hTh, hAb, hbs, hl9, hNC⟩ := Y
  have hwA : ∀ q : Nat, zA wm H.size q → zcA C q := by
    intro q hq
    rcases hq with ⟨w, hw, hx⟩ | hq
    · obtain ⟨k, hk⟩ := List.getElem?_of_mem hw
      obtain ⟨j, h1, h2⟩ := zpl hMo hk
      exact hmpA j (hmp j (List.mem_of_getElem? h1)) _ h2 q hx
    · exact X.2.2.2.2.2.2.1 q (Nat.le_trans hS.1 hq)
  have hpre : ∀ U : State, U.heap = H → (zcs C).WarmedH U.vm → zPx (zcD C) (zcT C) (.ref b :: As) wc wm base H.size (.ref b :: As).toArray U := fun U hU hW => ⟨rfl, by rw [hU], by rw [hU]; exact zsubP hP isC hC, va_K.moved hW.alike X.2.2.2.2.2.1, zsubD hD isC hCn hC, X.2.2.2.2.2.2.2.2.2.2.warm hW, hEF.warm hW, by rw [hU]; exact (hTh.kept (fun a h1 h2 => hS.2.1 a h1 (fun h3 => h2 (hAb a h3)))).moved hW.alike, Nat.le_trans hbs hS.1, fun w hw x hx => hAb x (hwA x (Or.inl ⟨w, hw, hx⟩))⟩
  subst hst
  refine vx_calll (vx_runV (As := As) (rest := st) ⟨X.1, X.2.1, X.2.2.1, X.2.2.2.1, X.2.2.2.2.1⟩ (hM base H.size) ⟨zcallB X.2.2.2.2.1 M.1 M.2.1 hlk M.2.2.2.2 hrc hrs (X.2.2.2.2.2.2.2.2.1 ▸ hroom), X.2.2.2.2.1 _ M.2.2.1, X.2.2.2.2.1 _ M.2.2.2.1⟩ ⟨zPx_blind, hyc ▸ va_recv X.2.2.2.2.2.1 (hP g _ hg) hcl hrv, hpre⟩ rfl hn hl.1 rfl (lv_room hcat) hd (X.2.2.2.2.2.2.2.2.1 ▸ hf)) hS (fun q _ h => hwA q h) hwA (fun q _ h => hwA q h) (fun E ce q9 u t H1 locs1 ht hvm hpx hB hz1 hk1 hS1 hce hcv hcl => ?_) (fun r u t H1 locs1 ht hvm hw hB hz1 hk1 hS1 => ?_)
  · obtain ⟨hB1, hB2⟩ := hB
    rw [ht] at hB2
    obtain ⟨hP2, hD2⟩ := zback hP hD hMo ha hw2 hk1 hB2
    refine kx E hB1 H1 locs1 ls ce q9 st hP2 hD2 (fun k hk q hq x hx => ?_) hS1 hl hce hcv hcl
    obtain ⟨v, he, hv⟩ := zaddr hMo ha hw2 hq
    exact hmpA k hk v he x (by rw [← hv]; exact hx)
  · rw [ht] at hB
    obtain ⟨hP2, hD2⟩ := zback hP hD hMo ha hw2 hk1 hB
    refine kk r hw H1 locs1 ls hP2 hD2 (fun k hk q hq x hx => ?_) hS1 hl
    obtain ⟨v, he, hv⟩ := zaddr hMo ha hw2 hq
    exact hmpA k hk v he x (by rw [← hv]; exact hx)
theorem z_tcallVf {base : Nat} (X : zFx C cc nL own rm ret) (Y : zFlw C base) {o : String ⊕ UInt32} (hM : ∀ base sz, vx_Met (zcl C) y (zws y bytes maxL retc) rmc (zPx (zcD C) (zcT C) (.ref b :: As) wc wm base sz) (zQxf (zcD C) o wm1 (zA wm sz)) (zXxf (zcD C) o wm1 (zA wm sz)) mc ms (zA wm sz)) (M : zMV y bytes maxL retc n) (hlk : Cond.methodLink own index y ∈ zW) (hd : decode cc pc = .ok (.invokevirtual index, 3)) (g j ci : Nat) {w : va_W} {fs : List Value} {qcl : vw_C} (hg : ws[g]? = some w) (hrv : w[j]? = some (b, .inr (ci, fs))) (hcl : vwCl[ci]? = some qcl) (hyc : qcl.1 = y.cls) (isC : List Nat) (hC : isC.map (fun i => ws[i]?) = wc.map some) (hCn : va_nd isC = true) (isM : List Nat) (hMo : isM.map (fun i => ws[i]?) = wm.map some) (hmp : ∀ i ∈ isM, i ∈ mp) (ha : zSA wm1 wm) (hw2 : zput ws isM wm1 = ws2) (hst : st0 = As.reverse ++ .ref b :: st) (hn : As.length = n) (hcat : (st.map fun v => v.category).sum ≤ 8)
    (hrc : rmc.cells = mc) (hrs : rmc.slots = ms) (hroom : rmc.frames + 1 ≤ rm.frames ∧ 8 + (maxL + 11) + rmc.locals ≤ rm.locals) (hf : cells + mc ≤ rm.cells ∧ slots + ms ≤ rm.slots)
    (kx : ∀ E : String, o = .inl E → zGx C nL mp (cells + mc) (slots + ms) ws2 pc lv E) (kk : ∀ r, o = .inr r → zG C nL mp (cells + mc) (slots + ms) ws2 (pc + 3) lv (.float r :: st)) : zG C nL mp cells slots ws pc lv st0 := by
  intro H locs ls hP hD hmpA hS hl
  obtain ⟨hEF, hTh, hAb, hbs, hl9, hNC⟩ := Y
  have hwA : ∀ q : Nat, zA wm H.size q → zcA C q := by
    intro q hq
    rcases hq with ⟨w, hw, hx⟩ | hq
    · obtain ⟨k, hk⟩ := List.getElem?_of_mem hw
      obtain ⟨j, h1, h2⟩ := zpl hMo hk
      exact hmpA j (hmp j (List.mem_of_getElem? h1)) _ h2 q hx
    · exact X.2.2.2.2.2.2.1 q (Nat.le_trans hS.1 hq)
  have hpre : ∀ U : State, U.heap = H → (zcs C).WarmedH U.vm → zPx (zcD C) (zcT C) (.ref b :: As) wc wm base H.size (.ref b :: As).toArray U := fun U hU hW => ⟨rfl, by rw [hU], by rw [hU]; exact zsubP hP isC hC, va_K.moved hW.alike X.2.2.2.2.2.1, zsubD hD isC hCn hC, X.2.2.2.2.2.2.2.2.2.2.warm hW, hEF.warm hW, by rw [hU]; exact (hTh.kept (fun a h1 h2 => hS.2.1 a h1 (fun h3 => h2 (hAb a h3)))).moved hW.alike, Nat.le_trans hbs hS.1, fun w hw x hx => hAb x (hwA x (Or.inl ⟨w, hw, hx⟩))⟩
  subst hst
  refine vx_callf (vx_runV (As := As) (rest := st) ⟨X.1, X.2.1, X.2.2.1, X.2.2.2.1, X.2.2.2.2.1⟩ (hM base H.size) ⟨zcallB X.2.2.2.2.1 M.1 M.2.1 hlk M.2.2.2.2 hrc hrs (X.2.2.2.2.2.2.2.2.1 ▸ hroom), X.2.2.2.2.1 _ M.2.2.1, X.2.2.2.2.1 _ M.2.2.2.1⟩ ⟨zPx_blind, hyc ▸ va_recv X.2.2.2.2.2.1 (hP g _ hg) hcl hrv, hpre⟩ rfl hn hl.1 rfl (lv_room hcat) hd (X.2.2.2.2.2.2.2.2.1 ▸ hf)) hS (fun q _ h => hwA q h) hwA (fun q _ h => hwA q h) (fun E ce q9 u t H1 locs1 ht hvm hpx hB hz1 hk1 hS1 hce hcv hcl => ?_) (fun r u t H1 locs1 ht hvm hw hB hz1 hk1 hS1 => ?_)
  · obtain ⟨hB1, hB2⟩ := hB
    rw [ht] at hB2
    obtain ⟨hP2, hD2⟩ := zback hP hD hMo ha hw2 hk1 hB2
    refine kx E hB1 H1 locs1 ls ce q9 st hP2 hD2 (fun k hk q hq x hx => ?_) hS1 hl hce hcv hcl
    obtain ⟨v, he, hv⟩ := zaddr hMo ha hw2 hq
    exact hmpA k hk v he x (by rw [← hv]; exact hx)
  · rw [ht] at hB
    obtain ⟨hP2, hD2⟩ := zback hP hD hMo ha hw2 hk1 hB
    refine kk r hw H1 locs1 ls hP2 hD2 (fun k hk q hq x hx => ?_) hS1 hl
    obtain ⟨v, he, hv⟩ := zaddr hMo ha hw2 hq
    exact hmpA k hk v he x (by rw [← hv]; exact hx)
/-- caught by the row x of the table -/
theorem z_catch {base : Nat} (X : zFx C cc nL own rm ret) (Y : zFlw C base) {E : String} {hh : List (Nat × Nat × Nat × Nat)} (hT : (zcc C).exceptionTable.toList = tableOf hh) (pre : List ExceptionTableEntry) (x : ExceptionTableEntry) (suf : List ExceptionTableEntry) (hsplit : tableOf hh = pre ++ x :: suf) (hpass : ∀ z ∈ pre, z.catchType ≠ 0 ∧ ∃ N : String, Cond.classLink own z.catchType N ∈ zW ∧ E ∈ zE5 ∧ N ∈ zE5 ∧ E ≠ N) (hx : covers x pc = true) (h0 : x.catchType ≠ 0) (hlink : Cond.classLink own x.catchType E ∈ zW) (hcast : Cond.castable E E ∈ zFl) (kk : ∀ q : Nat, zG C nL mp cells slots ws x.handlerPc lv [.ref q]) : zGx C nL mp cells slots ws pc lv E := by
  intro H locs ls ce q rest hP hD hM hS hl hce hcv hcl
  refine vx_catch X.2.2.2.1 pre x suf (hT.trans hsplit) (fun z hz => ?_) hx h0 (X.2.2.2.2.1 _ hlink) (va_tabs ((Bool.and_eq_true _ _).mp (List.mem_filter.mp hcast).2).1 rfl (Y.1.1 _ hcast)) hce hcv hcl (kk q H locs ls hP hD hM hS hl)
  obtain ⟨h1, N, h2, h3, h4, h5⟩ := hpass z hz
  exact Or.inr ⟨h1, N, X.2.2.2.2.1 _ h2, Y.2.2.2.2.2 E h3 N h4 h5⟩
/-- what the tables say of a static method with handlers -/
def zML (y : MethodName) (bytes : ByteArray) (maxL : Nat) (ret : Option FieldType) (hh : List (Nat × Nat × Nat × Nat)) (n : Nat) : Prop :=
  Cond.codeWith y bytes maxL ret hh ∈ zW ∧ Cond.initialized y.cls ∈ zW ∧ Cond.static y ∈ zW ∧ (y.cls ≠ "java/lang/invoke/MethodHandle" ∧ y.cls ≠ "java/lang/invoke/VarHandle" ∧ (parseMethodDescriptor y.desc).map (fun d => d.parameters.length) = some n)
theorem zgoodL {hh : List (Nat × Nat × Nat × Nat)} (h : Cond.codeWith y bytes maxL retc hh ∈ zW) : GoodIn zW (Cond.codeWith y bytes maxL retc hh :: zW) := fun w hw => by
  have : w ∈ zW := (List.mem_cons.mp hw).elim (fun e => by rw [e]; exact h) id
  exact ⟨this, zW_good this⟩
theorem zcallL {R : Room} {s : State} {args : Array Value} {hh : List (Nat × Nat × Nat × Nat)} (hts : ∀ w ∈ zW, w.before args s = true) (M : zML y bytes maxL retc hh n) (hl : Cond.methodLink own index y ∈ zW) (hrc : rmc.cells = mc) (hrs : rmc.slots = ms) (hR : rmc.frames + 1 ≤ R.frames ∧ 8 + (maxL + 11) + rmc.locals ≤ R.locals) :
    vx_CSW R s args own index y bytes maxL retc hh (Cond.codeWith y bytes maxL retc hh :: zW) rmc mc ms n := by
  refine ⟨⟨hrc, hrs, hR.1, hR.2, pay_in hts (zgoodL M.1), List.mem_cons_self⟩, hts _ M.1, hts _ M.2.1, ⟨M.2.2.2.1, M.2.2.2.2.1⟩, fun sig h => ?_, hts _ hl, hts _ M.2.2.1⟩
  have h2 := M.2.2.2.2.2
  rw [h] at h2
  exact (Option.some.inj h2).symm
theorem z_callL {base : Nat} (X : zFx C cc nL own rm ret) (Y : zFlw C base) {hh : List (Nat × Nat × Nat × Nat)} {r0 : Int32} (hM : ∀ base sz, Met (zcl C) y (Cond.codeWith y bytes maxL retc hh :: zW) rmc (zPL (zcD C) (zcT C) As wc wm base sz) (zQi (zcD C) r0 wm1 (zA wm sz)) mc ms (zA wm sz)) (M : zML y bytes maxL retc hh n) (hlk : Cond.methodLink own index y ∈ zW) (hd : decode cc pc = .ok (.invokestatic index, 3)) (isC : List Nat) (hC : isC.map (fun i => ws[i]?) = wc.map some) (hCn : va_nd isC = true) (isM : List Nat) (hMo : isM.map (fun i => ws[i]?) = wm.map some) (hmp : ∀ i ∈ isM, i ∈ mp) (ha : zSA wm1 wm) (hw2 : zput ws isM wm1 = ws2) (hst : st0 = As.reverse ++ st) (hn : As.length = n) (hcat : (st.map fun v => v.category).sum ≤ 8)
    (hrc : rmc.cells = mc) (hrs : rmc.slots = ms) (hroom : rmc.frames + 1 ≤ rm.frames ∧ 8 + (maxL + 11) + rmc.locals ≤ rm.locals) (hf : cells + mc ≤ rm.cells ∧ slots + ms ≤ rm.slots)
    (kk : zG C nL mp (cells + mc) (slots + ms) ws2 (pc + 3) lv (.int r0 :: st)) : zG C nL mp cells slots ws pc lv st0 := by
  intro H locs ls hP hD hmpA hS hl
  obtain ⟨hEF, hTh, hAb, hbs, hl9, hNC⟩ := Y
  have hwA : ∀ q : Nat, zA wm H.size q → zcA C q := by
    intro q hq
    rcases hq with ⟨w, hw, hx⟩ | hq
    · obtain ⟨k, hk⟩ := List.getElem?_of_mem hw
      obtain ⟨j, h1, h2⟩ := zpl hMo hk
      exact hmpA j (hmp j (List.mem_of_getElem? h1)) _ h2 q hx
    · exact X.2.2.2.2.2.2.1 q (Nat.le_trans hS.1 hq)
  have hpre : ∀ U : State, U.heap = H → (zcs C).WarmedH U.vm → zPL (zcD C) (zcT C) As wc wm base H.size As.toArray U := fun U hU hW => ⟨⟨rfl, by rw [hU], by rw [hU]; exact zsubP hP isC hC, va_K.moved hW.alike X.2.2.2.2.2.1, zsubD hD isC hCn hC, X.2.2.2.2.2.2.2.2.2.2.warm hW, hEF.warm hW, by rw [hU]; exact (hTh.kept (fun a h1 h2 => hS.2.1 a h1 (fun h3 => h2 (hAb a h3)))).moved hW.alike, Nat.le_trans hbs hS.1, fun w hw x hx => hAb x (hwA x (Or.inl ⟨w, hw, hx⟩))⟩, hNC.warm hW⟩
  subst hst
  refine va_calli (vx_runSW (As := As) (rest := st) ⟨X.1, X.2.1, X.2.2.1, X.2.2.2.1, X.2.2.2.2.1⟩ (hM base H.size) (zcallL X.2.2.2.2.1 M hlk hrc hrs (X.2.2.2.2.2.2.2.2.1 ▸ hroom)) ⟨zPL_blind, hpre⟩ rfl hn hl.1 rfl (lv_room hcat) hd (X.2.2.2.2.2.2.2.2.1 ▸ hf)) hS (fun q _ h => hwA q h) hwA (fun r u t H1 locs1 ht hvm hw hB hz1 hk1 hS => ?_)
  cases hw
  rw [ht] at hB
  obtain ⟨hP2, hD2⟩ := zback hP hD hMo ha hw2 hk1 hB
  refine kk H1 locs1 ls hP2 hD2 (fun k hk q hq x hx => ?_) hS hl
  obtain ⟨v, he, hv⟩ := zaddr hMo ha hw2 hq
  exact hmpA k hk v he x (by rw [← hv]; exact hx)
theorem z_f2d (X : zFx C cc nL own rm ret) {x : UInt32} (hd : decode cc pc = .ok (.f2d, 1)) (hne : vf_n64 (FP.f2d x)) (kk : zG C nL mp cells slots ws (pc + 1) lv (.double (FP.f2d x) :: st)) : zG C nL mp cells slots ws pc lv (.float x :: st) := fun H locs ls h1 h2 h3 h4 hl => lv_f2d X.1 X.2.1 hd hne (kk H locs ls h1 h2 h3 h4 hl)
theorem z_dcmp_eq (X : zFx C cc nL own rm ret) {x y : UInt64} {op : CmpOp} {off : Int} {tgt : Nat} (hd0 : decode cc pc = .ok (.dcmp op, 1)) (hd : decode cc (pc + 1) = .ok (.ifCond .eq off, 3)) (ht : ((pc + 1 : Nat) : Int) + off = (tgt : Int)) (hz : Op.cmpValue (FP.dcmp x y) op = 0) (kk : zG C nL mp cells slots ws tgt lv st) : zG C nL mp cells slots ws pc lv (.double y :: .double x :: st) := fun H locs ls h1 h2 h3 h4 hl => lv_dcmp X.1 X.2.1 hd0 (lv_if_eq X.1 X.2.1 hd ht (fun _ => kk H locs ls h1 h2 h3 h4 hl) (fun h => absurd hz h))
theorem z_dald (X : zFx C cc nL own rm ret) (g j : Nat) {w : va_W} {a N : Nat} {f : Nat → UInt64} {i : Int32} (hi : zin i N = true) (hd : decode cc pc = .ok (.daload, 1)) (hg : ws[g]? = some w) (he : w[j]? = some (a, .inl (zcT C 5, N, .inr (.inr (.inr (.inl f)))))) (kk : zG C nL mp cells slots ws (pc + 1) lv (.double (f i.toNatClampNeg) :: st)) : zG C nL mp cells slots ws pc lv (.int i :: .ref a :: st) := fun H locs ls h1 h2 h3 h4 hl =>
  va_dald X.1 X.2.1 X.2.2.2.2.2.1 (h1 g _ hg) j 5 he rfl (zin_of hi) hd (kk H locs ls h1 h2 h3 h4 hl)
theorem z_dast (X : zFx C cc nL own rm ret) (g j : Nat) {w w2 : va_W} {a N : Nat} {f : Nat → UInt64} {i : Int32} {x : UInt64} (hin : zin i N = true) (hd : decode cc pc = .ok (.dastore, 1)) (hg : ws[g]? = some w) (ha : w[j]? = some (a, .inl (zcT C 5, N, .inr (.inr (.inr (.inl f)))))) (hmp : g ∈ mp) (hw2 : w.set j (a, .inl (zcT C 5, N, .inr (.inr (.inr (.inl (vf_upd f i.toNatClampNeg x)))))) = w2) (hws : ws.set g w2 = ws2) (kk : zG C nL mp cells slots ws2 (pc + 1) lv st) : zG C nL mp cells slots ws pc lv (.double x :: .int i :: .ref a :: st) := by
  intro H locs ls hP hD hM hS hl
  obtain ⟨hx, hb, -, hown, hts, hK, -, -, -, -⟩ := X
  have hin := zin_of hin
  refine W.dast hx hb (hP g _ hg j _ ha) ((hK.2 5 _ rfl).1 N (fun j => .double (f j))) (fun q => by cases q) (by show ¬ (i < 0 ∨ (arrV _ _ _).slots.size ≤ _); rw [arrV_size]; exact hin) rfl rfl hd fun H1 e z oq => ?_
  subst hws hw2
  refine kk H1 _ ls (zGP_set hP hD hg ha ((hP g _ hg).set (hD.1 g _ hg) ha ?_ oq) oq) (zGD_set hD hg (zad_set ha)) (zM_set hg (zad_set ha) hM) (hS.put z oq (hM g hmp _ hg _ (zad_mem ha))) hl
  show H1[a]? = some (vp_cell _ _)
  rw [e]
  rw [vp_cell_d, vp_cell_d, arrV_store]
  congr 2
  funext q
  by_cases hq : q = i.toNatClampNeg
  · subst hq
    simp [updV, vf_upd]
    try rfl
  · simp [updV, vf_upd, hq]
end ZLW
abbrev wU (T : Nat → ClassId) (a : Nat → Nat) (σ : zSt) : va_W := [(a 0, .inl (T 2, 1, .inr (.inl (zgb σ 0))))]
theorem zsU {T : Nat → ClassId} {a : Nat → Nat} {σ τ : zSt} : zad (wU T a σ) = zad (wU T a τ) := rfl
abbrev wUd (T : Nat → ClassId) (a : Nat → Nat) (f : Nat → UInt64) : va_W := [(a 0, .inl (T 5, 1, .inr (.inr (.inr (.inl f)))))]
theorem zsUd {T : Nat → ClassId} {a : Nat → Nat} {f g : Nat → UInt64} : zad (wUd T a f) = zad (wUd T a g) := rfl
/-- what a wrapper answers and writes -/
def zWr {α : Type} (put : α → Int64) (tab : List (String × Int32)) (r : String ⊕ α) (w : zSt) (k : Int32) (w2 : zSt) : Prop := (∃ v, r = .inr v ∧ k = 0 ∧ w2 = zsb w 0 (vp_updL (zgb w 0) ((0 : Int32)).toNatClampNeg (put v))) ∨ ∃ E, r = .inl E ∧ (E, k) ∈ tab ∧ w2 = w
def zWd (tab : List (String × Int32)) (r : String ⊕ UInt32) (f : Nat → UInt64) (k : Int32) (f2 : Nat → UInt64) : Prop := (∃ v, r = .inr v ∧ k = 0 ∧ f2 = vf_upd f ((0 : Int32)).toNatClampNeg (FP.f2d v) ∧ vf_n64 (FP.f2d v)) ∨ ∃ E, r = .inl E ∧ (E, k) ∈ tab ∧ f2 = f
theorem zll13 : Cond.classLink RL 13 "java/lang/IllegalArgumentException" ∈ zW := zW_tab (List.mem_of_getElem? (i := 747) (by decide +kernel)) (by decide +kernel)
theorem zlc13 : Cond.castable "java/lang/IllegalArgumentException" "java/lang/IllegalArgumentException" ∈ zFl := zF_tab (List.mem_of_getElem? (i := 758) (by decide +kernel)) (by decide +kernel)
theorem zll15 : Cond.classLink RL 15 "java/lang/IllegalStateException" ∈ zW := zW_tab (List.mem_of_getElem? (i := 748) (by decide +kernel)) (by decide +kernel)
theorem zlc15 : Cond.castable "java/lang/IllegalStateException" "java/lang/IllegalStateException" ∈ zFl := zF_tab (List.mem_of_getElem? (i := 828) (by decide +kernel)) (by decide +kernel)
theorem zll20 : Cond.classLink RL 20 "java/lang/IndexOutOfBoundsException" ∈ zW := zW_tab (List.mem_of_getElem? (i := 853) (by decide +kernel)) (by decide +kernel)
theorem zlc20 : Cond.castable "java/lang/IndexOutOfBoundsException" "java/lang/IndexOutOfBoundsException" ∈ zFl := zF_tab (List.mem_of_getElem? (i := 864) (by decide +kernel)) (by decide +kernel)
theorem zll33 : Cond.classLink RL 33 "java/util/NoSuchElementException" ∈ zW := zW_tab (List.mem_of_getElem? (i := 909) (by decide +kernel)) (by decide +kernel)
theorem zlc33 : Cond.castable "java/util/NoSuchElementException" "java/util/NoSuchElementException" ∈ zFl := zF_tab (List.mem_of_getElem? (i := 917) (by decide +kernel)) (by decide +kernel)
theorem zll38 : Cond.classLink RL 38 "java/lang/UnsupportedOperationException" ∈ zW := zW_tab (List.mem_of_getElem? (i := 934) (by decide +kernel)) (by decide +kernel)
theorem zlc38 : Cond.castable "java/lang/UnsupportedOperationException" "java/lang/UnsupportedOperationException" ∈ zFl := zF_tab (List.mem_of_getElem? (i := 941) (by decide +kernel)) (by decide +kernel)
