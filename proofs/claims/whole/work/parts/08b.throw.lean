/-! Methods that may throw: the judgement zGx (an exception stands at pc), the rows of throws, of calls that may throw, of ends. Written by wip/gen/mkthrow.py. -/
/-- words that stay though the rows of calls do not ask for them -/
def zFl : List Cond := tables_1.filter (fun w => w.onTables && w.keepsCast)
theorem zF_tab {w : Cond} (h : w ∈ tables_1) (hg : (w.onTables && w.keepsCast) = true) : w ∈ zFl := List.mem_filter.mpr ⟨h, hg⟩
def zEF (U : State) : Prop := (∀ w ∈ zFl, w.before #[] U = true) ∧ ∀ (own : String) (k : Nat) (tx : String), Cond.stringRef own k tx ∈ tables_1 → ∃ sa, vk_R own k tx sa U
theorem zEF.same {u U : State} (hv : u.vm = U.vm) (h : zEF u) : zEF U := by
  refine ⟨fun w hw => ?_, fun own k tx ht => ?_⟩
  · have h2 := (List.mem_filter.mp hw).2
    simp only [Bool.and_eq_true] at h2
    exact va_tabs h2.1 hv (h.1 w hw)
  · obtain ⟨sa, hs⟩ := h.2 own k tx ht
    exact ⟨sa, hs.same hv.symm⟩
theorem zEF.warm {s U : State} (hW : s.WarmedH U.vm) (h : zEF s) : zEF U := by
  refine ⟨fun w hw => ?_, fun own k tx ht => ?_⟩
  · have h2 := (List.mem_filter.mp hw).2
    simp only [Bool.and_eq_true] at h2
    have h1 : w.before #[] (s.setVm U.vm) = true := Cond.before_shiftedCast (State.Shifted.of_warmed hW) w h2.2 (h.1 w hw)
    exact va_tabs h2.1 (rfl : (s.setVm U.vm).vm = U.vm) h1
  · obtain ⟨sa, hs⟩ := h.2 own k tx ht
    exact ⟨sa, hs.warm hW⟩
/-- the two statics that a throw reads, in a cell that nothing of ours is -/
def zTh (base : Nat) (U : State) (H : Heap) : Prop := vx_Zq Bundle.tN "UNASSIGNED_STACK" Bundle.steD (fun q => base ≤ q) U H ∧ vx_Zq Bundle.tN "SUPPRESSED_SENTINEL" Bundle.listD (fun q => base ≤ q) U H
theorem zTh.moved {base : Nat} {u U : State} {H : Heap} (hv : u.vm.Alike U.vm) (h : zTh base u H) : zTh base U H := ⟨h.1.moved hv, h.2.moved hv⟩
theorem zTh.kept {base : Nat} {U : State} {H H1 : Heap} (h : zTh base U H) (hq : ∀ a : Nat, a < H.size → ¬ base ≤ a → H1[a]? = H[a]?) : zTh base U H1 := ⟨h.1.kept hq, h.2.kept hq⟩
/-- a method's start, of one that may throw -/
def zPx (D : va_G) (T : Nat → ClassId) (av : List Value) (ws gm : List va_W) (base sz : Nat) : Array Value → State → Prop := va_Pc av (fun U => U.heap.size = sz ∧ zGP D ws U.heap ∧ va_K D vwCl (zTY T) U ∧ zGD ws ∧ zEx U ∧ zEF U ∧ zTh base U U.heap ∧ base ≤ sz ∧ ∀ w ∈ gm, ∀ x ∈ zad w, base ≤ x)
theorem zPx_blind {D : va_G} {T : Nat → ClassId} {av : List Value} {ws gm : List va_W} {base sz : Nat} : FrameBlind (zPx D T av ws gm base sz) := fun a U g mk q => by
  obtain ⟨q0, q1, qP, qK, qD, qE, qF, qT, qb, qg⟩ := q
  exact ⟨q0, q1, qP, va_K.moved (u := U) (U := U.calling g mk a) (Vm.Alike.refl U.vm) qK, qD, zEx.same (u := U) (U := U.calling g mk a) rfl qE, zEF.same (u := U) (U := U.calling g mk a) rfl qF, zTh.moved (u := U) (U := U.calling g mk a) (Vm.Alike.refl U.vm) qT, qb, qg⟩
/-- what a walk that may throw stands on besides -/
def zFy (C : zCtx) (base : Nat) : Prop := zEF (zcs C) ∧ zTh base (zcs C) (zcs C).heap ∧ (∀ q : Nat, zcA C q → base ≤ q) ∧ base ≤ (zcs C).heap.size ∧ (zcl C).stackTraces = false ∧ ∀ x ∈ (zcc C).exceptionTable.toList, False
/-- an exception of the class E stands at pc -/
def zGx (C : zCtx) (nL : Nat) (mp : List Nat) (cells slots : Nat) (gs : List va_W) (pc : Nat) (lv : List (Nat × Value)) (E : String) : Prop :=
  ∀ (H : Heap) (locs : List Loc) (ls : Array Slot) (ce : Cell) (q : Addr) (rest : List Value), zGP (zcD C) gs H → zGD gs → (∀ k ∈ mp, ∀ w : va_W, gs[k]? = some w → ∀ x ∈ zad w, zcA C x) → va_S (zcA C) (zcs C).heap H locs → lv_has ls nL lv → H[q]? = some ce → ce.vm = .none → (zcs C).vm.findClass E = some ce.cls →
    vx_W (zcp C) (zcl C) (zce C) (zcR C) (zcs C) (zcm C) (zca C) (zcb C) (zcM C) (zcc C) H locs cells slots (zcQ C) (F0 (zcm C) pc ls rest) q
theorem z_wid {C : zCtx} {nL : Nat} {mp : List Nat} {cells slots c2 s2 : Nat} {ws : List va_W} {pc : Nat} {lv : List (Nat × Value)} {st : List Value} (h1 : cells ≤ c2) (h2 : slots ≤ s2) (kk : zG C nL mp c2 s2 ws pc lv st) : zG C nL mp cells slots ws pc lv st := fun H locs ls g1 g2 g3 g4 hl => W.widen h1 h2 (kk H locs ls g1 g2 g3 g4 hl)
theorem zsum_l {α β γ : Type} {f : α → Option γ} {g : β → Option γ} {x : α ⊕ β} {o : γ} {a : α} (h : Sum.elim f g x = some o) (e : x = .inl a) : f a = some o := by rw [e] at h; exact h
theorem zsum_r {α β γ : Type} {f : α → Option γ} {g : β → Option γ} {x : α ⊕ β} {o : γ} {a : β} (h : Sum.elim f g x = some o) (e : x = .inr a) : g a = some o := by rw [e] at h; exact h
abbrev zQxi (D : va_G) (o : String ⊕ Int32) (gm1 : List va_W) (A : Nat → Prop) : Array Value → State → Outcome → State → Prop := va_Qi (fun r (_ : Unit) => o = .inr r) (fun _ t => zGP D gm1 t.heap) A
abbrev zXxi (D : va_G) (o : String ⊕ Int32) (gm1 : List va_W) (A : Nat → Prop) : String → State → State → Prop := vx_X (fun (_ : Unit) => True) (fun E (_ : Unit) t => o = .inl E ∧ zGP D gm1 t.heap) A
def zXi (C : zCtx) (o : String ⊕ Int32) (gm1 : List va_W) (mc ms : Nat) : Prop := zcQ C = vx_MQ (zcb C) (zQxi (zcD C) o gm1 (zcA C)) (zXxi (zcD C) o gm1 (zcA C)) (zca C) (zcs C) mc ms (zcA C)
abbrev zQxl (D : va_G) (o : String ⊕ Int64) (gm1 : List va_W) (A : Nat → Prop) : Array Value → State → Outcome → State → Prop := va_Ql (fun r (_ : Unit) => o = .inr r) (fun _ t => zGP D gm1 t.heap) A
abbrev zXxl (D : va_G) (o : String ⊕ Int64) (gm1 : List va_W) (A : Nat → Prop) : String → State → State → Prop := vx_X (fun (_ : Unit) => True) (fun E (_ : Unit) t => o = .inl E ∧ zGP D gm1 t.heap) A
def zXl (C : zCtx) (o : String ⊕ Int64) (gm1 : List va_W) (mc ms : Nat) : Prop := zcQ C = vx_MQ (zcb C) (zQxl (zcD C) o gm1 (zcA C)) (zXxl (zcD C) o gm1 (zcA C)) (zca C) (zcs C) mc ms (zcA C)
abbrev zQxf (D : va_G) (o : String ⊕ UInt32) (gm1 : List va_W) (A : Nat → Prop) : Array Value → State → Outcome → State → Prop := va_Qf (fun r (_ : Unit) => o = .inr r) (fun _ t => zGP D gm1 t.heap) A
abbrev zXxf (D : va_G) (o : String ⊕ UInt32) (gm1 : List va_W) (A : Nat → Prop) : String → State → State → Prop := vx_X (fun (_ : Unit) => True) (fun E (_ : Unit) t => o = .inl E ∧ zGP D gm1 t.heap) A
def zXf (C : zCtx) (o : String ⊕ UInt32) (gm1 : List va_W) (mc ms : Nat) : Prop := zcQ C = vx_MQ (zcb C) (zQxf (zcD C) o gm1 (zcA C)) (zXxf (zcD C) o gm1 (zcA C)) (zca C) (zcs C) mc ms (zcA C)
abbrev zQxv (D : va_G) (o : String ⊕ Unit) (gm1 : List va_W) (A : Nat → Prop) : Array Value → State → Outcome → State → Prop := va_Qv (fun (_ : Unit) => o = .inr ()) (fun _ t => zGP D gm1 t.heap) A
abbrev zXxv (D : va_G) (o : String ⊕ Unit) (gm1 : List va_W) (A : Nat → Prop) : String → State → State → Prop := vx_X (fun (_ : Unit) => True) (fun E (_ : Unit) t => o = .inl E ∧ zGP D gm1 t.heap) A
def zXv (C : zCtx) (o : String ⊕ Unit) (gm1 : List va_W) (mc ms : Nat) : Prop := zcQ C = vx_MQ (zcb C) (zQxv (zcD C) o gm1 (zcA C)) (zXxv (zcD C) o gm1 (zcA C)) (zca C) (zcs C) mc ms (zcA C)
/-- what the tables say of a throw: the class, its words, of what kind they are -/
def zAt (own : String) (ik ic : Nat) (cls : String) (names : List String) : Prop := (Bundle.fit cls = true ∧ ∀ n ∈ names, Bundle.fit n = true) ∧ Cond.classLink own ik cls ∈ zW ∧ Cond.initialized cls ∈ zW ∧ (∀ w ∈ vx_atS own ic cls names, w ∈ zFl) ∧ ∀ w ∈ Cond.classLink own ik cls :: Cond.initialized cls :: vx_atS own ic cls names, vx_ot w = true
section ZX
variable {C : zCtx} {cc : ByteArray} {nL : Nat} {own : String} {rm : Room} {ret : Option FieldType} {mp : List Nat} {cells slots : Nat} {ws ws2 : List va_W} {pc : Nat} {lv : List (Nat × Value)} {st st0 : List Value}
theorem z_xiret (X : zFx C cc nL own rm (some .int)) {v : Int32} {o : String ⊕ Int32} {gm1 : List va_W} {mc ms : Nat} (hQ : zXi C o gm1 mc ms) (hd : decode cc pc = .ok (.ireturn, 1)) (ho : o = .inr v) (isM : List Nat) (hm : isM.map (fun i => ws[i]?) = gm1.map some) (hmc : cells ≤ mc) (hms : slots ≤ ms) : zG C nL mp cells slots ws pc lv [.int v] := by
  intro H locs ls hP hD hM hS hl
  unfold zWW
  rw [hQ]
  have hlocks := X.2.2.2.2.2.2.2.1
  refine vx_ret ?_
  refine W.widen hmc hms ?_
  exact W.iret X.1 X.2.1 X.2.2.2.2.2.2.2.2.2.1 (fun t ht hW => ⟨⟨v, (), rfl, ho, (by show zGP (zcD C) gm1 t.heap; rw [ht]; exact zsubP hP isM hm)⟩, hS.F ht⟩) hS.2.2 hd
theorem z_xnret {ty : FieldType} (X : zFx C cc nL own rm (some ty)) {v : Int32} {o : String ⊕ Int32} {gm1 : List va_W} {mc ms : Nat} (hQ : zXi C o gm1 mc ms) (hn : znar ty v = true) (hd : decode cc pc = .ok (.ireturn, 1)) (ho : o = .inr v) (isM : List Nat) (hm : isM.map (fun i => ws[i]?) = gm1.map some) (hmc : cells ≤ mc) (hms : slots ≤ ms) : zG C nL mp cells slots ws pc lv [.int v] := by
  intro H locs ls hP hD hM hS hl
  unfold zWW
  rw [hQ]
  have hlocks := X.2.2.2.2.2.2.2.1
  refine vx_ret ?_
  refine W.widen hmc hms ?_
  exact W.zret X.1 X.2.1 X.2.2.2.2.2.2.2.2.2.1 (znar_of hn).1 (fun t ht hW => ⟨⟨v, (), rfl, ho, (by show zGP (zcD C) gm1 t.heap; rw [ht]; exact zsubP hP isM hm)⟩, hS.F ht⟩) hS.2.2 hd
theorem z_xlret (X : zFx C cc nL own rm (some .long)) {v : Int64} {o : String ⊕ Int64} {gm1 : List va_W} {mc ms : Nat} (hQ : zXl C o gm1 mc ms) (hd : decode cc pc = .ok (.lreturn, 1)) (ho : o = .inr v) (isM : List Nat) (hm : isM.map (fun i => ws[i]?) = gm1.map some) (hmc : cells ≤ mc) (hms : slots ≤ ms) : zG C nL mp cells slots ws pc lv [.long v] := by
  intro H locs ls hP hD hM hS hl
  unfold zWW
  rw [hQ]
  have hlocks := X.2.2.2.2.2.2.2.1
  refine vx_ret ?_
  refine W.widen hmc hms ?_
  exact W.lret X.1 X.2.1 X.2.2.2.2.2.2.2.2.2.1 (fun t ht hW => ⟨⟨v, (), rfl, ho, (by show zGP (zcD C) gm1 t.heap; rw [ht]; exact zsubP hP isM hm)⟩, hS.F ht⟩) hS.2.2 hd
theorem z_xfret (X : zFx C cc nL own rm (some .float)) {v : UInt32} {o : String ⊕ UInt32} {gm1 : List va_W} {mc ms : Nat} (hQ : zXf C o gm1 mc ms) (hd : decode cc pc = .ok (.freturn, 1)) (ho : o = .inr v) (isM : List Nat) (hm : isM.map (fun i => ws[i]?) = gm1.map some) (hmc : cells ≤ mc) (hms : slots ≤ ms) : zG C nL mp cells slots ws pc lv [.float v] := by
  intro H locs ls hP hD hM hS hl
  unfold zWW
  rw [hQ]
  have hlocks := X.2.2.2.2.2.2.2.1
  refine vx_ret ?_
  refine W.widen hmc hms ?_
  exact W.fret X.1 X.2.1 X.2.2.2.2.2.2.2.2.2.1 (fun t ht hW => ⟨⟨v, (), rfl, ho, (by show zGP (zcD C) gm1 t.heap; rw [ht]; exact zsubP hP isM hm)⟩, hS.F ht⟩) hS.2.2 hd
theorem z_xvret (X : zFx C cc nL own rm none) {o : String ⊕ Unit} {gm1 : List va_W} {mc ms : Nat} (hQ : zXv C o gm1 mc ms) (hd : decode cc pc = .ok (.return_, 1)) (ho : o = .inr ()) (isM : List Nat) (hm : isM.map (fun i => ws[i]?) = gm1.map some) (hmc : cells ≤ mc) (hms : slots ≤ ms) : zG C nL mp cells slots ws pc lv [] := by
  intro H locs ls hP hD hM hS hl
  unfold zWW
  rw [hQ]
  have hlocks := X.2.2.2.2.2.2.2.1
  refine vx_ret ?_
  refine W.widen hmc hms ?_
  exact W.vret X.1 X.2.1 X.2.2.2.2.2.2.2.2.2.1 (fun t ht hW => ⟨⟨(), rfl, ho, (by show zGP (zcD C) gm1 t.heap; rw [ht]; exact zsubP hP isM hm)⟩, hS.F ht⟩) hS.2.2 hd
theorem z_throwi {base : Nat} (X : zFx C cc nL own rm ret) (Y : zFy C base) {o : String ⊕ Int32} {gm1 : List va_W} {mc ms : Nat} (hQ : zXi C o gm1 mc ms) {cls text : String} {names : List String} {ik is ic : Nat} (ho : o = .inl cls) (hat : zAt own ik ic cls names) (hstr : Cond.stringRef own is text ∈ tables_1) (d0 : decode cc pc = .ok (.new ik, 3)) (d3 : decode cc (pc + 3) = .ok (.dup, 1)) (d4 : decode cc (pc + 4) = .ok (.ldc is, 2)) (d6 : decode cc (pc + 6) = .ok (.invokespecial ic, 3)) (d9 : decode cc (pc + 9) = .ok (.athrow, 1)) (isM : List Nat) (hm : isM.map (fun i => ws[i]?) = gm1.map some) (hRf : names.length + 3 < rm.frames) (hRl : (([] : List Value).map fun v => v.category).sum + (13 * (names.length + 1) + 43) ≤ rm.locals) (hRc : cells + 1 ≤ rm.cells) (hRs : slots + 6 ≤ rm.slots) (hmc : cells + 1 ≤ mc) (hms : slots + 6 ≤ ms) : zG C nL mp cells slots ws pc lv [] := by
  intro H locs ls hP hD hM hS hl
  obtain ⟨hEF, hTh, hAb, hbs, hl9, hex⟩ := Y
  obtain ⟨hf, hk, hini, hw, hgd⟩ := hat
  obtain ⟨sa, hsa⟩ := hEF.2 own is text hstr
  have hR := X.2.2.2.2.2.2.2.2.1
  unfold zWW
  rw [hQ]
  refine vx_throwS (A := zcA C) (sa := sa) (names := names) X.1 X.2.1 hl9 X.2.2.2.1 hf.1 hf.2 (X.2.2.2.2.1 _ hk) (X.2.2.2.2.1 _ hini) hsa (fun w h => ?_) hgd (hTh.1.narrow hAb) (hTh.2.narrow hAb) hS (hl.1.trans X.2.2.1.symm) d0 d3 d4 d6 d9 (fun x hx => (hex x hx).elim) (by rw [hR]; exact hRf) (by rw [hR]; exact hRl) (by rw [hR]; exact hRc) (by rw [hR]; exact hRs) X.2.2.2.2.2.2.2.1 (fun t hal hsz hsame => ⟨(), trivial, ⟨ho, fun i w hi => ?_⟩, ?_⟩) hS.2.2 hmc hms
  · exact va_tabs ((Bool.and_eq_true _ _).mp (List.mem_filter.mp (hw w h)).2).1 rfl (hEF.1 w (hw w h))
  · intro n z hz
    have h1 := zsubP hP isM hm i w hi n z hz
    exact h1.kept (hsame _ h1.lt)
  · exact ⟨Nat.le_trans hS.1 hsz, fun q h1 h2 => (hsame q (Nat.lt_of_lt_of_le h1 hS.1)).trans (hS.2.1 q h1 h2)⟩
theorem z_throwWi {base : Nat} (X : zFx C cc nL own rm ret) (Y : zFy C base) {o : String ⊕ Int32} {gm1 : List va_W} {mc ms : Nat} (hQ : zXi C o gm1 mc ms) {cls text : String} {names : List String} {ik is ic : Nat} (ho : o = .inl cls) (hat : zAt own ik ic cls names) (hstr : Cond.stringRef own is text ∈ tables_1) (d0 : decode cc pc = .ok (.new ik, 3)) (d3 : decode cc (pc + 3) = .ok (.dup, 1)) (d4 : decode cc (pc + 4) = .ok (.ldc_w is, 3)) (d6 : decode cc (pc + 7) = .ok (.invokespecial ic, 3)) (d9 : decode cc (pc + 10) = .ok (.athrow, 1)) (isM : List Nat) (hm : isM.map (fun i => ws[i]?) = gm1.map some) (hRf : names.length + 3 < rm.frames) (hRl : (([] : List Value).map fun v => v.category).sum + (13 * (names.length + 1) + 43) ≤ rm.locals) (hRc : cells + 1 ≤ rm.cells) (hRs : slots + 6 ≤ rm.slots) (hmc : cells + 1 ≤ mc) (hms : slots + 6 ≤ ms) : zG C nL mp cells slots ws pc lv [] := by
  intro H locs ls hP hD hM hS hl
  obtain ⟨hEF, hTh, hAb, hbs, hl9, hex⟩ := Y
  obtain ⟨hf, hk, hini, hw, hgd⟩ := hat
  obtain ⟨sa, hsa⟩ := hEF.2 own is text hstr
  have hR := X.2.2.2.2.2.2.2.2.1
  unfold zWW
  rw [hQ]
  refine vx_throwSW (A := zcA C) (sa := sa) (names := names) X.1 X.2.1 hl9 X.2.2.2.1 hf.1 hf.2 (X.2.2.2.2.1 _ hk) (X.2.2.2.2.1 _ hini) hsa (fun w h => ?_) hgd (hTh.1.narrow hAb) (hTh.2.narrow hAb) hS (hl.1.trans X.2.2.1.symm) d0 d3 d4 d6 d9 (fun x hx => (hex x hx).elim) (by rw [hR]; exact hRf) (by rw [hR]; exact hRl) (by rw [hR]; exact hRc) (by rw [hR]; exact hRs) X.2.2.2.2.2.2.2.1 (fun t hal hsz hsame => ⟨(), trivial, ⟨ho, fun i w hi => ?_⟩, ?_⟩) hS.2.2 hmc hms
  · exact va_tabs ((Bool.and_eq_true _ _).mp (List.mem_filter.mp (hw w h)).2).1 rfl (hEF.1 w (hw w h))
  · intro n z hz
    have h1 := zsubP hP isM hm i w hi n z hz
    exact h1.kept (hsame _ h1.lt)
  · exact ⟨Nat.le_trans hS.1 hsz, fun q h1 h2 => (hsame q (Nat.lt_of_lt_of_le h1 hS.1)).trans (hS.2.1 q h1 h2)⟩
/-- not caught here -/
theorem z_xouti {base : Nat} (X : zFx C cc nL own rm ret) (Y : zFy C base) {o : String ⊕ Int32} {gm1 : List va_W} {mc ms : Nat} (hQ : zXi C o gm1 mc ms) {E : String} (ho : o = .inl E) (isM : List Nat) (hm : isM.map (fun i => ws[i]?) = gm1.map some) (hmc : cells ≤ mc) (hms : slots ≤ ms) : zGx C nL mp cells slots ws pc lv E := by
  intro H locs ls ce q rest hP hD hM hS hl hce hcv hcl
  obtain ⟨hEF, hTh, hAb, hbs, hl9, hex⟩ := Y
  rw [hQ]
  refine vx_out (fun x hx => (hex x hx).elim) X.2.2.2.2.2.2.2.1 hce hcv hcl (fun t ht hal => ⟨(), trivial, ⟨ho, ?_⟩, hS.F ht⟩) hS.2.2 hmc hms
  rw [ht]
  exact zsubP hP isM hm
theorem z_throwl {base : Nat} (X : zFx C cc nL own rm ret) (Y : zFy C base) {o : String ⊕ Int64} {gm1 : List va_W} {mc ms : Nat} (hQ : zXl C o gm1 mc ms) {cls text : String} {names : List String} {ik is ic : Nat} (ho : o = .inl cls) (hat : zAt own ik ic cls names) (hstr : Cond.stringRef own is text ∈ tables_1) (d0 : decode cc pc = .ok (.new ik, 3)) (d3 : decode cc (pc + 3) = .ok (.dup, 1)) (d4 : decode cc (pc + 4) = .ok (.ldc is, 2)) (d6 : decode cc (pc + 6) = .ok (.invokespecial ic, 3)) (d9 : decode cc (pc + 9) = .ok (.athrow, 1)) (isM : List Nat) (hm : isM.map (fun i => ws[i]?) = gm1.map some) (hRf : names.length + 3 < rm.frames) (hRl : (([] : List Value).map fun v => v.category).sum + (13 * (names.length + 1) + 43) ≤ rm.locals) (hRc : cells + 1 ≤ rm.cells) (hRs : slots + 6 ≤ rm.slots) (hmc : cells + 1 ≤ mc) (hms : slots + 6 ≤ ms) : zG C nL mp cells slots ws pc lv [] := by
  intro H locs ls hP hD hM hS hl
  obtain ⟨hEF, hTh, hAb, hbs, hl9, hex⟩ := Y
  obtain ⟨hf, hk, hini, hw, hgd⟩ := hat
  obtain ⟨sa, hsa⟩ := hEF.2 own is text hstr
  have hR := X.2.2.2.2.2.2.2.2.1
  unfold zWW
  rw [hQ]
  refine vx_throwS (A := zcA C) (sa := sa) (names := names) X.1 X.2.1 hl9 X.2.2.2.1 hf.1 hf.2 (X.2.2.2.2.1 _ hk) (X.2.2.2.2.1 _ hini) hsa (fun w h => ?_) hgd (hTh.1.narrow hAb) (hTh.2.narrow hAb) hS (hl.1.trans X.2.2.1.symm) d0 d3 d4 d6 d9 (fun x hx => (hex x hx).elim) (by rw [hR]; exact hRf) (by rw [hR]; exact hRl) (by rw [hR]; exact hRc) (by rw [hR]; exact hRs) X.2.2.2.2.2.2.2.1 (fun t hal hsz hsame => ⟨(), trivial, ⟨ho, fun i w hi => ?_⟩, ?_⟩) hS.2.2 hmc hms
  · exact va_tabs ((Bool.and_eq_true _ _).mp (List.mem_filter.mp (hw w h)).2).1 rfl (hEF.1 w (hw w h))
  · intro n z hz
    have h1 := zsubP hP isM hm i w hi n z hz
    exact h1.kept (hsame _ h1.lt)
  · exact ⟨Nat.le_trans hS.1 hsz, fun q h1 h2 => (hsame q (Nat.lt_of_lt_of_le h1 hS.1)).trans (hS.2.1 q h1 h2)⟩
theorem z_throwWl {base : Nat} (X : zFx C cc nL own rm ret) (Y : zFy C base) {o : String ⊕ Int64} {gm1 : List va_W} {mc ms : Nat} (hQ : zXl C o gm1 mc ms) {cls text : String} {names : List String} {ik is ic : Nat} (ho : o = .inl cls) (hat : zAt own ik ic cls names) (hstr : Cond.stringRef own is text ∈ tables_1) (d0 : decode cc pc = .ok (.new ik, 3)) (d3 : decode cc (pc + 3) = .ok (.dup, 1)) (d4 : decode cc (pc + 4) = .ok (.ldc_w is, 3)) (d6 : decode cc (pc + 7) = .ok (.invokespecial ic, 3)) (d9 : decode cc (pc + 10) = .ok (.athrow, 1)) (isM : List Nat) (hm : isM.map (fun i => ws[i]?) = gm1.map some) (hRf : names.length + 3 < rm.frames) (hRl : (([] : List Value).map fun v => v.category).sum + (13 * (names.length + 1) + 43) ≤ rm.locals) (hRc : cells + 1 ≤ rm.cells) (hRs : slots + 6 ≤ rm.slots) (hmc : cells + 1 ≤ mc) (hms : slots + 6 ≤ ms) : zG C nL mp cells slots ws pc lv [] := by
  intro H locs ls hP hD hM hS hl
  obtain ⟨hEF, hTh, hAb, hbs, hl9, hex⟩ := Y
  obtain ⟨hf, hk, hini, hw, hgd⟩ := hat
  obtain ⟨sa, hsa⟩ := hEF.2 own is text hstr
  have hR := X.2.2.2.2.2.2.2.2.1
  unfold zWW
  rw [hQ]
  refine vx_throwSW (A := zcA C) (sa := sa) (names := names) X.1 X.2.1 hl9 X.2.2.2.1 hf.1 hf.2 (X.2.2.2.2.1 _ hk) (X.2.2.2.2.1 _ hini) hsa (fun w h => ?_) hgd (hTh.1.narrow hAb) (hTh.2.narrow hAb) hS (hl.1.trans X.2.2.1.symm) d0 d3 d4 d6 d9 (fun x hx => (hex x hx).elim) (by rw [hR]; exact hRf) (by rw [hR]; exact hRl) (by rw [hR]; exact hRc) (by rw [hR]; exact hRs) X.2.2.2.2.2.2.2.1 (fun t hal hsz hsame => ⟨(), trivial, ⟨ho, fun i w hi => ?_⟩, ?_⟩) hS.2.2 hmc hms
  · exact va_tabs ((Bool.and_eq_true _ _).mp (List.mem_filter.mp (hw w h)).2).1 rfl (hEF.1 w (hw w h))
  · intro n z hz
    have h1 := zsubP hP isM hm i w hi n z hz
    exact h1.kept (hsame _ h1.lt)
  · exact ⟨Nat.le_trans hS.1 hsz, fun q h1 h2 => (hsame q (Nat.lt_of_lt_of_le h1 hS.1)).trans (hS.2.1 q h1 h2)⟩
/-- not caught here -/
theorem z_xoutl {base : Nat} (X : zFx C cc nL own rm ret) (Y : zFy C base) {o : String ⊕ Int64} {gm1 : List va_W} {mc ms : Nat} (hQ : zXl C o gm1 mc ms) {E : String} (ho : o = .inl E) (isM : List Nat) (hm : isM.map (fun i => ws[i]?) = gm1.map some) (hmc : cells ≤ mc) (hms : slots ≤ ms) : zGx C nL mp cells slots ws pc lv E := by
  intro H locs ls ce q rest hP hD hM hS hl hce hcv hcl
  obtain ⟨hEF, hTh, hAb, hbs, hl9, hex⟩ := Y
  rw [hQ]
  refine vx_out (fun x hx => (hex x hx).elim) X.2.2.2.2.2.2.2.1 hce hcv hcl (fun t ht hal => ⟨(), trivial, ⟨ho, ?_⟩, hS.F ht⟩) hS.2.2 hmc hms
  rw [ht]
  exact zsubP hP isM hm
theorem z_throwf {base : Nat} (X : zFx C cc nL own rm ret) (Y : zFy C base) {o : String ⊕ UInt32} {gm1 : List va_W} {mc ms : Nat} (hQ : zXf C o gm1 mc ms) {cls text : String} {names : List String} {ik is ic : Nat} (ho : o = .inl cls) (hat : zAt own ik ic cls names) (hstr : Cond.stringRef own is text ∈ tables_1) (d0 : decode cc pc = .ok (.new ik, 3)) (d3 : decode cc (pc + 3) = .ok (.dup, 1)) (d4 : decode cc (pc + 4) = .ok (.ldc is, 2)) (d6 : decode cc (pc + 6) = .ok (.invokespecial ic, 3)) (d9 : decode cc (pc + 9) = .ok (.athrow, 1)) (isM : List Nat) (hm : isM.map (fun i => ws[i]?) = gm1.map some) (hRf : names.length + 3 < rm.frames) (hRl : (([] : List Value).map fun v => v.category).sum + (13 * (names.length + 1) + 43) ≤ rm.locals) (hRc : cells + 1 ≤ rm.cells) (hRs : slots + 6 ≤ rm.slots) (hmc : cells + 1 ≤ mc) (hms : slots + 6 ≤ ms) : zG C nL mp cells slots ws pc lv [] := by
  intro H locs ls hP hD hM hS hl
  obtain ⟨hEF, hTh, hAb, hbs, hl9, hex⟩ := Y
  obtain ⟨hf, hk, hini, hw, hgd⟩ := hat
  obtain ⟨sa, hsa⟩ := hEF.2 own is text hstr
  have hR := X.2.2.2.2.2.2.2.2.1
  unfold zWW
  rw [hQ]
  refine vx_throwS (A := zcA C) (sa := sa) (names := names) X.1 X.2.1 hl9 X.2.2.2.1 hf.1 hf.2 (X.2.2.2.2.1 _ hk) (X.2.2.2.2.1 _ hini) hsa (fun w h => ?_) hgd (hTh.1.narrow hAb) (hTh.2.narrow hAb) hS (hl.1.trans X.2.2.1.symm) d0 d3 d4 d6 d9 (fun x hx => (hex x hx).elim) (by rw [hR]; exact hRf) (by rw [hR]; exact hRl) (by rw [hR]; exact hRc) (by rw [hR]; exact hRs) X.2.2.2.2.2.2.2.1 (fun t hal hsz hsame => ⟨(), trivial, ⟨ho, fun i w hi => ?_⟩, ?_⟩) hS.2.2 hmc hms
  · exact va_tabs ((Bool.and_eq_true _ _).mp (List.mem_filter.mp (hw w h)).2).1 rfl (hEF.1 w (hw w h))
  · intro n z hz
    have h1 := zsubP hP isM hm i w hi n z hz
    exact h1.kept (hsame _ h1.lt)
  · exact ⟨Nat.le_trans hS.1 hsz, fun q h1 h2 => (hsame q (Nat.lt_of_lt_of_le h1 hS.1)).trans (hS.2.1 q h1 h2)⟩
theorem z_throwWf {base : Nat} (X : zFx C cc nL own rm ret) (Y : zFy C base) {o : String ⊕ UInt32} {gm1 : List va_W} {mc ms : Nat} (hQ : zXf C o gm1 mc ms) {cls text : String} {names : List String} {ik is ic : Nat} (ho : o = .inl cls) (hat : zAt own ik ic cls names) (hstr : Cond.stringRef own is text ∈ tables_1) (d0 : decode cc pc = .ok (.new ik, 3)) (d3 : decode cc (pc + 3) = .ok (.dup, 1)) (d4 : decode cc (pc + 4) = .ok (.ldc_w is, 3)) (d6 : decode cc (pc + 7) = .ok (.invokespecial ic, 3)) (d9 : decode cc (pc + 10) = .ok (.athrow, 1)) (isM : List Nat) (hm : isM.map (fun i => ws[i]?) = gm1.map some) (hRf : names.length + 3 < rm.frames) (hRl : (([] : List Value).map fun v => v.category).sum + (13 * (names.length + 1) + 43) ≤ rm.locals) (hRc : cells + 1 ≤ rm.cells) (hRs : slots + 6 ≤ rm.slots) (hmc : cells + 1 ≤ mc) (hms : slots + 6 ≤ ms) : zG C nL mp cells slots ws pc lv [] := by
  intro H locs ls hP hD hM hS hl
  obtain ⟨hEF, hTh, hAb, hbs, hl9, hex⟩ := Y
  obtain ⟨hf, hk, hini, hw, hgd⟩ := hat
  obtain ⟨sa, hsa⟩ := hEF.2 own is text hstr
  have hR := X.2.2.2.2.2.2.2.2.1
  unfold zWW
  rw [hQ]
  refine vx_throwSW (A := zcA C) (sa := sa) (names := names) X.1 X.2.1 hl9 X.2.2.2.1 hf.1 hf.2 (X.2.2.2.2.1 _ hk) (X.2.2.2.2.1 _ hini) hsa (fun w h => ?_) hgd (hTh.1.narrow hAb) (hTh.2.narrow hAb) hS (hl.1.trans X.2.2.1.symm) d0 d3 d4 d6 d9 (fun x hx => (hex x hx).elim) (by rw [hR]; exact hRf) (by rw [hR]; exact hRl) (by rw [hR]; exact hRc) (by rw [hR]; exact hRs) X.2.2.2.2.2.2.2.1 (fun t hal hsz hsame => ⟨(), trivial, ⟨ho, fun i w hi => ?_⟩, ?_⟩) hS.2.2 hmc hms
  · exact va_tabs ((Bool.and_eq_true _ _).mp (List.mem_filter.mp (hw w h)).2).1 rfl (hEF.1 w (hw w h))
  · intro n z hz
    have h1 := zsubP hP isM hm i w hi n z hz
    exact h1.kept (hsame _ h1.lt)
  · exact ⟨Nat.le_trans hS.1 hsz, fun q h1 h2 => (hsame q (Nat.lt_of_lt_of_le h1 hS.1)).trans (hS.2.1 q h1 h2)⟩
/-- not caught here -/
theorem z_xoutf {base : Nat} (X : zFx C cc nL own rm ret) (Y : zFy C base) {o : String ⊕ UInt32} {gm1 : List va_W} {mc ms : Nat} (hQ : zXf C o gm1 mc ms) {E : String} (ho : o = .inl E) (isM : List Nat) (hm : isM.map (fun i => ws[i]?) = gm1.map some) (hmc : cells ≤ mc) (hms : slots ≤ ms) : zGx C nL mp cells slots ws pc lv E := by
  intro H locs ls ce q rest hP hD hM hS hl hce hcv hcl
  obtain ⟨hEF, hTh, hAb, hbs, hl9, hex⟩ := Y
  rw [hQ]
  refine vx_out (fun x hx => (hex x hx).elim) X.2.2.2.2.2.2.2.1 hce hcv hcl (fun t ht hal => ⟨(), trivial, ⟨ho, ?_⟩, hS.F ht⟩) hS.2.2 hmc hms
  rw [ht]
  exact zsubP hP isM hm
theorem z_throwv {base : Nat} (X : zFx C cc nL own rm ret) (Y : zFy C base) {o : String ⊕ Unit} {gm1 : List va_W} {mc ms : Nat} (hQ : zXv C o gm1 mc ms) {cls text : String} {names : List String} {ik is ic : Nat} (ho : o = .inl cls) (hat : zAt own ik ic cls names) (hstr : Cond.stringRef own is text ∈ tables_1) (d0 : decode cc pc = .ok (.new ik, 3)) (d3 : decode cc (pc + 3) = .ok (.dup, 1)) (d4 : decode cc (pc + 4) = .ok (.ldc is, 2)) (d6 : decode cc (pc + 6) = .ok (.invokespecial ic, 3)) (d9 : decode cc (pc + 9) = .ok (.athrow, 1)) (isM : List Nat) (hm : isM.map (fun i => ws[i]?) = gm1.map some) (hRf : names.length + 3 < rm.frames) (hRl : (([] : List Value).map fun v => v.category).sum + (13 * (names.length + 1) + 43) ≤ rm.locals) (hRc : cells + 1 ≤ rm.cells) (hRs : slots + 6 ≤ rm.slots) (hmc : cells + 1 ≤ mc) (hms : slots + 6 ≤ ms) : zG C nL mp cells slots ws pc lv [] := by
  intro H locs ls hP hD hM hS hl
  obtain ⟨hEF, hTh, hAb, hbs, hl9, hex⟩ := Y
  obtain ⟨hf, hk, hini, hw, hgd⟩ := hat
  obtain ⟨sa, hsa⟩ := hEF.2 own is text hstr
  have hR := X.2.2.2.2.2.2.2.2.1
  unfold zWW
  rw [hQ]
  refine vx_throwS (A := zcA C) (sa := sa) (names := names) X.1 X.2.1 hl9 X.2.2.2.1 hf.1 hf.2 (X.2.2.2.2.1 _ hk) (X.2.2.2.2.1 _ hini) hsa (fun w h => ?_) hgd (hTh.1.narrow hAb) (hTh.2.narrow hAb) hS (hl.1.trans X.2.2.1.symm) d0 d3 d4 d6 d9 (fun x hx => (hex x hx).elim) (by rw [hR]; exact hRf) (by rw [hR]; exact hRl) (by rw [hR]; exact hRc) (by rw [hR]; exact hRs) X.2.2.2.2.2.2.2.1 (fun t hal hsz hsame => ⟨(), trivial, ⟨ho, fun i w hi => ?_⟩, ?_⟩) hS.2.2 hmc hms
  · exact va_tabs ((Bool.and_eq_true _ _).mp (List.mem_filter.mp (hw w h)).2).1 rfl (hEF.1 w (hw w h))
  · intro n z hz
    have h1 := zsubP hP isM hm i w hi n z hz
    exact h1.kept (hsame _ h1.lt)
  · exact ⟨Nat.le_trans hS.1 hsz, fun q h1 h2 => (hsame q (Nat.lt_of_lt_of_le h1 hS.1)).trans (hS.2.1 q h1 h2)⟩
theorem z_throwWv {base : Nat} (X : zFx C cc nL own rm ret) (Y : zFy C base) {o : String ⊕ Unit} {gm1 : List va_W} {mc ms : Nat} (hQ : zXv C o gm1 mc ms) {cls text : String} {names : List String} {ik is ic : Nat} (ho : o = .inl cls) (hat : zAt own ik ic cls names) (hstr : Cond.stringRef own is text ∈ tables_1) (d0 : decode cc pc = .ok (.new ik, 3)) (d3 : decode cc (pc + 3) = .ok (.dup, 1)) (d4 : decode cc (pc + 4) = .ok (.ldc_w is, 3)) (d6 : decode cc (pc + 7) = .ok (.invokespecial ic, 3)) (d9 : decode cc (pc + 10) = .ok (.athrow, 1)) (isM : List Nat) (hm : isM.map (fun i => ws[i]?) = gm1.map some) (hRf : names.length + 3 < rm.frames) (hRl : (([] : List Value).map fun v => v.category).sum + (13 * (names.length + 1) + 43) ≤ rm.locals) (hRc : cells + 1 ≤ rm.cells) (hRs : slots + 6 ≤ rm.slots) (hmc : cells + 1 ≤ mc) (hms : slots + 6 ≤ ms) : zG C nL mp cells slots ws pc lv [] := by
  intro H locs ls hP hD hM hS hl
  obtain ⟨hEF, hTh, hAb, hbs, hl9, hex⟩ := Y
  obtain ⟨hf, hk, hini, hw, hgd⟩ := hat
  obtain ⟨sa, hsa⟩ := hEF.2 own is text hstr
  have hR := X.2.2.2.2.2.2.2.2.1
  unfold zWW
  rw [hQ]
  refine vx_throwSW (A := zcA C) (sa := sa) (names := names) X.1 X.2.1 hl9 X.2.2.2.1 hf.1 hf.2 (X.2.2.2.2.1 _ hk) (X.2.2.2.2.1 _ hini) hsa (fun w h => ?_) hgd (hTh.1.narrow hAb) (hTh.2.narrow hAb) hS (hl.1.trans X.2.2.1.symm) d0 d3 d4 d6 d9 (fun x hx => (hex x hx).elim) (by rw [hR]; exact hRf) (by rw [hR]; exact hRl) (by rw [hR]; exact hRc) (by rw [hR]; exact hRs) X.2.2.2.2.2.2.2.1 (fun t hal hsz hsame => ⟨(), trivial, ⟨ho, fun i w hi => ?_⟩, ?_⟩) hS.2.2 hmc hms
  · exact va_tabs ((Bool.and_eq_true _ _).mp (List.mem_filter.mp (hw w h)).2).1 rfl (hEF.1 w (hw w h))
  · intro n z hz
    have h1 := zsubP hP isM hm i w hi n z hz
    exact h1.kept (hsame _ h1.lt)
  · exact ⟨Nat.le_trans hS.1 hsz, fun q h1 h2 => (hsame q (Nat.lt_of_lt_of_le h1 hS.1)).trans (hS.2.1 q h1 h2)⟩
/-- not caught here -/
theorem z_xoutv {base : Nat} (X : zFx C cc nL own rm ret) (Y : zFy C base) {o : String ⊕ Unit} {gm1 : List va_W} {mc ms : Nat} (hQ : zXv C o gm1 mc ms) {E : String} (ho : o = .inl E) (isM : List Nat) (hm : isM.map (fun i => ws[i]?) = gm1.map some) (hmc : cells ≤ mc) (hms : slots ≤ ms) : zGx C nL mp cells slots ws pc lv E := by
  intro H locs ls ce q rest hP hD hM hS hl hce hcv hcl
  obtain ⟨hEF, hTh, hAb, hbs, hl9, hex⟩ := Y
  rw [hQ]
  refine vx_out (fun x hx => (hex x hx).elim) X.2.2.2.2.2.2.2.1 hce hcv hcl (fun t ht hal => ⟨(), trivial, ⟨ho, ?_⟩, hS.F ht⟩) hS.2.2 hmc hms
  rw [ht]
  exact zsubP hP isM hm
end ZX
theorem zMetXi {l : Launch} (hst : l.stackTraces = false) {y : MethodName} {cc : ByteArray} {maxL : Nat} {ret : Option FieldType} {rm : Room} {D : va_G} {T : Nat → ClassId} {av : List Value} {ws wm : (Nat → ClassId) → List va_W} {gm1 : (Nat → ClassId) → List va_W} {o : String ⊕ Int32} {mc ms : Nat} {lv0 : List (Nat × Value)} (mp : List Nat) (hy : plainName y.cls = true) (hmp : mp.map (fun i => (ws T)[i]?) = (wm T).map some) (hlen : (lg_sl av).length ≤ maxL) (hlv : lv_args 0 av = lv0)
    (body : ∀ (C : zCtx) (base : Nat), zFx C cc maxL y.cls rm ret → zFy C base → zXi C o (gm1 (zcT C)) mc ms → zG C maxL mp 0 0 (ws (zcT C)) 0 lv0 []) (base sz : Nat) :
    vx_Met l y (zws y cc maxL ret) rm (zPx D T av (ws T) (wm T) base sz) (zQxi D o (gm1 T) (zA (wm T) sz)) (zXxi D o (gm1 T) (zA (wm T) sz)) mc ms (zA (wm T) sz) := by
  refine vx_ofW (cc := cc) (maxL := maxL) (ret := ret) hy rfl ?_
  intro p e s m args below meth c s₁ B hml hex hv
  obtain ⟨rfl, hsz, hP, hK, hD0, hE0, hF0, hT0, hb0, hg0⟩ := hv
  have hx := B.exec
  have hb := B.bytes
  have hr := B.returns
  have hts := atoms_spec (ws := zws y cc maxL ret) B.pre
  have hown : s.vm.findClass y.cls = some m.cls := findClass_of_methodNamed B.named
  have hlocks := B.notSynchronized
  have hmp2 : ∀ k ∈ mp, ∀ w : va_W, (ws T)[k]? = some w → ∀ x ∈ zad w, zA (wm T) sz x := by
    intro k hk q hq x hx
    obtain ⟨j, hj⟩ := List.getElem?_of_mem hk
    have h1 : (mp.map (fun i => (ws T)[i]?))[j]? = some (some q) := by rw [List.getElem?_map, hj]; simp [hq]
    rw [hmp, List.getElem?_map] at h1
    cases hw : (wm T)[j]? with
    | none => rw [hw] at h1; cases h1
    | some z =>
      rw [hw] at h1
      have h2 : z = q := Option.some.inj (Option.some.inj h1)
      subst h2
      exact Or.inl ⟨z, List.mem_of_getElem? hw, hx⟩
  have hl := lv_entry av (n := maxL) hlen
  rw [lg_entry_eq]
  rw [hlv] at hl
  refine body (p, l, e, rm, s, m, av.toArray, below, meth, c, D, T, zA (wm T) sz, vx_MQ below (zQxi D o (gm1 T) (zA (wm T) sz)) (zXxi D o (gm1 T) (zA (wm T) sz)) av.toArray s mc ms (zA (wm T) sz)) base ⟨hx, hb, hml, hown, fun w hw => hts w (List.mem_cons_of_mem _ hw), hK, fun q hq => Or.inr (hsz ▸ hq), hlocks, rfl, hr, hE0⟩ ⟨hF0, hT0, fun q hq => ?_, hsz.symm ▸ hb0, hst, hex⟩ rfl s.heap [] _ hP hD0 hmp2 va_S.rf hl
  rcases hq with ⟨w, hw, hx⟩ | hq
  · exact hg0 w hw q hx
  · exact Nat.le_trans hb0 hq
theorem zMetXl {l : Launch} (hst : l.stackTraces = false) {y : MethodName} {cc : ByteArray} {maxL : Nat} {ret : Option FieldType} {rm : Room} {D : va_G} {T : Nat → ClassId} {av : List Value} {ws wm : (Nat → ClassId) → List va_W} {gm1 : (Nat → ClassId) → List va_W} {o : String ⊕ Int64} {mc ms : Nat} {lv0 : List (Nat × Value)} (mp : List Nat) (hy : plainName y.cls = true) (hmp : mp.map (fun i => (ws T)[i]?) = (wm T).map some) (hlen : (lg_sl av).length ≤ maxL) (hlv : lv_args 0 av = lv0)
    (body : ∀ (C : zCtx) (base : Nat), zFx C cc maxL y.cls rm ret → zFy C base → zXl C o (gm1 (zcT C)) mc ms → zG C maxL mp 0 0 (ws (zcT C)) 0 lv0 []) (base sz : Nat) :
    vx_Met l y (zws y cc maxL ret) rm (zPx D T av (ws T) (wm T) base sz) (zQxl D o (gm1 T) (zA (wm T) sz)) (zXxl D o (gm1 T) (zA (wm T) sz)) mc ms (zA (wm T) sz) := by
  refine vx_ofW (cc := cc) (maxL := maxL) (ret := ret) hy rfl ?_
  intro p e s m args below meth c s₁ B hml hex hv
  obtain ⟨rfl, hsz, hP, hK, hD0, hE0, hF0, hT0, hb0, hg0⟩ := hv
  have hx := B.exec
  have hb := B.bytes
  have hr := B.returns
  have hts := atoms_spec (ws := zws y cc maxL ret) B.pre
  have hown : s.vm.findClass y.cls = some m.cls := findClass_of_methodNamed B.named
  have hlocks := B.notSynchronized
  have hmp2 : ∀ k ∈ mp, ∀ w : va_W, (ws T)[k]? = some w → ∀ x ∈ zad w, zA (wm T) sz x := by
    intro k hk q hq x hx
    obtain ⟨j, hj⟩ := List.getElem?_of_mem hk
    have h1 : (mp.map (fun i => (ws T)[i]?))[j]? = some (some q) := by rw [List.getElem?_map, hj]; simp [hq]
    rw [hmp, List.getElem?_map] at h1
    cases hw : (wm T)[j]? with
    | none => rw [hw] at h1; cases h1
    | some z =>
      rw [hw] at h1
      have h2 : z = q := Option.some.inj (Option.some.inj h1)
      subst h2
      exact Or.inl ⟨z, List.mem_of_getElem? hw, hx⟩
  have hl := lv_entry av (n := maxL) hlen
  rw [lg_entry_eq]
  rw [hlv] at hl
  refine body (p, l, e, rm, s, m, av.toArray, below, meth, c, D, T, zA (wm T) sz, vx_MQ below (zQxl D o (gm1 T) (zA (wm T) sz)) (zXxl D o (gm1 T) (zA (wm T) sz)) av.toArray s mc ms (zA (wm T) sz)) base ⟨hx, hb, hml, hown, fun w hw => hts w (List.mem_cons_of_mem _ hw), hK, fun q hq => Or.inr (hsz ▸ hq), hlocks, rfl, hr, hE0⟩ ⟨hF0, hT0, fun q hq => ?_, hsz.symm ▸ hb0, hst, hex⟩ rfl s.heap [] _ hP hD0 hmp2 va_S.rf hl
  rcases hq with ⟨w, hw, hx⟩ | hq
  · exact hg0 w hw q hx
  · exact Nat.le_trans hb0 hq
theorem zMetXf {l : Launch} (hst : l.stackTraces = false) {y : MethodName} {cc : ByteArray} {maxL : Nat} {ret : Option FieldType} {rm : Room} {D : va_G} {T : Nat → ClassId} {av : List Value} {ws wm : (Nat → ClassId) → List va_W} {gm1 : (Nat → ClassId) → List va_W} {o : String ⊕ UInt32} {mc ms : Nat} {lv0 : List (Nat × Value)} (mp : List Nat) (hy : plainName y.cls = true) (hmp : mp.map (fun i => (ws T)[i]?) = (wm T).map some) (hlen : (lg_sl av).length ≤ maxL) (hlv : lv_args 0 av = lv0)
    (body : ∀ (C : zCtx) (base : Nat), zFx C cc maxL y.cls rm ret → zFy C base → zXf C o (gm1 (zcT C)) mc ms → zG C maxL mp 0 0 (ws (zcT C)) 0 lv0 []) (base sz : Nat) :
    vx_Met l y (zws y cc maxL ret) rm (zPx D T av (ws T) (wm T) base sz) (zQxf D o (gm1 T) (zA (wm T) sz)) (zXxf D o (gm1 T) (zA (wm T) sz)) mc ms (zA (wm T) sz) := by
  refine vx_ofW (cc := cc) (maxL := maxL) (ret := ret) hy rfl ?_
  intro p e s m args below meth c s₁ B hml hex hv
  obtain ⟨rfl, hsz, hP, hK, hD0, hE0, hF0, hT0, hb0, hg0⟩ := hv
  have hx := B.exec
  have hb := B.bytes
  have hr := B.returns
  have hts := atoms_spec (ws := zws y cc maxL ret) B.pre
  have hown : s.vm.findClass y.cls = some m.cls := findClass_of_methodNamed B.named
  have hlocks := B.notSynchronized
  have hmp2 : ∀ k ∈ mp, ∀ w : va_W, (ws T)[k]? = some w → ∀ x ∈ zad w, zA (wm T) sz x := by
    intro k hk q hq x hx
    obtain ⟨j, hj⟩ := List.getElem?_of_mem hk
    have h1 : (mp.map (fun i => (ws T)[i]?))[j]? = some (some q) := by rw [List.getElem?_map, hj]; simp [hq]
    rw [hmp, List.getElem?_map] at h1
    cases hw : (wm T)[j]? with
    | none => rw [hw] at h1; cases h1
    | some z =>
      rw [hw] at h1
      have h2 : z = q := Option.some.inj (Option.some.inj h1)
      subst h2
      exact Or.inl ⟨z, List.mem_of_getElem? hw, hx⟩
  have hl := lv_entry av (n := maxL) hlen
  rw [lg_entry_eq]
  rw [hlv] at hl
  refine body (p, l, e, rm, s, m, av.toArray, below, meth, c, D, T, zA (wm T) sz, vx_MQ below (zQxf D o (gm1 T) (zA (wm T) sz)) (zXxf D o (gm1 T) (zA (wm T) sz)) av.toArray s mc ms (zA (wm T) sz)) base ⟨hx, hb, hml, hown, fun w hw => hts w (List.mem_cons_of_mem _ hw), hK, fun q hq => Or.inr (hsz ▸ hq), hlocks, rfl, hr, hE0⟩ ⟨hF0, hT0, fun q hq => ?_, hsz.symm ▸ hb0, hst, hex⟩ rfl s.heap [] _ hP hD0 hmp2 va_S.rf hl
  rcases hq with ⟨w, hw, hx⟩ | hq
  · exact hg0 w hw q hx
  · exact Nat.le_trans hb0 hq
theorem zMetXv {l : Launch} (hst : l.stackTraces = false) {y : MethodName} {cc : ByteArray} {maxL : Nat} {ret : Option FieldType} {rm : Room} {D : va_G} {T : Nat → ClassId} {av : List Value} {ws wm : (Nat → ClassId) → List va_W} {gm1 : (Nat → ClassId) → List va_W} {o : String ⊕ Unit} {mc ms : Nat} {lv0 : List (Nat × Value)} (mp : List Nat) (hy : plainName y.cls = true) (hmp : mp.map (fun i => (ws T)[i]?) = (wm T).map some) (hlen : (lg_sl av).length ≤ maxL) (hlv : lv_args 0 av = lv0)
    (body : ∀ (C : zCtx) (base : Nat), zFx C cc maxL y.cls rm ret → zFy C base → zXv C o (gm1 (zcT C)) mc ms → zG C maxL mp 0 0 (ws (zcT C)) 0 lv0 []) (base sz : Nat) :
    vx_Met l y (zws y cc maxL ret) rm (zPx D T av (ws T) (wm T) base sz) (zQxv D o (gm1 T) (zA (wm T) sz)) (zXxv D o (gm1 T) (zA (wm T) sz)) mc ms (zA (wm T) sz) := by
  refine vx_ofW (cc := cc) (maxL := maxL) (ret := ret) hy rfl ?_
  intro p e s m args below meth c s₁ B hml hex hv
  obtain ⟨rfl, hsz, hP, hK, hD0, hE0, hF0, hT0, hb0, hg0⟩ := hv
  have hx := B.exec
  have hb := B.bytes
  have hr := B.returns
  have hts := atoms_spec (ws := zws y cc maxL ret) B.pre
  have hown : s.vm.findClass y.cls = some m.cls := findClass_of_methodNamed B.named
  have hlocks := B.notSynchronized
  have hmp2 : ∀ k ∈ mp, ∀ w : va_W, (ws T)[k]? = some w → ∀ x ∈ zad w, zA (wm T) sz x := by
    intro k hk q hq x hx
    obtain ⟨j, hj⟩ := List.getElem?_of_mem hk
    have h1 : (mp.map (fun i => (ws T)[i]?))[j]? = some (some q) := by rw [List.getElem?_map, hj]; simp [hq]
    rw [hmp, List.getElem?_map] at h1
    cases hw : (wm T)[j]? with
    | none => rw [hw] at h1; cases h1
    | some z =>
      rw [hw] at h1
      have h2 : z = q := Option.some.inj (Option.some.inj h1)
      subst h2
      exact Or.inl ⟨z, List.mem_of_getElem? hw, hx⟩
  have hl := lv_entry av (n := maxL) hlen
  rw [lg_entry_eq]
  rw [hlv] at hl
  refine body (p, l, e, rm, s, m, av.toArray, below, meth, c, D, T, zA (wm T) sz, vx_MQ below (zQxv D o (gm1 T) (zA (wm T) sz)) (zXxv D o (gm1 T) (zA (wm T) sz)) av.toArray s mc ms (zA (wm T) sz)) base ⟨hx, hb, hml, hown, fun w hw => hts w (List.mem_cons_of_mem _ hw), hK, fun q hq => Or.inr (hsz ▸ hq), hlocks, rfl, hr, hE0⟩ ⟨hF0, hT0, fun q hq => ?_, hsz.symm ▸ hb0, hst, hex⟩ rfl s.heap [] _ hP hD0 hmp2 va_S.rf hl
  rcases hq with ⟨w, hw, hx⟩ | hq
  · exact hg0 w hw q hx
  · exact Nat.le_trans hb0 hq
section ZXC
variable {C : zCtx} {cc : ByteArray} {nL : Nat} {own : String} {rm : Room} {ret : Option FieldType} {mp : List Nat} {cells slots : Nat} {ws ws2 : List va_W} {pc : Nat} {lv : List (Nat × Value)} {st st0 : List Value}
variable {y : MethodName} {bytes : ByteArray} {maxL n index mc ms : Nat} {retc : Option FieldType} {rmc : Room} {wc wm wm1 : List va_W} {As : List Value} {b : Nat}
theorem z_xcallVi {base : Nat} (X : zFx C cc nL own rm ret) (Y : zFy C base) {o : String ⊕ Int32} (hM : ∀ base sz, vx_Met (zcl C) y (zws y bytes maxL retc) rmc (zPx (zcD C) (zcT C) (.ref b :: As) wc wm base sz) (zQxi (zcD C) o wm1 (zA wm sz)) (zXxi (zcD C) o wm1 (zA wm sz)) mc ms (zA wm sz)) (M : zMV y bytes maxL retc n) (hlk : Cond.methodLink own index y ∈ zW) (hd : decode cc pc = .ok (.invokevirtual index, 3)) (g j ci : Nat) {w : va_W} {fs : List Value} {qcl : vw_C} (hg : ws[g]? = some w) (hrv : w[j]? = some (b, .inr (ci, fs))) (hcl : vwCl[ci]? = some qcl) (hyc : qcl.1 = y.cls) (isC : List Nat) (hC : isC.map (fun i => ws[i]?) = wc.map some) (hCn : va_nd isC = true) (isM : List Nat) (hMo : isM.map (fun i => ws[i]?) = wm.map some) (hmp : ∀ i ∈ isM, i ∈ mp) (ha : zSA wm1 wm) (hw2 : zput ws isM wm1 = ws2) (hst : st0 = As.reverse ++ .ref b :: st) (hn : As.length = n) (hcat : (st.map fun v => v.category).sum ≤ 8)
    (hrc : rmc.cells = mc) (hrs : rmc.slots = ms) (hroom : rmc.frames + 1 ≤ rm.frames ∧ 8 + (maxL + 11) + rmc.locals ≤ rm.locals) (hf : cells + mc ≤ rm.cells ∧ slots + ms ≤ rm.slots)
    (kx : ∀ E : String, o = .inl E → zGx C nL mp (cells + mc) (slots + ms) ws2 pc lv E) (kk : ∀ r, o = .inr r → zG C nL mp (cells + mc) (slots + ms) ws2 (pc + 3) lv (.int r :: st)) : zG C nL mp cells slots ws pc lv st0 := by
  intro H locs ls hP hD hmpA hS hl
  obtain ⟨hEF, hTh, hAb, hbs, hl9, hex⟩ := Y
  have hwA : ∀ q : Nat, zA wm H.size q → zcA C q := by
    intro q hq
    rcases hq with ⟨w, hw, hx⟩ | hq
    · obtain ⟨k, hk⟩ := List.getElem?_of_mem hw
      obtain ⟨j, h1, h2⟩ := zpl hMo hk
      exact hmpA j (hmp j (List.mem_of_getElem? h1)) _ h2 q hx
    · exact X.2.2.2.2.2.2.1 q (Nat.le_trans hS.1 hq)
  have hpre : ∀ U : State, U.heap = H → (zcs C).WarmedH U.vm → zPx (zcD C) (zcT C) (.ref b :: As) wc wm base H.size (.ref b :: As).toArray U := fun U hU hW => ⟨rfl, by rw [hU], by rw [hU]; exact zsubP hP isC hC, va_K.moved hW.alike X.2.2.2.2.2.1, zsubD hD isC hCn hC, X.2.2.2.2.2.2.2.2.2.2.warm hW, hEF.warm hW, by rw [hU]; exact (hTh.kept (fun a h1 h2 => hS.2.1 a h1 (fun h3 => h2 (hAb a h3)))).moved hW.alike, Nat.le_trans hbs hS.1, fun w hw x hx => hAb x (hwA x (Or.inl ⟨w, hw, hx⟩))⟩
  subst hst
  refine vx_calli (vx_runV (As := As) (rest := st) ⟨X.1, X.2.1, X.2.2.1, X.2.2.2.1, X.2.2.2.2.1⟩ (hM base H.size) ⟨zcallB X.2.2.2.2.1 M.1 M.2.1 hlk M.2.2.2.2 hrc hrs (X.2.2.2.2.2.2.2.2.1 ▸ hroom), X.2.2.2.2.1 _ M.2.2.1, X.2.2.2.2.1 _ M.2.2.2.1⟩ ⟨zPx_blind, hyc ▸ va_recv X.2.2.2.2.2.1 (hP g _ hg) hcl hrv, hpre⟩ rfl hn hl.1 rfl (lv_room hcat) hd (X.2.2.2.2.2.2.2.2.1 ▸ hf)) hS (fun q _ h => hwA q h) hwA (fun q _ h => hwA q h) (fun E ce q9 u t H1 locs1 ht hvm hpx hB hz1 hk1 hS1 hce hcv hcl => ?_) (fun r u t H1 locs1 ht hvm hw hB hz1 hk1 hS1 => ?_)
  · obtain ⟨hB1, hB2⟩ := hB
    rw [ht] at hB2
    obtain ⟨hP2, hD2⟩ := zback hP hD hMo ha hw2 hk1 hB2
    refine kx E hB1 H1 locs1 ls ce q9 st hP2 hD2 (fun k hk q hq x hx => ?_) hS1 hl hce hcv hcl
    obtain ⟨v, he, hv⟩ := zaddr hMo ha hw2 hq
    exact hmpA k hk v he x (by rw [← hv]; exact hx)
  · rw [ht] at hB
    obtain ⟨hP2, hD2⟩ := zback hP hD hMo ha hw2 hk1 hB
    refine kk r hw H1 locs1 ls hP2 hD2 (fun k hk q hq x hx => ?_) hS1 hl
    obtain ⟨v, he, hv⟩ := zaddr hMo ha hw2 hq
    exact hmpA k hk v he x (by rw [← hv]; exact hx)
theorem z_xcallVl {base : Nat} (X : zFx C cc nL own rm ret) (Y : zFy C base) {o : String ⊕ Int64} (hM : ∀ base sz, vx_Met (zcl C) y (zws y bytes maxL retc) rmc (zPx (zcD C) (zcT C) (.ref b :: As) wc wm base sz) (zQxl (zcD C) o wm1 (zA wm sz)) (zXxl (zcD C) o wm1 (zA wm sz)) mc ms (zA wm sz)) (M : zMV y bytes maxL retc n) (hlk : Cond.methodLink own index y ∈ zW) (hd : decode cc pc = .ok (.invokevirtual index, 3)) (g j ci : Nat) {w : va_W} {fs : List Value} {qcl : vw_C} (hg : ws[g]? = some w) (hrv : w[j]? = some (b, .inr (ci, fs))) (hcl : vwCl[ci]? = some qcl) (hyc : qcl.1 = y.cls) (isC : List Nat) (hC : isC.map (fun i => ws[i]?) = wc.map some) (hCn : va_nd isC = true) (isM : List Nat) (hMo : isM.map (fun i => ws[i]?) = wm.map some) (hmp : ∀ i ∈ isM, i ∈ mp) (ha : zSA wm1 wm) (hw2 : zput ws isM wm1 = ws2) (hst : st0 = As.reverse ++ .ref b :: st) (hn : As.length = n) (hcat : (st.map fun v => v.category).sum ≤ 8)
    (hrc : rmc.cells = mc) (hrs : rmc.slots = ms) (hroom : rmc.frames + 1 ≤ rm.frames ∧ 8 + (maxL + 11) + rmc.locals ≤ rm.locals) (hf : cells + mc ≤ rm.cells ∧ slots + ms ≤ rm.slots)
    (kx : ∀ E : String, o = .inl E → zGx C nL mp (cells + mc) (slots + ms) ws2 pc lv E) (kk : ∀ r, o = .inr r → zG C nL mp (cells + mc) (slots + ms) ws2 (pc + 3) lv (.long r :: st)) : zG C nL mp cells slots ws pc lv st0 := by
  intro H locs ls hP hD hmpA hS hl
  obtain ⟨hEF, hTh, hAb, hbs, hl9, hex⟩ := Y
  have hwA : ∀ q : Nat, zA wm H.size q → zcA C q := by
    intro q hq
    rcases hq with ⟨w, hw, hx⟩ | hq
    · obtain ⟨k, hk⟩ := List.getElem?_of_mem hw
      obtain ⟨j, h1, h2⟩ := zpl hMo hk
      exact hmpA j (hmp j (List.mem_of_getElem? h1)) _ h2 q hx
    · exact X.2.2.2.2.2.2.1 q (Nat.le_trans hS.1 hq)
  have hpre : ∀ U : State, U.heap = H → (zcs C).WarmedH U.vm → zPx (zcD C) (zcT C) (.ref b :: As) wc wm base H.size (.ref b :: As).toArray U := fun U hU hW => ⟨rfl, by rw [hU], by rw [hU]; exact zsubP hP isC hC, va_K.moved hW.alike X.2.2.2.2.2.1, zsubD hD isC hCn hC, X.2.2.2.2.2.2.2.2.2.2.warm hW, hEF.warm hW, by rw [hU]; exact (hTh.kept (fun a h1 h2 => hS.2.1 a h1 (fun h3 => h2 (hAb a h3)))).moved hW.alike, Nat.le_trans hbs hS.1, fun w hw x hx => hAb x (hwA x (Or.inl ⟨w, hw, hx⟩))⟩
  subst hst
  refine vx_calll (vx_runV (As := As) (rest := st) ⟨X.1, X.2.1, X.2.2.1, X.2.2.2.1, X.2.2.2.2.1⟩ (hM base H.size) ⟨zcallB X.2.2.2.2.1 M.1 M.2.1 hlk M.2.2.2.2 hrc hrs (X.2.2.2.2.2.2.2.2.1 ▸ hroom), X.2.2.2.2.1 _ M.2.2.1, X.2.2.2.2.1 _ M.2.2.2.1⟩ ⟨zPx_blind, hyc ▸ va_recv X.2.2.2.2.2.1 (hP g _ hg) hcl hrv, hpre⟩ rfl hn hl.1 rfl (lv_room hcat) hd (X.2.2.2.2.2.2.2.2.1 ▸ hf)) hS (fun q _ h => hwA q h) hwA (fun q _ h => hwA q h) (fun E ce q9 u t H1 locs1 ht hvm hpx hB hz1 hk1 hS1 hce hcv hcl => ?_) (fun r u t H1 locs1 ht hvm hw hB hz1 hk1 hS1 => ?_)
  · obtain ⟨hB1, hB2⟩ := hB
    rw [ht] at hB2
    obtain ⟨hP2, hD2⟩ := zback hP hD hMo ha hw2 hk1 hB2
    refine kx E hB1 H1 locs1 ls ce q9 st hP2 hD2 (fun k hk q hq x hx => ?_) hS1 hl hce hcv hcl
    obtain ⟨v, he, hv⟩ := zaddr hMo ha hw2 hq
    exact hmpA k hk v he x (by rw [← hv]; exact hx)
  · rw [ht] at hB
    obtain ⟨hP2, hD2⟩ := zback hP hD hMo ha hw2 hk1 hB
    refine kk r hw H1 locs1 ls hP2 hD2 (fun k hk q hq x hx => ?_) hS1 hl
    obtain ⟨v, he, hv⟩ := zaddr hMo ha hw2 hq
    exact hmpA k hk v he x (by rw [← hv]; exact hx)
theorem z_xcallVf {base : Nat} (X : zFx C cc nL own rm ret) (Y : zFy C base) {o : String ⊕ UInt32} (hM : ∀ base sz, vx_Met (zcl C) y (zws y bytes maxL retc) rmc (zPx (zcD C) (zcT C) (.ref b :: As) wc wm base sz) (zQxf (zcD C) o wm1 (zA wm sz)) (zXxf (zcD C) o wm1 (zA wm sz)) mc ms (zA wm sz)) (M : zMV y bytes maxL retc n) (hlk : Cond.methodLink own index y ∈ zW) (hd : decode cc pc = .ok (.invokevirtual index, 3)) (g j ci : Nat) {w : va_W} {fs : List Value} {qcl : vw_C} (hg : ws[g]? = some w) (hrv : w[j]? = some (b, .inr (ci, fs))) (hcl : vwCl[ci]? = some qcl) (hyc : qcl.1 = y.cls) (isC : List Nat) (hC : isC.map (fun i => ws[i]?) = wc.map some) (hCn : va_nd isC = true) (isM : List Nat) (hMo : isM.map (fun i => ws[i]?) = wm.map some) (hmp : ∀ i ∈ isM, i ∈ mp) (ha : zSA wm1 wm) (hw2 : zput ws isM wm1 = ws2) (hst : st0 = As.reverse ++ .ref b :: st) (hn : As.length = n) (hcat : (st.map fun v => v.category).sum ≤ 8)
    (hrc : rmc.cells = mc) (hrs : rmc.slots = ms) (hroom : rmc.frames + 1 ≤ rm.frames ∧ 8 + (maxL + 11) + rmc.locals ≤ rm.locals) (hf : cells + mc ≤ rm.cells ∧ slots + ms ≤ rm.slots)
    (kx : ∀ E : String, o = .inl E → zGx C nL mp (cells + mc) (slots + ms) ws2 pc lv E) (kk : ∀ r, o = .inr r → zG C nL mp (cells + mc) (slots + ms) ws2 (pc + 3) lv (.float r :: st)) : zG C nL mp cells slots ws pc lv st0 := by
  intro H locs ls hP hD hmpA hS hl
  obtain ⟨hEF, hTh, hAb, hbs, hl9, hex⟩ := Y
  have hwA : ∀ q : Nat, zA wm H.size q → zcA C q := by
    intro q hq
    rcases hq with ⟨w, hw, hx⟩ | hq
    · obtain ⟨k, hk⟩ := List.getElem?_of_mem hw
      obtain ⟨j, h1, h2⟩ := zpl hMo hk
      exact hmpA j (hmp j (List.mem_of_getElem? h1)) _ h2 q hx
    · exact X.2.2.2.2.2.2.1 q (Nat.le_trans hS.1 hq)
  have hpre : ∀ U : State, U.heap = H → (zcs C).WarmedH U.vm → zPx (zcD C) (zcT C) (.ref b :: As) wc wm base H.size (.ref b :: As).toArray U := fun U hU hW => ⟨rfl, by rw [hU], by rw [hU]; exact zsubP hP isC hC, va_K.moved hW.alike X.2.2.2.2.2.1, zsubD hD isC hCn hC, X.2.2.2.2.2.2.2.2.2.2.warm hW, hEF.warm hW, by rw [hU]; exact (hTh.kept (fun a h1 h2 => hS.2.1 a h1 (fun h3 => h2 (hAb a h3)))).moved hW.alike, Nat.le_trans hbs hS.1, fun w hw x hx => hAb x (hwA x (Or.inl ⟨w, hw, hx⟩))⟩
  subst hst
  refine vx_callf (vx_runV (As := As) (rest := st) ⟨X.1, X.2.1, X.2.2.1, X.2.2.2.1, X.2.2.2.2.1⟩ (hM base H.size) ⟨zcallB X.2.2.2.2.1 M.1 M.2.1 hlk M.2.2.2.2 hrc hrs (X.2.2.2.2.2.2.2.2.1 ▸ hroom), X.2.2.2.2.1 _ M.2.2.1, X.2.2.2.2.1 _ M.2.2.2.1⟩ ⟨zPx_blind, hyc ▸ va_recv X.2.2.2.2.2.1 (hP g _ hg) hcl hrv, hpre⟩ rfl hn hl.1 rfl (lv_room hcat) hd (X.2.2.2.2.2.2.2.2.1 ▸ hf)) hS (fun q _ h => hwA q h) hwA (fun q _ h => hwA q h) (fun E ce q9 u t H1 locs1 ht hvm hpx hB hz1 hk1 hS1 hce hcv hcl => ?_) (fun r u t H1 locs1 ht hvm hw hB hz1 hk1 hS1 => ?_)
  · obtain ⟨hB1, hB2⟩ := hB
    rw [ht] at hB2
    obtain ⟨hP2, hD2⟩ := zback hP hD hMo ha hw2 hk1 hB2
    refine kx E hB1 H1 locs1 ls ce q9 st hP2 hD2 (fun k hk q hq x hx => ?_) hS1 hl hce hcv hcl
    obtain ⟨v, he, hv⟩ := zaddr hMo ha hw2 hq
    exact hmpA k hk v he x (by rw [← hv]; exact hx)
  · rw [ht] at hB
    obtain ⟨hP2, hD2⟩ := zback hP hD hMo ha hw2 hk1 hB
    refine kk r hw H1 locs1 ls hP2 hD2 (fun k hk q hq x hx => ?_) hS1 hl
    obtain ⟨v, he, hv⟩ := zaddr hMo ha hw2 hq
    exact hmpA k hk v he x (by rw [← hv]; exact hx)
theorem z_xcallVv {base : Nat} (X : zFx C cc nL own rm ret) (Y : zFy C base) {o : String ⊕ Unit} (hM : ∀ base sz, vx_Met (zcl C) y (zws y bytes maxL retc) rmc (zPx (zcD C) (zcT C) (.ref b :: As) wc wm base sz) (zQxv (zcD C) o wm1 (zA wm sz)) (zXxv (zcD C) o wm1 (zA wm sz)) mc ms (zA wm sz)) (M : zMV y bytes maxL retc n) (hlk : Cond.methodLink own index y ∈ zW) (hd : decode cc pc = .ok (.invokevirtual index, 3)) (g j ci : Nat) {w : va_W} {fs : List Value} {qcl : vw_C} (hg : ws[g]? = some w) (hrv : w[j]? = some (b, .inr (ci, fs))) (hcl : vwCl[ci]? = some qcl) (hyc : qcl.1 = y.cls) (isC : List Nat) (hC : isC.map (fun i => ws[i]?) = wc.map some) (hCn : va_nd isC = true) (isM : List Nat) (hMo : isM.map (fun i => ws[i]?) = wm.map some) (hmp : ∀ i ∈ isM, i ∈ mp) (ha : zSA wm1 wm) (hw2 : zput ws isM wm1 = ws2) (hst : st0 = As.reverse ++ .ref b :: st) (hn : As.length = n) (hcat : (st.map fun v => v.category).sum ≤ 8)
    (hrc : rmc.cells = mc) (hrs : rmc.slots = ms) (hroom : rmc.frames + 1 ≤ rm.frames ∧ 8 + (maxL + 11) + rmc.locals ≤ rm.locals) (hf : cells + mc ≤ rm.cells ∧ slots + ms ≤ rm.slots)
    (kx : ∀ E : String, o = .inl E → zGx C nL mp (cells + mc) (slots + ms) ws2 pc lv E) (kk : ∀ r, o = .inr r → zG C nL mp (cells + mc) (slots + ms) ws2 (pc + 3) lv st) : zG C nL mp cells slots ws pc lv st0 := by
  intro H locs ls hP hD hmpA hS hl
  obtain ⟨hEF, hTh, hAb, hbs, hl9, hex⟩ := Y
  have hwA : ∀ q : Nat, zA wm H.size q → zcA C q := by
    intro q hq
    rcases hq with ⟨w, hw, hx⟩ | hq
    · obtain ⟨k, hk⟩ := List.getElem?_of_mem hw
      obtain ⟨j, h1, h2⟩ := zpl hMo hk
      exact hmpA j (hmp j (List.mem_of_getElem? h1)) _ h2 q hx
    · exact X.2.2.2.2.2.2.1 q (Nat.le_trans hS.1 hq)
  have hpre : ∀ U : State, U.heap = H → (zcs C).WarmedH U.vm → zPx (zcD C) (zcT C) (.ref b :: As) wc wm base H.size (.ref b :: As).toArray U := fun U hU hW => ⟨rfl, by rw [hU], by rw [hU]; exact zsubP hP isC hC, va_K.moved hW.alike X.2.2.2.2.2.1, zsubD hD isC hCn hC, X.2.2.2.2.2.2.2.2.2.2.warm hW, hEF.warm hW, by rw [hU]; exact (hTh.kept (fun a h1 h2 => hS.2.1 a h1 (fun h3 => h2 (hAb a h3)))).moved hW.alike, Nat.le_trans hbs hS.1, fun w hw x hx => hAb x (hwA x (Or.inl ⟨w, hw, hx⟩))⟩
  subst hst
  refine vx_callv (vx_runV (As := As) (rest := st) ⟨X.1, X.2.1, X.2.2.1, X.2.2.2.1, X.2.2.2.2.1⟩ (hM base H.size) ⟨zcallB X.2.2.2.2.1 M.1 M.2.1 hlk M.2.2.2.2 hrc hrs (X.2.2.2.2.2.2.2.2.1 ▸ hroom), X.2.2.2.2.1 _ M.2.2.1, X.2.2.2.2.1 _ M.2.2.2.1⟩ ⟨zPx_blind, hyc ▸ va_recv X.2.2.2.2.2.1 (hP g _ hg) hcl hrv, hpre⟩ rfl hn hl.1 rfl (lv_room hcat) hd (X.2.2.2.2.2.2.2.2.1 ▸ hf)) hS (fun q _ h => hwA q h) hwA (fun q _ h => hwA q h) (fun E ce q9 u t H1 locs1 ht hvm hpx hB hz1 hk1 hS1 hce hcv hcl => ?_) (fun u t H1 locs1 ht hvm hw hB hz1 hk1 hS1 => ?_)
  · obtain ⟨hB1, hB2⟩ := hB
    rw [ht] at hB2
    obtain ⟨hP2, hD2⟩ := zback hP hD hMo ha hw2 hk1 hB2
    refine kx E hB1 H1 locs1 ls ce q9 st hP2 hD2 (fun k hk q hq x hx => ?_) hS1 hl hce hcv hcl
    obtain ⟨v, he, hv⟩ := zaddr hMo ha hw2 hq
    exact hmpA k hk v he x (by rw [← hv]; exact hx)
  · rw [ht] at hB
    obtain ⟨hP2, hD2⟩ := zback hP hD hMo ha hw2 hk1 hB
    refine kk () hw H1 locs1 ls hP2 hD2 (fun k hk q hq x hx => ?_) hS1 hl
    obtain ⟨v, he, hv⟩ := zaddr hMo ha hw2 hq
    exact hmpA k hk v he x (by rw [← hv]; exact hx)
end ZXC
