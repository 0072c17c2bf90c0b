/-! The builder of strings (StringBuilder): statics of the JDK's, inherited fields, calls up and to the superclass. Written by wip/gen/mksb.py. -/
/-- the digits' tables -/
def zdo (j : Nat) : Value := .int (Int32.ofNat (48 + j % 10))
def zdt (j : Nat) : Value := .int (Int32.ofNat (48 + j / 10))
/-- the statics that the builder reads, in cells that nothing of ours is -/
def zSs (base : Nat) (U : State) (H : Heap) : Prop := va_Z RJ0 "COMPACT_STRINGS" "Z" (.int 1) (fun q => base ≤ q) U H ∧ va_Zq RJ3 "SIOOBE_FORMATTER" "Ljava/util/function/BiFunction;" (fun q => base ≤ q) U H ∧ (∃ t : Nat, va_Z RJ6 "DigitOnes" "[B" (.ref t) (fun q => base ≤ q) U H ∧ va_T .byte t 100 zdo (fun q => base ≤ q) U H) ∧ ∃ t : Nat, va_Z RJ6 "DigitTens" "[B" (.ref t) (fun q => base ≤ q) U H ∧ va_T .byte t 100 zdt (fun q => base ≤ q) U H
theorem zSs.moved {base : Nat} {u U : State} {H : Heap} (hv : u.vm.Alike U.vm) (h : zSs base u H) : zSs base U H := by
  obtain ⟨h1, h2, ⟨t, h3, h4⟩, ⟨t2, h5, h6⟩⟩ := h
  exact ⟨h1.moved hv, h2.moved hv, ⟨t, h3.moved hv, h4.moved hv⟩, ⟨t2, h5.moved hv, h6.moved hv⟩⟩
theorem zSs.kept {base : Nat} {U : State} {H H1 : Heap} (h : zSs base U H) (hq : ∀ a : Nat, a < H.size → ¬ base ≤ a → H1[a]? = H[a]?) : zSs base U H1 := by
  obtain ⟨h1, h2, ⟨t, h3, h4⟩, ⟨t2, h5, h6⟩⟩ := h
  exact ⟨h1.kept hq, h2.kept hq, ⟨t, h3.kept hq, h4.kept hq⟩, ⟨t2, h5.kept hq, h6.kept hq⟩⟩
def zPs (D : va_G) (T : Nat → ClassId) (av : List Value) (ws gm : List va_W) (base sz : Nat) : Array Value → State → Prop := fun a U => zPc D T av ws sz a U ∧ zSs base U U.heap ∧ base ≤ sz ∧ ∀ w ∈ gm, ∀ x ∈ zad w, base ≤ x
theorem zPs_blind {D : va_G} {T : Nat → ClassId} {av : List Value} {ws gm : List va_W} {base sz : Nat} : FrameBlind (zPs D T av ws gm base sz) := fun a U g mk q => ⟨zPc_blind a U g mk q.1, zSs.moved (u := U) (U := U.calling g mk a) (Vm.Alike.refl U.vm) q.2.1, q.2.2.1, q.2.2.2⟩
/-- what a walk that reads them stands on besides -/
def zSy (C : zCtx) (base : Nat) : Prop := zSs base (zcs C) (zcs C).heap ∧ (∀ q : Nat, zcA C q → base ≤ q) ∧ base ≤ (zcs C).heap.size

theorem zMetS {l : Launch} {y : MethodName} {cc : ByteArray} {maxL : Nat} {ret : Option FieldType} {rm : Room} {D : va_G} {T : Nat → ClassId} {av : List Value} {ws wm : (Nat → ClassId) → List va_W} {mc ms : Nat} {lv0 : List (Nat × Value)} (mp : List Nat) {Qc : va_G → (Nat → ClassId) → (Nat → Prop) → Array Value → State → Outcome → State → Prop} (hy : plainName y.cls = true) (hmp : mp.map (fun i => (ws T)[i]?) = (wm T).map some) (hlen : (lg_sl av).length ≤ maxL) (hlv : lv_args 0 av = lv0)
    (body : ∀ (C : zCtx) (base : Nat), zFx C cc maxL y.cls rm ret → zSy C base → zcQ C = MQ (zcb C) (Qc (zcD C) (zcT C) (zcA C)) (zca C) (zcs C) mc ms (zcA C) → zG C maxL mp 0 0 (ws (zcT C)) 0 lv0 []) (base sz : Nat) :
    Met l y (zws y cc maxL ret) rm (zPs D T av (ws T) (wm T) base sz) (Qc D T (zA (wm T) sz)) mc ms (zA (wm T) sz) := by
  refine Met.ofW (cc := cc) (maxL := maxL) (ret := ret) hy rfl ?_
  intro p e s m args below meth c s₁ B hml hv
  obtain ⟨⟨rfl, hsz, hP, hK, hD0, hE0⟩, hS0, hb0, hg0⟩ := hv
  have hx := B.exec
  have hb := B.bytes
  have hr := B.returns
  have hts := atoms_spec (ws := zws y cc maxL ret) B.pre
  have hown : s.vm.findClass y.cls = some m.cls := findClass_of_methodNamed B.named
  have hlocks := B.notSynchronized
  have hmp2 : ∀ k ∈ mp, ∀ w : va_W, (ws T)[k]? = some w → ∀ x ∈ zad w, zA (wm T) sz x := by
    intro k hk q hq x hx
    obtain ⟨j, hj⟩ := List.getElem?_of_mem hk
    have h1 : (mp.map (fun i => (ws T)[i]?))[j]? = some (some q) := by rw [List.getElem?_map, hj]; simp [hq]
    rw [hmp, List.getElem?_map] at h1
    cases hw : (wm T)[j]? with
    | none => rw [hw] at h1; cases h1
    | some z =>
      rw [hw] at h1
      have h2 : z = q := Option.some.inj (Option.some.inj h1)
      subst h2
      exact Or.inl ⟨z, List.mem_of_getElem? hw, hx⟩
  have hl := lv_entry av (n := maxL) hlen
  rw [lg_entry_eq]
  rw [hlv] at hl
  have hAb : ∀ q : Nat, zA (wm T) sz q → base ≤ q := fun q hq => hq.elim (fun ⟨w, hw, hx⟩ => hg0 w hw q hx) (fun h => Nat.le_trans hb0 h)
  refine body (p, l, e, rm, s, m, av.toArray, below, meth, c, D, T, zA (wm T) sz, MQ below (Qc D T (zA (wm T) sz)) av.toArray s mc ms (zA (wm T) sz)) base ⟨hx, hb, hml, hown, fun w hw => hts w (List.mem_cons_of_mem _ hw), hK, fun q hq => Or.inr (hsz ▸ hq), hlocks, rfl, hr, hE0⟩ ⟨hS0, hAb, hsz ▸ hb0⟩ rfl s.heap [] _ hP hD0 hmp2 va_S.rf hl
/-- a call of a method of a superclass, by a virtual call; by a call to the superclass -/
def zMU (own : String) (index : Nat) (y : MethodName) (bytes : ByteArray) (maxL : Nat) (ret : Option FieldType) (n : Nat) : Prop :=
  Cond.methodLink own index y ∈ zW ∧ Cond.sameMethod y.cls y.cls y.name y.desc ∈ zW ∧ Cond.instanceMethod y ∈ zW ∧ Cond.initialized y.cls ∈ zW ∧ Cond.code y bytes maxL ret ∈ zW ∧ (y.cls ≠ "java/lang/invoke/MethodHandle" ∧ y.cls ≠ "java/lang/invoke/VarHandle" ∧ (parseMethodDescriptor y.desc).map (fun d => d.parameters.length) = some n)
def zMP (own : String) (index : Nat) (y : MethodName) (bytes : ByteArray) (maxL : Nat) (ret : Option FieldType) (n : Nat) : Prop :=
  Cond.methodLink own index y ∈ zW ∧ Cond.sameMethod y.cls y.cls y.name y.desc ∈ zW ∧ Cond.superclass own y.cls ∈ zW ∧ Cond.instanceMethod y ∈ zW ∧ Cond.initialized y.cls ∈ zW ∧ Cond.code y bytes maxL ret ∈ zW ∧ (y.name ≠ "<init>" ∧ (parseMethodDescriptor y.desc).map (fun d => d.parameters.length) = some n)
theorem zMP_good {own : String} {index : Nat} {y : MethodName} {bytes : ByteArray} {maxL : Nat} {ret : Option FieldType} {n : Nat} (M : zMP own index y bytes maxL ret n) : GoodIn zW (va_wsSU own index y (zws y bytes maxL ret)) := by
  intro w hw
  rcases List.mem_append.mp hw with h | h
  · have h2 : w ∈ zW := by
      simp only [List.mem_cons, List.mem_nil_iff, or_false] at h
      rcases h with rfl | rfl | rfl | rfl | rfl
      · exact M.1
      · exact M.2.1
      · exact M.2.2.1
      · exact M.2.2.2.1
      · exact M.2.2.2.2.1
    exact ⟨h2, zW_good h2⟩
  · exact zgood M.2.2.2.2.2.1 w h
theorem zcU {R : Room} {s : State} {args : Array Value} {own CR : String} {index : Nat} {y : MethodName} {bytes : ByteArray} {maxL : Nat} {ret : Option FieldType} {rmc : Room} {mc ms n : Nat} (hts : ∀ w ∈ zW, w.before args s = true) (M : zMU own index y bytes maxL ret n) (hsel : (Cond.selects CR y y).before args s = true) (hrc : rmc.cells = mc) (hrs : rmc.slots = ms) (hR : rmc.frames + 1 ≤ R.frames ∧ 8 + (maxL + 11) + rmc.locals ≤ R.locals) : va_CU R s args own CR y.cls index y y bytes maxL ret (zws y bytes maxL ret) rmc mc ms n := by
  obtain ⟨h1, h2, h3, h4, h5, h6, h7, h8⟩ := M
  refine ⟨⟨hrc, hrs, hR.1, hR.2, pay_in hts (zgood h5), List.mem_cons_self⟩, hts _ h5, hts _ h4, ⟨h6, h7⟩, fun sig h => ?_, hts _ h1, hts _ h2, va_Decl.of (hts _ h3) (hts _ h5), hsel, hts _ h3⟩
  rw [h] at h8
  exact (Option.some.inj h8).symm
/-- a private method of a superclass is what such a call selects -/
theorem zselUp {CR : String} {y y2 : MethodName} {s : State} {args : Array Value} {n : Nat} (hy : y.cls ≠ "java/lang/invoke/MethodHandle" ∧ y.cls ≠ "java/lang/invoke/VarHandle") (hins : (Cond.instantiable CR n).before args s = true) (hpriv : (Cond.privateMethod y).before args s = true) (hinst : (Cond.instanceMethod y).before args s = true) (hinst2 : (Cond.instanceMethod y2).before args s = true) (h2 : (Cond.selects CR y2 y2).before args s = true) (hy2 : y2.cls = y.cls) : (Cond.selects CR y y).before args s = true := by
  obtain ⟨c, k, hc, hk, -, hniab, -, -⟩ := Cond.instantiable_spec hins
  have hni : k.isInterface = false := (Bool.or_eq_false_iff.mp hniab).1
  obtain ⟨mk, methM, hnamed, hmethM, -, -⟩ := Cond.instanceMethod_spec hinst
  have hfound : s.methodFound? y.cls y.name y.desc = some mk := State.methodFound?_of_named hnamed hy
  have hsel : selectMethod {} s.vm c mk = .method mk := selectMethod_private hmethM (Cond.privateMethod_at hpriv mk methM hnamed hmethM)
  simp only [Cond.before, Cond.holds, Cond.value, hc, hfound, hnamed, hsel, hk]
  obtain ⟨mk2, methM2, hnamed2, hmethM2, -, -⟩ := Cond.instanceMethod_spec hinst2
  have hfound2 : s.methodFound? y2.cls y2.name y2.desc = some mk2 := State.methodFound?_of_named hnamed2 (by rw [hy2]; exact hy)
  have hcls : mk2.cls = mk.cls := by
    have e1 := findClass_of_methodNamed hnamed
    have e2 := findClass_of_methodNamed hnamed2
    rw [hy2, e1] at e2
    exact (Option.some.inj e2).symm
  simp only [Cond.before, Cond.holds, Cond.value, hc, hfound2, hnamed2] at h2
  simp
  rw [← hcls]
  cases hs2 : selectMethod {} s.vm c mk2 with
  | method q => simp [hs2] at h2; exact h2.2
  | _ => simp [hs2] at h2

section ZSB
variable {C : zCtx} {cc : ByteArray} {nL : Nat} {own : String} {rm : Room} {ret : Option FieldType} {mp : List Nat} {cells slots : Nat} {ws ws2 : List va_W} {pc : Nat} {lv : List (Nat × Value)} {st st0 : List Value}
variable {y : MethodName} {bytes : ByteArray} {maxL n index mc ms : Nat} {retc : Option FieldType} {rmc : Room} {wc wm wm1 : List va_W} {As : List Value} {b : Nat} {base : Nat}
theorem z_gets (X : zFx C cc nL own rm ret) (Y : zSy C base) {CC nn dd : String} {v : Value} {index : Nat} (hZ : va_Z CC nn dd v (fun q => base ≤ q) (zcs C) (zcs C).heap) (hlink : Cond.fieldLink own index CC nn dd ∈ zW) (hd : decode cc pc = .ok (.getstatic index, 3)) (kk : zG C nL mp cells slots ws (pc + 3) lv (v :: st)) : zG C nL mp cells slots ws pc lv st := fun H locs ls h1 h2 h3 h4 hl => va_gets X.1 X.2.1 (ref := CC) (hZ.narrow Y.2.1) h4 X.2.2.2.1 (X.2.2.2.2.1 _ hlink) (fun _ h => h) hd (kk H locs ls h1 h2 h3 h4 hl)
theorem z_tb (X : zFx C cc nL own rm ret) (Y : zSy C base) {t N : Nat} {f : Nat → Value} {i : Int32} {v : Value} (hT : va_T .byte t N f (fun q => base ≤ q) (zcs C) (zcs C).heap) (hi : zin i N = true) (hv : f i.toNatClampNeg = v) (hd : decode cc pc = .ok (.baload, 1)) (kk : zG C nL mp cells slots ws (pc + 1) lv (v :: st)) : zG C nL mp cells slots ws pc lv (.int i :: .ref t :: st) := fun H locs ls h1 h2 h3 h4 hl => va_tb X.1 X.2.1 (hT.narrow Y.2.1) h4 (zin_of hi) hv hd (kk H locs ls h1 h2 h3 h4 hl)
theorem z_i2b (X : zFx C cc nL own rm ret) {x : Int32} (hd : decode cc pc = .ok (.i2b, 1)) (kk : zG C nL mp cells slots ws (pc + 1) lv (.int x.toInt8.toInt32 :: st)) : zG C nL mp cells slots ws pc lv (.int x :: st) := fun H locs ls h1 h2 h3 h4 hl => lv_i2b X.1 X.2.1 hd rfl (kk H locs ls h1 h2 h3 h4 hl)
theorem z_dup_x1 (X : zFx C cc nL own rm ret) {va vb : Value} (hd : decode cc pc = .ok (.dup_x1, 1)) (hva : va.category = 1) (hvb : vb.category = 1) (kk : zG C nL mp cells slots ws (pc + 1) lv (va :: vb :: va :: st)) : zG C nL mp cells slots ws pc lv (va :: vb :: st) := fun H locs ls h1 h2 h3 h4 hl => lv_dup_x1 X.1 X.2.1 hd hva hvb (kk H locs ls h1 h2 h3 h4 hl)
theorem z_mmin (X : zFx C cc nL own rm ret) {x y v : Int32} (hlink : Cond.methodLink own index Lib.Math.min.name ∈ zW) (hstat : Cond.static Lib.Math.min.name ∈ zW) (hini : Cond.initialized "java/lang/Math" ∈ zW) (hcode : Cond.code Lib.Math.min.name Lib.Math.min.code 2 (some .int) ∈ zW) (hframes : 1 ≤ rm.frames) (hlocals : (st.map fun v => v.category).sum + 13 ≤ rm.locals) (hc : cells ≤ rm.cells) (hs : slots ≤ rm.slots) (hd : decode cc pc = .ok (.invokestatic index, 3)) (hv : (if y < x then y else x) = v) (kk : zG C nL mp cells slots ws (pc + 3) lv (.int v :: st)) : zG C nL mp cells slots ws pc lv (.int y :: .int x :: st) := by
  intro H locs ls h1 h2 h3 h4 hl
  have hR := X.2.2.2.2.2.2.2.2.1
  subst hv
  exact va_mmin X.1 X.2.1 (X.2.2.1.trans hl.1.symm) X.2.2.2.1 (X.2.2.2.2.1 _ hlink) (X.2.2.2.2.1 _ hstat) (X.2.2.2.2.1 _ hini) (X.2.2.2.2.1 _ hcode) (by rw [hR]; exact hframes) (by rw [hR]; exact hlocals) (by rw [hR]; exact hc) (by rw [hR]; exact hs) hd (kk H locs ls h1 h2 h3 h4 hl)
theorem z_getI (X : zFx C cc nL own rm ret) {CC : String} {TT : u_T} {N index : Nat} (g j ci k : Nat) {w : va_W} {a : Nat} {fs : List Value} {v : Value} (hin : ∀ w ∈ u_ws CC TT N, w ∈ zW) (hc : vwCl[ci]? = some (CC, TT, N)) (hk : k < N) (hlink : Cond.fieldLink own index (TT k).1 (TT k).2.1 (TT k).2.2.1 ∈ zW) (hd : decode cc pc = .ok (.getfield index, 3)) (hg : ws[g]? = some w) (he : w[j]? = some (a, .inr (ci, fs))) (hv : fs[k]? = some v)
    (kk : zG C nL mp cells slots ws (pc + 3) lv (v :: st)) : zG C nL mp cells slots ws pc lv (.ref a :: st) := fun H locs ls h1 h2 h3 h4 hl =>
  va_get (ci := ci) X.1 X.2.1 (ref := (TT k).1) X.2.2.2.2.1 hin X.2.2.2.1 X.2.2.2.2.2.1 (h1 g _ hg) j he hc k hk (X.2.2.2.2.1 _ hlink) (fun x h => h) hv hd (kk H locs ls h1 h2 h3 h4 hl)
theorem z_putI (X : zFx C cc nL own rm ret) {CC : String} {TT : u_T} {N index : Nat} (g j ci k : Nat) {w w2 : va_W} {a : Nat} {fs : List Value} {v : Value} (hin : ∀ w ∈ u_ws CC TT N, w ∈ zW) (hc : vwCl[ci]? = some (CC, TT, N)) (ty0 : Nat → FieldType) (hty : ∀ k, k < N → parseFieldDescriptor (TT k).2.2.1 = some (ty0 k)) (hnm : ∀ a, a < N → ∀ b, b < N → a ≠ b → (TT a).2.1 ≠ (TT b).2.1) (hk : k < N) (hlink : Cond.fieldLink own index (TT k).1 (TT k).2.1 (TT k).2.2.1 ∈ zW) (hfin : (TT k).2.2.2 = false) {ty : FieldType} (hds : parseFieldDescriptor (TT k).2.2.1 = some ty) (hn : narrow ty v = v) (hfit : fits ty v = true) (hl9 : k < fs.length) (hd : decode cc pc = .ok (.putfield index, 3)) (hg : ws[g]? = some w) (he : w[j]? = some (a, .inr (ci, fs))) (hmp : g ∈ mp) (hw2 : w.set j (a, .inr (ci, fs.set k v)) = w2) (hws : ws.set g w2 = ws2)
    (kk : zG C nL mp cells slots ws2 (pc + 3) lv st) : zG C nL mp cells slots ws pc lv (v :: .ref a :: st) := by
  intro H locs ls hP hD hM hS hl
  obtain ⟨hx, hb, -, hown, hts, hK, -, -, -, -, hXn⟩ := X
  have hap := va_apart (own := own) hts hin ty0 hty hnm hK hc
  obtain ⟨r, h1, cell, q1, q2, q3, q4⟩ := hP g _ hg j _ he
  have hr : r = (CC, TT, N) := Option.some.inj (h1.symm.trans hc)
  subst hr
  obtain ⟨hSl, hfc, kC, hkC, hkind⟩ := hK.1 ci _ hc
  obtain ⟨cf, kf, fi, f, hi, hsl⟩ := hSl k hk
  have hlay := hts _ (hin _ (u_in_lay hk))
  unfold u_lay at hlay
  rw [if_neg (by rw [hfin]; decide)] at hlay
  have hst := (u_facts hfc hkC (u_lays hts hin hk) hi).1
  have h6 := u_store hfc hkC hkind hlay hi hds hn hfit
  refine W.putK hx hb (f := f) ⟨hown, hts _ hlink, ⟨_, _, _, hi⟩, hst⟩ (by rw [q2]; exact h6) q1 q3 (by rw [hsl]; exact k2_hasslot (q4 k hk)) rfl rfl hd fun H' e1 e2 e3 => ?_
  rw [hsl] at e1 ⊢
  subst hws hw2
  exact kk H' _ ls (zGP_set hP hD hg he ((hP g _ hg).set (hD.1 g _ hg) he ⟨_, hc, t_OB.to (V := updV (vp_V fs) k v) ⟨_, e1, q2, q3, t_set q4 hap hk v⟩ (fun j _ => vp_updV_set hl9 v j)⟩ e3) e3) (zGD_set hD hg (zad_set he)) (zM_set hg (zad_set he) hM) (hS.put e2 e3 (hM g hmp _ hg _ (zad_mem he))) hl
theorem z_bast (X : zFx C cc nL own rm ret) (g j : Nat) {w w2 : va_W} {a N : Nat} {f : Nat → Int32} {i : Int32} {x : Int32} (hin : zin i N = true) (hd : decode cc pc = .ok (.bastore, 1)) (hg : ws[g]? = some w) (ha : w[j]? = some (a, .inl (zcT C 6, N, .inl f))) (hmp : g ∈ mp) (hw2 : w.set j (a, .inl (zcT C 6, N, .inl (upd f i.toNatClampNeg (vp_nar .byte x)))) = w2) (hws : ws.set g w2 = ws2) (kk : zG C nL mp cells slots ws2 (pc + 1) lv st) : zG C nL mp cells slots ws pc lv (.int x :: .int i :: .ref a :: st) := by
  intro H locs ls hP hD hM hS hl
  obtain ⟨hx, hb, -, hown, hts, hK, -, -, -, -⟩ := X
  have hin := zin_of hin
  refine W.bast hx hb (hP g _ hg j _ ha) ((hK.2 6 _ rfl).1 N (fun j => .int (f j))) (fun q => by cases q) (by show ¬ (i < 0 ∨ (arrV _ _ _).slots.size ≤ _); rw [arrV_size]; exact hin) rfl rfl hd fun H1 e z oq => ?_
  subst hws hw2
  refine kk H1 _ ls (zGP_set hP hD hg ha ((hP g _ hg).set (hD.1 g _ hg) ha ?_ oq) oq) (zGD_set hD hg (zad_set ha)) (zM_set hg (zad_set ha) hM) (hS.put z oq (hM g hmp _ hg _ (zad_mem ha))) hl
  show H1[a]? = some (vp_cell _ _)
  rw [e]
  rw [vp_cell_i, vp_cell_i, arrV_store]
  congr 2
  funext q
  by_cases hq : q = i.toNatClampNeg
  · subst hq
    simp [updV, upd, vp_nar]
    try rfl
  · simp [updV, upd, vp_nar, hq]
theorem z_bald (X : zFx C cc nL own rm ret) (g j : Nat) {w : va_W} {a N : Nat} {f : Nat → Int32} {i : Int32} (hi : zin i N = true) (hd : decode cc pc = .ok (.baload, 1)) (hg : ws[g]? = some w) (he : w[j]? = some (a, .inl (zcT C 6, N, .inl f))) (kk : zG C nL mp cells slots ws (pc + 1) lv (.int (f i.toNatClampNeg) :: st)) : zG C nL mp cells slots ws pc lv (.int i :: .ref a :: st) := fun H locs ls h1 h2 h3 h4 hl =>
  va_bald X.1 X.2.1 X.2.2.2.2.2.1 (h1 g _ hg) j 6 he rfl (zin_of hi) hd (kk H locs ls h1 h2 h3 h4 hl)
theorem zS_at (Y : zSy C base) {H : Heap} {locs : List Loc} (hS : va_S (zcA C) (zcs C).heap H locs) {U : State} (hU : U.heap = H) (hW : (zcs C).WarmedH U.vm) : zSs base U U.heap := by
  rw [hU]
  exact (Y.1.kept (fun a h1 h2 => hS.2.1 a h1 (fun h3 => h2 (Y.2.1 a h3)))).moved hW.alike
theorem z_sVi (X : zFx C cc nL own rm ret) (Y : zSy C base) {r0 : Int32} (hM : ∀ base sz, Met (zcl C) y (zws y bytes maxL retc) rmc (zPs (zcD C) (zcT C) (.ref b :: As) wc wm base sz) (zQi (zcD C) r0 wm1 (zA wm sz)) mc ms (zA wm sz)) (M : zMV y bytes maxL retc n) (hlk : Cond.methodLink own index y ∈ zW) (hd : decode cc pc = .ok (.invokevirtual index, 3)) (g j ci : Nat) {w : va_W} {fs : List Value} {qcl : vw_C} (hg : ws[g]? = some w) (hrv : w[j]? = some (b, .inr (ci, fs))) (hcl : vwCl[ci]? = some qcl) (hyc : qcl.1 = y.cls) (isC : List Nat) (hC : isC.map (fun i => ws[i]?) = wc.map some) (hCn : va_nd isC = true) (isM : List Nat) (hMo : isM.map (fun i => ws[i]?) = wm.map some) (hmp : ∀ i ∈ isM, i ∈ mp) (ha : zSA wm1 wm) (hw2 : zput ws isM wm1 = ws2) (hst : st0 = As.reverse ++ .ref b :: st) (hn : As.length = n) (hcat : (st.map fun v => v.category).sum ≤ 8)
    (hrc : rmc.cells = mc) (hrs : rmc.slots = ms) (hroom : rmc.frames + 1 ≤ rm.frames ∧ 8 + (maxL + 11) + rmc.locals ≤ rm.locals) (hf : cells + mc ≤ rm.cells ∧ slots + ms ≤ rm.slots)
    (kk : zG C nL mp (cells + mc) (slots + ms) ws2 (pc + 3) lv (.int r0 :: st)) : zG C nL mp cells slots ws pc lv st0 := by
  intro H locs ls hP hD hmpA hS hl
  have hwB : ∀ w ∈ wm, ∀ x ∈ zad w, zcA C x := by
    intro w hw x hx
    obtain ⟨k, hk⟩ := List.getElem?_of_mem hw
    obtain ⟨j, h1, h2⟩ := zpl hMo hk
    exact hmpA j (hmp j (List.mem_of_getElem? h1)) _ h2 x hx
  have hwA : ∀ q : Nat, zA wm H.size q → zcA C q := by
    intro q hq
    rcases hq with ⟨w, hw, hx⟩ | hq
    · exact hwB w hw q hx
    · exact X.2.2.2.2.2.2.1 q (Nat.le_trans hS.1 hq)
  have hpre : ∀ U : State, U.heap = H → (zcs C).WarmedH U.vm → zPs (zcD C) (zcT C) (.ref b :: As) wc wm base H.size (.ref b :: As).toArray U := fun U hU hW => ⟨⟨rfl, by rw [hU], by rw [hU]; exact zsubP hP isC hC, va_K.moved hW.alike X.2.2.2.2.2.1, zsubD hD isC hCn hC, X.2.2.2.2.2.2.2.2.2.2.warm hW⟩, zS_at Y hS hU hW, Nat.le_trans Y.2.2 hS.1, fun w hw x hx => Y.2.1 x (hwB w hw x hx)⟩
  subst hst
  refine va_calli (va_runV (As := As) (rest := st) ⟨X.1, X.2.1, X.2.2.1, X.2.2.2.1, X.2.2.2.2.1⟩ (hM base H.size) ⟨zcallB X.2.2.2.2.1 M.1 M.2.1 hlk M.2.2.2.2 hrc hrs (X.2.2.2.2.2.2.2.2.1 ▸ hroom), X.2.2.2.2.1 _ M.2.2.1, X.2.2.2.2.1 _ M.2.2.2.1⟩ ⟨zPs_blind, hyc ▸ va_recv X.2.2.2.2.2.1 (hP g _ hg) hcl hrv, hpre⟩ rfl hn hl.1 rfl (lv_room hcat) hd (X.2.2.2.2.2.2.2.2.1 ▸ hf)) hS (fun q _ h => hwA q h) hwA (fun r u t H1 locs1 ht hvm hw hB hz1 hk1 hS => ?_)
  cases hw
  rw [ht] at hB
  obtain ⟨hP2, hD2⟩ := zback hP hD hMo ha hw2 hk1 hB
  refine kk H1 locs1 ls hP2 hD2 (fun k hk q hq x hx => ?_) hS hl
  obtain ⟨v, he, hv⟩ := zaddr hMo ha hw2 hq
  exact hmpA k hk v he x (by rw [← hv]; exact hx)
theorem z_sVr (X : zFx C cc nL own rm ret) (Y : zSy C base) {r0 : Nat} (hM : ∀ base sz, Met (zcl C) y (zws y bytes maxL retc) rmc (zPs (zcD C) (zcT C) (.ref b :: As) wc wm base sz) (zQr (zcD C) r0 wm1 (zA wm sz)) mc ms (zA wm sz)) (M : zMV y bytes maxL retc n) (hlk : Cond.methodLink own index y ∈ zW) (hd : decode cc pc = .ok (.invokevirtual index, 3)) (g j ci : Nat) {w : va_W} {fs : List Value} {qcl : vw_C} (hg : ws[g]? = some w) (hrv : w[j]? = some (b, .inr (ci, fs))) (hcl : vwCl[ci]? = some qcl) (hyc : qcl.1 = y.cls) (isC : List Nat) (hC : isC.map (fun i => ws[i]?) = wc.map some) (hCn : va_nd isC = true) (isM : List Nat) (hMo : isM.map (fun i => ws[i]?) = wm.map some) (hmp : ∀ i ∈ isM, i ∈ mp) (ha : zSA wm1 wm) (hw2 : zput ws isM wm1 = ws2) (hst : st0 = As.reverse ++ .ref b :: st) (hn : As.length = n) (hcat : (st.map fun v => v.category).sum ≤ 8)
    (hrc : rmc.cells = mc) (hrs : rmc.slots = ms) (hroom : rmc.frames + 1 ≤ rm.frames ∧ 8 + (maxL + 11) + rmc.locals ≤ rm.locals) (hf : cells + mc ≤ rm.cells ∧ slots + ms ≤ rm.slots)
    (kk : zG C nL mp (cells + mc) (slots + ms) ws2 (pc + 3) lv (.ref r0 :: st)) : zG C nL mp cells slots ws pc lv st0 := by
  intro H locs ls hP hD hmpA hS hl
  have hwB : ∀ w ∈ wm, ∀ x ∈ zad w, zcA C x := by
    intro w hw x hx
    obtain ⟨k, hk⟩ := List.getElem?_of_mem hw
    obtain ⟨j, h1, h2⟩ := zpl hMo hk
    exact hmpA j (hmp j (List.mem_of_getElem? h1)) _ h2 x hx
  have hwA : ∀ q : Nat, zA wm H.size q → zcA C q := by
    intro q hq
    rcases hq with ⟨w, hw, hx⟩ | hq
    · exact hwB w hw q hx
    · exact X.2.2.2.2.2.2.1 q (Nat.le_trans hS.1 hq)
  have hpre : ∀ U : State, U.heap = H → (zcs C).WarmedH U.vm → zPs (zcD C) (zcT C) (.ref b :: As) wc wm base H.size (.ref b :: As).toArray U := fun U hU hW => ⟨⟨rfl, by rw [hU], by rw [hU]; exact zsubP hP isC hC, va_K.moved hW.alike X.2.2.2.2.2.1, zsubD hD isC hCn hC, X.2.2.2.2.2.2.2.2.2.2.warm hW⟩, zS_at Y hS hU hW, Nat.le_trans Y.2.2 hS.1, fun w hw x hx => Y.2.1 x (hwB w hw x hx)⟩
  subst hst
  refine va_callr (va_runV (As := As) (rest := st) ⟨X.1, X.2.1, X.2.2.1, X.2.2.2.1, X.2.2.2.2.1⟩ (hM base H.size) ⟨zcallB X.2.2.2.2.1 M.1 M.2.1 hlk M.2.2.2.2 hrc hrs (X.2.2.2.2.2.2.2.2.1 ▸ hroom), X.2.2.2.2.1 _ M.2.2.1, X.2.2.2.2.1 _ M.2.2.2.1⟩ ⟨zPs_blind, hyc ▸ va_recv X.2.2.2.2.2.1 (hP g _ hg) hcl hrv, hpre⟩ rfl hn hl.1 rfl (lv_room hcat) hd (X.2.2.2.2.2.2.2.2.1 ▸ hf)) hS (fun q _ h => hwA q h) hwA (fun u r t H1 locs1 ht hvm hw hB hz1 hk1 hS => ?_)
  obtain ⟨rfl, hB⟩ := hB
  rw [ht] at hB
  obtain ⟨hP2, hD2⟩ := zback hP hD hMo ha hw2 hk1 hB
  refine kk H1 locs1 ls hP2 hD2 (fun k hk q hq x hx => ?_) hS hl
  obtain ⟨v, he, hv⟩ := zaddr hMo ha hw2 hq
  exact hmpA k hk v he x (by rw [← hv]; exact hx)
theorem z_sSi (X : zFx C cc nL own rm ret) (Y : zSy C base) {r0 : Int32} (hM : ∀ base sz, Met (zcl C) y (zws y bytes maxL retc) rmc (zPs (zcD C) (zcT C) (As) wc wm base sz) (zQi (zcD C) r0 wm1 (zA wm sz)) mc ms (zA wm sz)) (M : zMS y bytes maxL retc n) (hlk : Cond.methodLink own index y ∈ zW) (hd : decode cc pc = .ok (.invokestatic index, 3)) (isC : List Nat) (hC : isC.map (fun i => ws[i]?) = wc.map some) (hCn : va_nd isC = true) (isM : List Nat) (hMo : isM.map (fun i => ws[i]?) = wm.map some) (hmp : ∀ i ∈ isM, i ∈ mp) (ha : zSA wm1 wm) (hw2 : zput ws isM wm1 = ws2) (hst : st0 = As.reverse ++ st) (hn : As.length = n) (hcat : (st.map fun v => v.category).sum ≤ 8)
    (hrc : rmc.cells = mc) (hrs : rmc.slots = ms) (hroom : rmc.frames + 1 ≤ rm.frames ∧ 8 + (maxL + 11) + rmc.locals ≤ rm.locals) (hf : cells + mc ≤ rm.cells ∧ slots + ms ≤ rm.slots)
    (kk : zG C nL mp (cells + mc) (slots + ms) ws2 (pc + 3) lv (.int r0 :: st)) : zG C nL mp cells slots ws pc lv st0 := by
  intro H locs ls hP hD hmpA hS hl
  have hwB : ∀ w ∈ wm, ∀ x ∈ zad w, zcA C x := by
    intro w hw x hx
    obtain ⟨k, hk⟩ := List.getElem?_of_mem hw
    obtain ⟨j, h1, h2⟩ := zpl hMo hk
    exact hmpA j (hmp j (List.mem_of_getElem? h1)) _ h2 x hx
  have hwA : ∀ q : Nat, zA wm H.size q → zcA C q := by
    intro q hq
    rcases hq with ⟨w, hw, hx⟩ | hq
    · exact hwB w hw q hx
    · exact X.2.2.2.2.2.2.1 q (Nat.le_trans hS.1 hq)
  have hpre : ∀ U : State, U.heap = H → (zcs C).WarmedH U.vm → zPs (zcD C) (zcT C) (As) wc wm base H.size (As).toArray U := fun U hU hW => ⟨⟨rfl, by rw [hU], by rw [hU]; exact zsubP hP isC hC, va_K.moved hW.alike X.2.2.2.2.2.1, zsubD hD isC hCn hC, X.2.2.2.2.2.2.2.2.2.2.warm hW⟩, zS_at Y hS hU hW, Nat.le_trans Y.2.2 hS.1, fun w hw x hx => Y.2.1 x (hwB w hw x hx)⟩
  subst hst
  refine va_calli (va_runS (As := As) (rest := st) ⟨X.1, X.2.1, X.2.2.1, X.2.2.2.1, X.2.2.2.2.1⟩ (hM base H.size) ⟨zcallB X.2.2.2.2.1 M.1 M.2.1 hlk M.2.2.2 hrc hrs (X.2.2.2.2.2.2.2.2.1 ▸ hroom), X.2.2.2.2.1 _ M.2.2.1⟩ ⟨zPs_blind, hpre⟩ rfl hn hl.1 rfl (lv_room hcat) hd (X.2.2.2.2.2.2.2.2.1 ▸ hf)) hS (fun q _ h => hwA q h) hwA (fun r u t H1 locs1 ht hvm hw hB hz1 hk1 hS => ?_)
  cases hw
  rw [ht] at hB
  obtain ⟨hP2, hD2⟩ := zback hP hD hMo ha hw2 hk1 hB
  refine kk H1 locs1 ls hP2 hD2 (fun k hk q hq x hx => ?_) hS hl
  obtain ⟨v, he, hv⟩ := zaddr hMo ha hw2 hq
  exact hmpA k hk v he x (by rw [← hv]; exact hx)
theorem z_sSv (X : zFx C cc nL own rm ret) (Y : zSy C base)  (hM : ∀ base sz, Met (zcl C) y (zws y bytes maxL retc) rmc (zPs (zcD C) (zcT C) (As) wc wm base sz) (zQv (zcD C) wm1 (zA wm sz)) mc ms (zA wm sz)) (M : zMS y bytes maxL retc n) (hlk : Cond.methodLink own index y ∈ zW) (hd : decode cc pc = .ok (.invokestatic index, 3)) (isC : List Nat) (hC : isC.map (fun i => ws[i]?) = wc.map some) (hCn : va_nd isC = true) (isM : List Nat) (hMo : isM.map (fun i => ws[i]?) = wm.map some) (hmp : ∀ i ∈ isM, i ∈ mp) (ha : zSA wm1 wm) (hw2 : zput ws isM wm1 = ws2) (hst : st0 = As.reverse ++ st) (hn : As.length = n) (hcat : (st.map fun v => v.category).sum ≤ 8)
    (hrc : rmc.cells = mc) (hrs : rmc.slots = ms) (hroom : rmc.frames + 1 ≤ rm.frames ∧ 8 + (maxL + 11) + rmc.locals ≤ rm.locals) (hf : cells + mc ≤ rm.cells ∧ slots + ms ≤ rm.slots)
    (kk : zG C nL mp (cells + mc) (slots + ms) ws2 (pc + 3) lv st) : zG C nL mp cells slots ws pc lv st0 := by
  intro H locs ls hP hD hmpA hS hl
  have hwB : ∀ w ∈ wm, ∀ x ∈ zad w, zcA C x := by
    intro w hw x hx
    obtain ⟨k, hk⟩ := List.getElem?_of_mem hw
    obtain ⟨j, h1, h2⟩ := zpl hMo hk
    exact hmpA j (hmp j (List.mem_of_getElem? h1)) _ h2 x hx
  have hwA : ∀ q : Nat, zA wm H.size q → zcA C q := by
    intro q hq
    rcases hq with ⟨w, hw, hx⟩ | hq
    · exact hwB w hw q hx
    · exact X.2.2.2.2.2.2.1 q (Nat.le_trans hS.1 hq)
  have hpre : ∀ U : State, U.heap = H → (zcs C).WarmedH U.vm → zPs (zcD C) (zcT C) (As) wc wm base H.size (As).toArray U := fun U hU hW => ⟨⟨rfl, by rw [hU], by rw [hU]; exact zsubP hP isC hC, va_K.moved hW.alike X.2.2.2.2.2.1, zsubD hD isC hCn hC, X.2.2.2.2.2.2.2.2.2.2.warm hW⟩, zS_at Y hS hU hW, Nat.le_trans Y.2.2 hS.1, fun w hw x hx => Y.2.1 x (hwB w hw x hx)⟩
  subst hst
  refine va_callv (va_runS (As := As) (rest := st) ⟨X.1, X.2.1, X.2.2.1, X.2.2.2.1, X.2.2.2.2.1⟩ (hM base H.size) ⟨zcallB X.2.2.2.2.1 M.1 M.2.1 hlk M.2.2.2 hrc hrs (X.2.2.2.2.2.2.2.2.1 ▸ hroom), X.2.2.2.2.1 _ M.2.2.1⟩ ⟨zPs_blind, hpre⟩ rfl hn hl.1 rfl (lv_room hcat) hd (X.2.2.2.2.2.2.2.2.1 ▸ hf)) hS (fun q _ h => hwA q h) hwA (fun u t H1 locs1 ht hvm hw hB hz1 hk1 hS => ?_)
  rw [ht] at hB
  obtain ⟨hP2, hD2⟩ := zback hP hD hMo ha hw2 hk1 hB
  refine kk H1 locs1 ls hP2 hD2 (fun k hk q hq x hx => ?_) hS hl
  obtain ⟨v, he, hv⟩ := zaddr hMo ha hw2 hq
  exact hmpA k hk v he x (by rw [← hv]; exact hx)
theorem z_sUi (X : zFx C cc nL own rm ret) (Y : zSy C base) {r0 : Int32} (hM : ∀ base sz, Met (zcl C) y (zws y bytes maxL retc) rmc (zPs (zcD C) (zcT C) (.ref b :: As) wc wm base sz) (zQi (zcD C) r0 wm1 (zA wm sz)) mc ms (zA wm sz)) {CR : String} (M : zMU own index y bytes maxL retc n) (hsel : (Cond.selects CR y y).before (zca C) (zcs C) = true) (hd : decode cc pc = .ok (.invokevirtual index, 3)) (g j ci : Nat) {w : va_W} {fs : List Value} {qcl : vw_C} (hg : ws[g]? = some w) (hrv : w[j]? = some (b, .inr (ci, fs))) (hcl : vwCl[ci]? = some qcl) (hyc : qcl.1 = CR) (isC : List Nat) (hC : isC.map (fun i => ws[i]?) = wc.map some) (hCn : va_nd isC = true) (isM : List Nat) (hMo : isM.map (fun i => ws[i]?) = wm.map some) (hmp : ∀ i ∈ isM, i ∈ mp) (ha : zSA wm1 wm) (hw2 : zput ws isM wm1 = ws2) (hst : st0 = As.reverse ++ .ref b :: st) (hn : As.length = n) (hcat : (st.map fun v => v.category).sum ≤ 8)
    (hrc : rmc.cells = mc) (hrs : rmc.slots = ms) (hroom : rmc.frames + 1 ≤ rm.frames ∧ 8 + (maxL + 11) + rmc.locals ≤ rm.locals) (hf : cells + mc ≤ rm.cells ∧ slots + ms ≤ rm.slots)
    (kk : zG C nL mp (cells + mc) (slots + ms) ws2 (pc + 3) lv (.int r0 :: st)) : zG C nL mp cells slots ws pc lv st0 := by
  intro H locs ls hP hD hmpA hS hl
  have hwB : ∀ w ∈ wm, ∀ x ∈ zad w, zcA C x := by
    intro w hw x hx
    obtain ⟨k, hk⟩ := List.getElem?_of_mem hw
    obtain ⟨j, h1, h2⟩ := zpl hMo hk
    exact hmpA j (hmp j (List.mem_of_getElem? h1)) _ h2 x hx
  have hwA : ∀ q : Nat, zA wm H.size q → zcA C q := by
    intro q hq
    rcases hq with ⟨w, hw, hx⟩ | hq
    · exact hwB w hw q hx
    · exact X.2.2.2.2.2.2.1 q (Nat.le_trans hS.1 hq)
  have hpre : ∀ U : State, U.heap = H → (zcs C).WarmedH U.vm → zPs (zcD C) (zcT C) (.ref b :: As) wc wm base H.size (.ref b :: As).toArray U := fun U hU hW => ⟨⟨rfl, by rw [hU], by rw [hU]; exact zsubP hP isC hC, va_K.moved hW.alike X.2.2.2.2.2.1, zsubD hD isC hCn hC, X.2.2.2.2.2.2.2.2.2.2.warm hW⟩, zS_at Y hS hU hW, Nat.le_trans Y.2.2 hS.1, fun w hw x hx => Y.2.1 x (hwB w hw x hx)⟩
  subst hst
  refine va_calli (va_runU (As := As) (rest := st) ⟨X.1, X.2.1, X.2.2.1, X.2.2.2.1, X.2.2.2.2.1⟩ (hM base H.size) (zcU X.2.2.2.2.1 M hsel hrc hrs (X.2.2.2.2.2.2.2.2.1 ▸ hroom)) ⟨zPs_blind, hyc ▸ va_recv X.2.2.2.2.2.1 (hP g _ hg) hcl hrv, hpre⟩ rfl hn hl.1 rfl (lv_room hcat) hd (X.2.2.2.2.2.2.2.2.1 ▸ hf)) hS (fun q _ h => hwA q h) hwA (fun r u t H1 locs1 ht hvm hw hB hz1 hk1 hS => ?_)
  cases hw
  rw [ht] at hB
  obtain ⟨hP2, hD2⟩ := zback hP hD hMo ha hw2 hk1 hB
  refine kk H1 locs1 ls hP2 hD2 (fun k hk q hq x hx => ?_) hS hl
  obtain ⟨v, he, hv⟩ := zaddr hMo ha hw2 hq
  exact hmpA k hk v he x (by rw [← hv]; exact hx)
theorem z_sUv (X : zFx C cc nL own rm ret) (Y : zSy C base)  (hM : ∀ base sz, Met (zcl C) y (zws y bytes maxL retc) rmc (zPs (zcD C) (zcT C) (.ref b :: As) wc wm base sz) (zQv (zcD C) wm1 (zA wm sz)) mc ms (zA wm sz)) {CR : String} (M : zMU own index y bytes maxL retc n) (hsel : (Cond.selects CR y y).before (zca C) (zcs C) = true) (hd : decode cc pc = .ok (.invokevirtual index, 3)) (g j ci : Nat) {w : va_W} {fs : List Value} {qcl : vw_C} (hg : ws[g]? = some w) (hrv : w[j]? = some (b, .inr (ci, fs))) (hcl : vwCl[ci]? = some qcl) (hyc : qcl.1 = CR) (isC : List Nat) (hC : isC.map (fun i => ws[i]?) = wc.map some) (hCn : va_nd isC = true) (isM : List Nat) (hMo : isM.map (fun i => ws[i]?) = wm.map some) (hmp : ∀ i ∈ isM, i ∈ mp) (ha : zSA wm1 wm) (hw2 : zput ws isM wm1 = ws2) (hst : st0 = As.reverse ++ .ref b :: st) (hn : As.length = n) (hcat : (st.map fun v => v.category).sum ≤ 8)
    (hrc : rmc.cells = mc) (hrs : rmc.slots = ms) (hroom : rmc.frames + 1 ≤ rm.frames ∧ 8 + (maxL + 11) + rmc.locals ≤ rm.locals) (hf : cells + mc ≤ rm.cells ∧ slots + ms ≤ rm.slots)
    (kk : zG C nL mp (cells + mc) (slots + ms) ws2 (pc + 3) lv st) : zG C nL mp cells slots ws pc lv st0 := by
  intro H locs ls hP hD hmpA hS hl
  have hwB : ∀ w ∈ wm, ∀ x ∈ zad w, zcA C x := by
    intro w hw x hx
    obtain ⟨k, hk⟩ := List.getElem?_of_mem hw
    obtain ⟨j, h1, h2⟩ := zpl hMo hk
    exact hmpA j (hmp j (List.mem_of_getElem? h1)) _ h2 x hx
  have hwA : ∀ q : Nat, zA wm H.size q → zcA C q := by
    intro q hq
    rcases hq with ⟨w, hw, hx⟩ | hq
    · exact hwB w hw q hx
    · exact X.2.2.2.2.2.2.1 q (Nat.le_trans hS.1 hq)
  have hpre : ∀ U : State, U.heap = H → (zcs C).WarmedH U.vm → zPs (zcD C) (zcT C) (.ref b :: As) wc wm base H.size (.ref b :: As).toArray U := fun U hU hW => ⟨⟨rfl, by rw [hU], by rw [hU]; exact zsubP hP isC hC, va_K.moved hW.alike X.2.2.2.2.2.1, zsubD hD isC hCn hC, X.2.2.2.2.2.2.2.2.2.2.warm hW⟩, zS_at Y hS hU hW, Nat.le_trans Y.2.2 hS.1, fun w hw x hx => Y.2.1 x (hwB w hw x hx)⟩
  subst hst
  refine va_callv (va_runU (As := As) (rest := st) ⟨X.1, X.2.1, X.2.2.1, X.2.2.2.1, X.2.2.2.2.1⟩ (hM base H.size) (zcU X.2.2.2.2.1 M hsel hrc hrs (X.2.2.2.2.2.2.2.2.1 ▸ hroom)) ⟨zPs_blind, hyc ▸ va_recv X.2.2.2.2.2.1 (hP g _ hg) hcl hrv, hpre⟩ rfl hn hl.1 rfl (lv_room hcat) hd (X.2.2.2.2.2.2.2.2.1 ▸ hf)) hS (fun q _ h => hwA q h) hwA (fun u t H1 locs1 ht hvm hw hB hz1 hk1 hS => ?_)
  rw [ht] at hB
  obtain ⟨hP2, hD2⟩ := zback hP hD hMo ha hw2 hk1 hB
  refine kk H1 locs1 ls hP2 hD2 (fun k hk q hq x hx => ?_) hS hl
  obtain ⟨v, he, hv⟩ := zaddr hMo ha hw2 hq
  exact hmpA k hk v he x (by rw [← hv]; exact hx)
theorem z_sUr (X : zFx C cc nL own rm ret) (Y : zSy C base) {r0 : Nat} (hM : ∀ base sz, Met (zcl C) y (zws y bytes maxL retc) rmc (zPs (zcD C) (zcT C) (.ref b :: As) wc wm base sz) (zQr (zcD C) r0 wm1 (zA wm sz)) mc ms (zA wm sz)) {CR : String} (M : zMU own index y bytes maxL retc n) (hsel : (Cond.selects CR y y).before (zca C) (zcs C) = true) (hd : decode cc pc = .ok (.invokevirtual index, 3)) (g j ci : Nat) {w : va_W} {fs : List Value} {qcl : vw_C} (hg : ws[g]? = some w) (hrv : w[j]? = some (b, .inr (ci, fs))) (hcl : vwCl[ci]? = some qcl) (hyc : qcl.1 = CR) (isC : List Nat) (hC : isC.map (fun i => ws[i]?) = wc.map some) (hCn : va_nd isC = true) (isM : List Nat) (hMo : isM.map (fun i => ws[i]?) = wm.map some) (hmp : ∀ i ∈ isM, i ∈ mp) (ha : zSA wm1 wm) (hw2 : zput ws isM wm1 = ws2) (hst : st0 = As.reverse ++ .ref b :: st) (hn : As.length = n) (hcat : (st.map fun v => v.category).sum ≤ 8)
    (hrc : rmc.cells = mc) (hrs : rmc.slots = ms) (hroom : rmc.frames + 1 ≤ rm.frames ∧ 8 + (maxL + 11) + rmc.locals ≤ rm.locals) (hf : cells + mc ≤ rm.cells ∧ slots + ms ≤ rm.slots)
    (kk : zG C nL mp (cells + mc) (slots + ms) ws2 (pc + 3) lv (.ref r0 :: st)) : zG C nL mp cells slots ws pc lv st0 := by
  intro H locs ls hP hD hmpA hS hl
  have hwB : ∀ w ∈ wm, ∀ x ∈ zad w, zcA C x := by
    intro w hw x hx
    obtain ⟨k, hk⟩ := List.getElem?_of_mem hw
    obtain ⟨j, h1, h2⟩ := zpl hMo hk
    exact hmpA j (hmp j (List.mem_of_getElem? h1)) _ h2 x hx
  have hwA : ∀ q : Nat, zA wm H.size q → zcA C q := by
    intro q hq
    rcases hq with ⟨w, hw, hx⟩ | hq
    · exact hwB w hw q hx
    · exact X.2.2.2.2.2.2.1 q (Nat.le_trans hS.1 hq)
  have hpre : ∀ U : State, U.heap = H → (zcs C).WarmedH U.vm → zPs (zcD C) (zcT C) (.ref b :: As) wc wm base H.size (.ref b :: As).toArray U := fun U hU hW => ⟨⟨rfl, by rw [hU], by rw [hU]; exact zsubP hP isC hC, va_K.moved hW.alike X.2.2.2.2.2.1, zsubD hD isC hCn hC, X.2.2.2.2.2.2.2.2.2.2.warm hW⟩, zS_at Y hS hU hW, Nat.le_trans Y.2.2 hS.1, fun w hw x hx => Y.2.1 x (hwB w hw x hx)⟩
  subst hst
  refine va_callr (va_runU (As := As) (rest := st) ⟨X.1, X.2.1, X.2.2.1, X.2.2.2.1, X.2.2.2.2.1⟩ (hM base H.size) (zcU X.2.2.2.2.1 M hsel hrc hrs (X.2.2.2.2.2.2.2.2.1 ▸ hroom)) ⟨zPs_blind, hyc ▸ va_recv X.2.2.2.2.2.1 (hP g _ hg) hcl hrv, hpre⟩ rfl hn hl.1 rfl (lv_room hcat) hd (X.2.2.2.2.2.2.2.2.1 ▸ hf)) hS (fun q _ h => hwA q h) hwA (fun u r t H1 locs1 ht hvm hw hB hz1 hk1 hS => ?_)
  obtain ⟨rfl, hB⟩ := hB
  rw [ht] at hB
  obtain ⟨hP2, hD2⟩ := zback hP hD hMo ha hw2 hk1 hB
  refine kk H1 locs1 ls hP2 hD2 (fun k hk q hq x hx => ?_) hS hl
  obtain ⟨v, he, hv⟩ := zaddr hMo ha hw2 hq
  exact hmpA k hk v he x (by rw [← hv]; exact hx)
theorem z_sPi (X : zFx C cc nL own rm ret) (Y : zSy C base) {r0 : Int32} (hM : ∀ base sz, Met (zcl C) y (zws y bytes maxL retc) rmc (zPs (zcD C) (zcT C) (.ref b :: As) wc wm base sz) (zQi (zcD C) r0 wm1 (zA wm sz)) mc ms (zA wm sz)) (M : zMP own index y bytes maxL retc n) (hd : decode cc pc = .ok (.invokespecial index, 3)) (g j ci : Nat) {w : va_W} {fs : List Value} {qcl : vw_C} (hg : ws[g]? = some w) (hrv : w[j]? = some (b, .inr (ci, fs))) (hcl : vwCl[ci]? = some qcl) (isC : List Nat) (hC : isC.map (fun i => ws[i]?) = wc.map some) (hCn : va_nd isC = true) (isM : List Nat) (hMo : isM.map (fun i => ws[i]?) = wm.map some) (hmp : ∀ i ∈ isM, i ∈ mp) (ha : zSA wm1 wm) (hw2 : zput ws isM wm1 = ws2) (hst : st0 = As.reverse ++ .ref b :: st) (hn : As.length = n) (hcat : (st.map fun v => v.category).sum ≤ 8)
    (hrc : rmc.cells = mc) (hrs : rmc.slots = ms) (hroom : rmc.frames + 1 ≤ rm.frames ∧ 8 + (maxL + 11) + rmc.locals ≤ rm.locals) (hf : cells + mc ≤ rm.cells ∧ slots + ms ≤ rm.slots)
    (kk : zG C nL mp (cells + mc) (slots + ms) ws2 (pc + 3) lv (.int r0 :: st)) : zG C nL mp cells slots ws pc lv st0 := by
  intro H locs ls hP hD hmpA hS hl
  have hwB : ∀ w ∈ wm, ∀ x ∈ zad w, zcA C x := by
    intro w hw x hx
    obtain ⟨k, hk⟩ := List.getElem?_of_mem hw
    obtain ⟨j, h1, h2⟩ := zpl hMo hk
    exact hmpA j (hmp j (List.mem_of_getElem? h1)) _ h2 x hx
  have hwA : ∀ q : Nat, zA wm H.size q → zcA C q := by
    intro q hq
    rcases hq with ⟨w, hw, hx⟩ | hq
    · exact hwB w hw q hx
    · exact X.2.2.2.2.2.2.1 q (Nat.le_trans hS.1 hq)
  have hpre : ∀ U : State, U.heap = H → (zcs C).WarmedH U.vm → zPs (zcD C) (zcT C) (.ref b :: As) wc wm base H.size (.ref b :: As).toArray U := fun U hU hW => ⟨⟨rfl, by rw [hU], by rw [hU]; exact zsubP hP isC hC, va_K.moved hW.alike X.2.2.2.2.2.1, zsubD hD isC hCn hC, X.2.2.2.2.2.2.2.2.2.2.warm hW⟩, zS_at Y hS hU hW, Nat.le_trans Y.2.2 hS.1, fun w hw x hx => Y.2.1 x (hwB w hw x hx)⟩
  subst hst
  refine va_calli (va_runSU (As := As) (rest := st) (X.2.2.2.2.2.1.1 ci _ hcl).2 ⟨X.1, X.2.1, X.2.2.1, X.2.2.2.1, X.2.2.2.2.1⟩ (hM base H.size) (va_cwSU n X.2.2.2.2.1 (zMP_good M) rfl hrc hrs M.2.2.2.2.2.2 (X.2.2.2.2.2.2.2.2.1 ▸ hroom)) ⟨zPs_blind, va_recv X.2.2.2.2.2.1 (hP g _ hg) hcl hrv, hpre⟩ rfl hn hl.1 rfl (lv_room hcat) hd (X.2.2.2.2.2.2.2.2.1 ▸ hf)) hS (fun q _ h => hwA q h) hwA (fun r u t H1 locs1 ht hvm hw hB hz1 hk1 hS => ?_)
  cases hw
  rw [ht] at hB
  obtain ⟨hP2, hD2⟩ := zback hP hD hMo ha hw2 hk1 hB
  refine kk H1 locs1 ls hP2 hD2 (fun k hk q hq x hx => ?_) hS hl
  obtain ⟨v, he, hv⟩ := zaddr hMo ha hw2 hq
  exact hmpA k hk v he x (by rw [← hv]; exact hx)
theorem z_sPr (X : zFx C cc nL own rm ret) (Y : zSy C base) {r0 : Nat} (hM : ∀ base sz, Met (zcl C) y (zws y bytes maxL retc) rmc (zPs (zcD C) (zcT C) (.ref b :: As) wc wm base sz) (zQr (zcD C) r0 wm1 (zA wm sz)) mc ms (zA wm sz)) (M : zMP own index y bytes maxL retc n) (hd : decode cc pc = .ok (.invokespecial index, 3)) (g j ci : Nat) {w : va_W} {fs : List Value} {qcl : vw_C} (hg : ws[g]? = some w) (hrv : w[j]? = some (b, .inr (ci, fs))) (hcl : vwCl[ci]? = some qcl) (isC : List Nat) (hC : isC.map (fun i => ws[i]?) = wc.map some) (hCn : va_nd isC = true) (isM : List Nat) (hMo : isM.map (fun i => ws[i]?) = wm.map some) (hmp : ∀ i ∈ isM, i ∈ mp) (ha : zSA wm1 wm) (hw2 : zput ws isM wm1 = ws2) (hst : st0 = As.reverse ++ .ref b :: st) (hn : As.length = n) (hcat : (st.map fun v => v.category).sum ≤ 8)
    (hrc : rmc.cells = mc) (hrs : rmc.slots = ms) (hroom : rmc.frames + 1 ≤ rm.frames ∧ 8 + (maxL + 11) + rmc.locals ≤ rm.locals) (hf : cells + mc ≤ rm.cells ∧ slots + ms ≤ rm.slots)
    (kk : zG C nL mp (cells + mc) (slots + ms) ws2 (pc + 3) lv (.ref r0 :: st)) : zG C nL mp cells slots ws pc lv st0 := by
  intro H locs ls hP hD hmpA hS hl
  have hwB : ∀ w ∈ wm, ∀ x ∈ zad w, zcA C x := by
    intro w hw x hx
    obtain ⟨k, hk⟩ := List.getElem?_of_mem hw
    obtain ⟨j, h1, h2⟩ := zpl hMo hk
    exact hmpA j (hmp j (List.mem_of_getElem? h1)) _ h2 x hx
  have hwA : ∀ q : Nat, zA wm H.size q → zcA C q := by
    intro q hq
    rcases hq with ⟨w, hw, hx⟩ | hq
    · exact hwB w hw q hx
    · exact X.2.2.2.2.2.2.1 q (Nat.le_trans hS.1 hq)
  have hpre : ∀ U : State, U.heap = H → (zcs C).WarmedH U.vm → zPs (zcD C) (zcT C) (.ref b :: As) wc wm base H.size (.ref b :: As).toArray U := fun U hU hW => ⟨⟨rfl, by rw [hU], by rw [hU]; exact zsubP hP isC hC, va_K.moved hW.alike X.2.2.2.2.2.1, zsubD hD isC hCn hC, X.2.2.2.2.2.2.2.2.2.2.warm hW⟩, zS_at Y hS hU hW, Nat.le_trans Y.2.2 hS.1, fun w hw x hx => Y.2.1 x (hwB w hw x hx)⟩
  subst hst
  refine va_callr (va_runSU (As := As) (rest := st) (X.2.2.2.2.2.1.1 ci _ hcl).2 ⟨X.1, X.2.1, X.2.2.1, X.2.2.2.1, X.2.2.2.2.1⟩ (hM base H.size) (va_cwSU n X.2.2.2.2.1 (zMP_good M) rfl hrc hrs M.2.2.2.2.2.2 (X.2.2.2.2.2.2.2.2.1 ▸ hroom)) ⟨zPs_blind, va_recv X.2.2.2.2.2.1 (hP g _ hg) hcl hrv, hpre⟩ rfl hn hl.1 rfl (lv_room hcat) hd (X.2.2.2.2.2.2.2.2.1 ▸ hf)) hS (fun q _ h => hwA q h) hwA (fun u r t H1 locs1 ht hvm hw hB hz1 hk1 hS => ?_)
  obtain ⟨rfl, hB⟩ := hB
  rw [ht] at hB
  obtain ⟨hP2, hD2⟩ := zback hP hD hMo ha hw2 hk1 hB
  refine kk H1 locs1 ls hP2 hD2 (fun k hk q hq x hx => ?_) hS hl
  obtain ⟨v, he, hv⟩ := zaddr hMo ha hw2 hq
  exact hmpA k hk v he x (by rw [← hv]; exact hx)
end ZSB
