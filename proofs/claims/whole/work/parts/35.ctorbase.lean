/-! Constructors: what is made goes behind the world as a group of its own; at the end the cells are put together anew (zcov). -/
theorem zG_len {gs : List va_W} {L : Nat} (h : gs.length = L) {w v : va_W} {i : Nat} (hi : (gs ++ [w])[i]? = some v) : (i < L ∧ gs[i]? = some v) ∨ (i = L ∧ v = w) := by
  subst h
  by_cases hl : i < gs.length
  · rw [List.getElem?_append_left hl] at hi
    exact Or.inl ⟨hl, hi⟩
  · rw [List.getElem?_append_right (by omega)] at hi
    have hz : i - gs.length < 1 := (List.getElem?_eq_some_iff.mp hi).1
    rw [show i - gs.length = 0 by omega] at hi
    cases hi
    exact Or.inr ⟨by omega, rfl⟩
theorem zGP_push {D : va_G} {gs : List va_W} {H H1 : Heap} {w : va_W} (hP : zGP D gs H) (hk : ∀ q : Nat, q < H.size → H1[q]? = H[q]?) (hw : va_P D vwCl w H1) : zGP D (gs ++ [w]) H1 := by
  intro i v hv
  rcases zG_len rfl hv with ⟨-, h⟩ | ⟨-, rfl⟩
  · intro n z hz
    exact (hP i v h n z hz).kept (hk _ (hP i v h n z hz).lt)
  · exact hw
theorem zGD_push {D : va_G} {gs : List va_W} {H : Heap} {w : va_W} (hP : zGP D gs H) (hD : zGD gs) (hw : va_D (fun _ => True) w) (hn : ∀ x ∈ zad w, H.size ≤ x) : zGD (gs ++ [w]) := by
  have lt : ∀ {i : Nat} {v : va_W}, gs[i]? = some v → ∀ x ∈ zad v, x < H.size := by
    intro i v hv x hx
    obtain ⟨z, hz, rfl⟩ := List.mem_map.mp hx
    obtain ⟨n, hn⟩ := List.getElem?_of_mem hz
    exact (hP i v hv n z hn).lt
  refine ⟨fun i v hv => ?_, fun i j v u hij hv hu x hx hxu => ?_⟩
  · rcases zG_len rfl hv with ⟨-, h⟩ | ⟨-, rfl⟩
    · exact hD.1 i v h
    · exact hw
  · rcases zG_len rfl hv with ⟨-, h⟩ | ⟨e1, rfl⟩ <;> rcases zG_len rfl hu with ⟨-, g⟩ | ⟨e2, rfl⟩
    · exact hD.2 i j v u hij h g x hx hxu
    · exact absurd (lt h x hx) (Nat.not_lt.mpr (hn x hxu))
    · exact absurd (lt g x hxu) (Nat.not_lt.mpr (hn x hx))
    · exact hij (by omega)
theorem zone1 {q : Nat} {e : va_E} : va_D (fun _ => True) [(q, e)] := ⟨fun i j x y hi hj _ => by
  have h1 : i < 1 := (List.getElem?_eq_some_iff.mp hi).1
  have h2 : j < 1 := (List.getElem?_eq_some_iff.mp hj).1
  omega, fun _ _ _ => trivial⟩
section ZCT
variable {C : zCtx} {cc : ByteArray} {nL : Nat} {own : String} {rm : Room} {ret : Option FieldType} {mp mp2 : List Nat} {cells slots : Nat} {ws ws2 : List va_W} {pc : Nat} {lv : List (Nat × Value)} {st : List Value}
theorem zM_push {gs : List va_W} {L : Nat} {w : va_W} {B : Nat → Prop} (hL : gs.length = L) (hmp : ∀ k ∈ mp2, k ∈ mp ∨ k = L) (hM : ∀ k ∈ mp, ∀ v : va_W, gs[k]? = some v → ∀ x ∈ zad v, B x) (hw : ∀ x ∈ zad w, B x) : ∀ k ∈ mp2, ∀ v : va_W, (gs ++ [w])[k]? = some v → ∀ x ∈ zad v, B x := by
  intro k hk v hv x hx
  rcases zG_len hL hv with ⟨h1, h2⟩ | ⟨-, rfl⟩
  · rcases hmp k hk with h | h
    · exact hM k h v h2 x hx
    · exact absurd h (by omega)
  · exact hw x hx
theorem z_newa (X : zFx C cc nL own rm ret) {atype : ArrayType} {ty : FieldType} (t0 L : Nat) {N' : Nat} {a0 : vp_A} {n : Int32} {cA0 : ClassId} (harr : Cond.arrayClass (newarray.typeOf atype) ∈ zW) (hty : newarray.typeOf atype = ty) (ht : (zTY (zcT C))[t0]? = some (cA0, ty)) (ha : ∀ cA : ClassId, vp_cell cA a0 = arrV cA N' (fun _ => defaultValue ty)) (hn : ¬ n < 0) (hN : n.toNatClampNeg = N') (hbytes : N' * componentBytes ty ≤ 536870912) (hL : ws.length = L) (hmp : ∀ k ∈ mp2, k ∈ mp ∨ k = L) (hcells : cells + 1 ≤ rm.cells) (hslots : slots + N' ≤ rm.slots) (hd : decode cc pc = .ok (.newarray atype, 2))
    (kk : ∀ q : Nat, (zcs C).heap.size ≤ q → zG C nL mp2 (cells + 1) (slots + N') (ws ++ [[(q, .inl (cA0, a0))]]) (pc + 2) lv (.ref q :: st)) : zG C nL mp cells slots ws pc lv (.int n :: st) := by
  intro H locs ls hP hD hM hS hl
  subst hty
  have hR := X.2.2.2.2.2.2.2.2.1
  have hK := X.2.2.2.2.2.1
  have hA := X.2.2.2.2.2.2.1
  refine va_newaK X.1 X.2.1 (X.2.2.2.2.1 _ harr) rfl hd rfl hn hN hbytes (by rw [hR]; exact hcells) (by rw [hR]; exact hslots) rfl fun H1 cA e1 z1 o1 hAr hNm => ?_
  have hc : cA = cA0 := by
    have h1 := (hK.2 t0 _ ht).2
    have h2 : (zcs C).vm.findClass ("[" ++ (newarray.typeOf atype).toString) = some cA0 := by cases atype <;> exact h1
    exact Option.some.inj (hNm.symm.trans h2)
  subst hc
  refine kk H.size hS.1 H1 locs ls (zGP_push hP (fun q hq => o1 q hq) (fun k x hx => ?_)) (zGD_push hP hD zone1 (fun x hx => ?_)) (zM_push hL hmp hM (fun x hx => ?_)) ⟨Nat.le_trans hS.1 (by omega), fun x h1 h2 => (o1 x (Nat.lt_of_lt_of_le h1 hS.1)).trans (hS.2.1 x h1 h2), hS.2.2⟩ hl
  · have hz : k < 1 := (List.getElem?_eq_some_iff.mp hx).1
    rw [show k = 0 by omega] at hx
    cases hx
    show H1[H.size]? = some (vp_cell _ _)
    rw [ha]
    exact e1
  · simp [zad] at hx; omega
  · simp [zad] at hx; subst hx; exact hA _ hS.1
theorem z_new (X : zFx C cc nL own rm ret) {CC : String} {TT : u_T} {N ci index : Nat} (L : Nat) (hin : ∀ w ∈ u_ws CC TT N, w ∈ zW) (ty0 : Nat → FieldType) (hty : ∀ k, k < N → parseFieldDescriptor (TT k).2.2.1 = some (ty0 k)) (hcl : Cond.classLink own index CC ∈ zW) (hinst : Cond.instantiable CC N ∈ zW) (hini : Cond.initialized CC ∈ zW) (hc : vwCl[ci]? = some (CC, TT, N)) {fs : List Value} (hfs : ∀ j, j < N → defaultValue (ty0 j) = vp_V fs j) (hL : ws.length = L) (hmp : ∀ k ∈ mp2, k ∈ mp ∨ k = L) (hcells : cells + 1 ≤ rm.cells) (hslots : slots + N ≤ rm.slots) (hd : decode cc pc = .ok (.new index, 3))
    (kk : ∀ q : Nat, (zcs C).heap.size ≤ q → zG C nL mp2 (cells + 1) (slots + N) (ws ++ [[(q, .inr (ci, fs))]]) (pc + 3) lv (.ref q :: st)) : zG C nL mp cells slots ws pc lv st := by
  intro H locs ls hP hD hM hS hl
  have hR := X.2.2.2.2.2.2.2.2.1
  have hA := X.2.2.2.2.2.2.1
  have hKn := X.2.2.2.2.2.1.1 ci _ hc
  refine W.newcK X.1 X.2.1 X.2.2.2.1 (X.2.2.2.2.1 _ hcl) (X.2.2.2.2.1 _ hinst) (X.2.2.2.2.1 _ hini) rfl hd (by rw [hR]; exact hcells) (by rw [hR]; exact hslots) hKn.2.1 rfl fun H1 kC hkC e1 z1 o1 => ?_
  refine kk H.size hS.1 H1 locs ls (zGP_push hP (fun q hq => o1 q hq) (fun k x hx => ?_)) (zGD_push hP hD zone1 (fun x hx => ?_)) (zM_push hL hmp hM (fun x hx => ?_)) ⟨Nat.le_trans hS.1 (by omega), fun x h1 h2 => (o1 x (Nat.lt_of_lt_of_le h1 hS.1)).trans (hS.2.1 x h1 h2), hS.2.2⟩ hl
  · have hz : k < 1 := (List.getElem?_eq_some_iff.mp hx).1
    rw [show k = 0 by omega] at hx
    cases hx
    exact ⟨_, hc, (u_born ty0 X.2.2.2.2.1 hin hKn hkC e1 hty).to hfs⟩
  · simp [zad] at hx; omega
  · simp [zad] at hx; subst hx; exact hA _ hS.1
theorem z_newq (X : zFx C cc nL own rm ret) {CC : String} {index : Nat} (t0 L : Nat) {N' : Nat} {n : Int32} {cA0 : ClassId} (hover : va_AO CC (zcs C)) (hcl : Cond.classLink own index CC ∈ zW) (ht : (zTY (zcT C))[t0]? = some (cA0, .object CC)) (hn : ¬ n < 0) (hN : n.toNatClampNeg = N') (hbytes : N' * 4 ≤ 536870912) (hL : ws.length = L) (hmp : ∀ k ∈ mp2, k ∈ mp ∨ k = L) (hcells : cells + 1 ≤ rm.cells) (hslots : slots + N' ≤ rm.slots) (hd : decode cc pc = .ok (.anewarray index, 3))
    (kk : ∀ q : Nat, (zcs C).heap.size ≤ q → zG C nL mp2 (cells + 1) (slots + N') (ws ++ [[(q, .inl (cA0, N', .inr (.inr (.inr (.inr (fun _ => none))))))]]) (pc + 3) lv (.ref q :: st)) : zG C nL mp cells slots ws pc lv (.int n :: st) := by
  intro H locs ls hP hD hM hS hl
  have hR := X.2.2.2.2.2.2.2.2.1
  have hA := X.2.2.2.2.2.2.1
  have hK := X.2.2.2.2.2.1
  subst hN
  refine W.anew X.1 X.2.1 X.2.2.2.1 (X.2.2.2.2.1 _ hcl) (va_AO.use hover) rfl hd rfl hn hbytes (by rw [hR]; exact hcells) (by rw [hR]; exact hslots) fun cA kA comp f1 f2 f3 f4 => ?_
  generalize hH1 : H.push ({ cls := cA, slots := Array.replicate n.toNatClampNeg .null, vm := .none } : Cell) = H1
  have z1 : H1.size = H.size + 1 := by rw [← hH1, Array.size_push]
  have e1 : H1[H.size]? = some (arrV cA n.toNatClampNeg (fun _ => .null)) := by rw [← hH1, Array.getElem?_push_size, ← arrV_new]
  have o1 : ∀ q : Nat, q < H.size → H1[q]? = H[q]? := fun q hq => by rw [← hH1, Array.getElem?_push, if_neg (Nat.ne_of_lt hq)]
  have hc : cA = cA0 := by
    obtain ⟨kA2, comp2, -, -, -, h4⟩ := (hK.2 t0 _ ht).2
    exact Option.some.inj (f1.symm.trans h4)
  subst hc
  refine kk H.size hS.1 H1 locs ls (zGP_push hP (fun q hq => o1 q hq) (fun k x hx => ?_)) (zGD_push hP hD zone1 (fun x hx => ?_)) (zM_push hL hmp hM (fun x hx => ?_)) ⟨Nat.le_trans hS.1 (by omega), fun x h1 h2 => (o1 x (Nat.lt_of_lt_of_le h1 hS.1)).trans (hS.2.1 x h1 h2), hS.2.2⟩ hl
  · have hz : k < 1 := (List.getElem?_eq_some_iff.mp hx).1
    rw [show k = 0 by omega] at hx
    cases hx
    show H1[H.size]? = some (vp_cell _ _)
    rw [vp_cell_q]
    exact e1
  · simp [zad] at hx; omega
  · simp [zad] at hx; subst hx; exact hA _ hS.1
theorem z_aastq (X : zFx C cc nL own rm ret) (g j t0 gk jk ci : Nat) {w w2 wk : va_W} {a N v : Nat} {vs : List Value} {r : vw_C} {f : Nat → Option Nat} {i : Int32} {cA : ClassId} (hin : zin i N = true) (hd : decode cc pc = .ok (.aastore, 1)) (hg : ws[g]? = some w) (ha : w[j]? = some (a, .inl (cA, N, .inr (.inr (.inr (.inr f)))))) (ht : (zTY (zcT C))[t0]? = some (cA, .object r.1)) (hgk : ws[gk]? = some wk) (hv : wk[jk]? = some (v, .inr (ci, vs))) (hc : vwCl[ci]? = some r) (hmp : g ∈ mp) (hw2 : w.set j (a, .inl (cA, N, .inr (.inr (.inr (.inr (va_up f i.toNatClampNeg (some v))))))) = w2) (hws : ws.set g w2 = ws2) (kk : zG C nL mp cells slots ws2 (pc + 1) lv st) : zG C nL mp cells slots ws pc lv (.ref v :: .int i :: .ref a :: st) := by
  intro H locs ls hP hD hM hS hl
  obtain ⟨hx, hb, -, hown, hts, hK, -, -, -, -⟩ := X
  have hin := zin_of hin
  have hlt : i.toNatClampNeg < N := Nat.not_le.mp fun q => hin (Or.inr q)
  have h0 : ¬ i < 0 := fun q => hin (Or.inl q)
  obtain ⟨r', hr', cellV, g1, g2, g3, -⟩ := hP gk _ hgk jk _ hv
  have hcls := (hK.1 ci r hc).2
  obtain ⟨kA, comp, k1, k2, k3, -⟩ := (hK.2 t0 _ ht).2
  have hcomp : comp = (zcD C).1 ci := Option.some.inj (k3.symm.trans hcls.1)
  subst hcomp
  obtain ⟨kC, hkC, -⟩ := hcls.2
  refine W.aast hx hb (hP g _ hg j _ ha) (fun q h => by cases h) (fun h => by cases h) k1 k2 rfl hkC ⟨h0, by show _ < (arrV _ _ _).slots.size; rw [arrV_size]; exact hlt⟩ g1 (fun q h => by rw [g3] at h; cases h) (by rw [g2]; exact hkC) (by rw [g2]; exact va_assign hcls) rfl rfl hd fun H1 e z oq => ?_
  subst hws hw2
  refine kk H1 _ ls (zGP_set hP hD hg ha ((hP g _ hg).set (hD.1 g _ hg) ha ?_ oq) oq) (zGD_set hD hg (zad_set ha)) (zM_set hg (zad_set ha) hM) (hS.put z oq (hM g hmp _ hg _ (zad_mem ha))) hl
  show H1[a]? = some (vp_cell _ _)
  rw [e]
  rw [vp_cell_q, vp_cell_q, arrV_store]
  congr 2
  funext q
  by_cases hq : q = i.toNatClampNeg
  · subst hq
    simp [updV, va_up, va_rf]
  · simp [updV, va_up, hq]
theorem z_putF (X : zFx C cc nL own rm ret) (hin2 : (zcM C).name = "<init>") {CC : String} {TT : u_T} {N index : Nat} (g j ci k : Nat) {w w2 : va_W} {a : Nat} {fs : List Value} {v : Value} (hin : ∀ w ∈ u_ws CC TT N, w ∈ zW) (hc : vwCl[ci]? = some (CC, TT, N)) (ty0 : Nat → FieldType) (hty : ∀ k, k < N → parseFieldDescriptor (TT k).2.2.1 = some (ty0 k)) (hnm : ∀ a, a < N → ∀ b, b < N → a ≠ b → (TT a).2.1 ≠ (TT b).2.1) (hk : k < N) (hlink : Cond.fieldLink own index CC (TT k).2.1 (TT k).2.2.1 ∈ zW) (hself : (TT k).1 = CC) (hdecl : (TT k).1 = own) (hfin : (TT k).2.2.2 = true) {ty : FieldType} (hds : parseFieldDescriptor (TT k).2.2.1 = some ty) (hn : narrow ty v = v) (hfit : fits ty v = true) (hl9 : k < fs.length) (hd : decode cc pc = .ok (.putfield index, 3)) (hg : ws[g]? = some w) (he : w[j]? = some (a, .inr (ci, fs))) (hmp : g ∈ mp) (hw2 : w.set j (a, .inr (ci, fs.set k v)) = w2) (hws : ws.set g w2 = ws2)
    (kk : zG C nL mp cells slots ws2 (pc + 3) lv st) : zG C nL mp cells slots ws pc lv (v :: .ref a :: st) := by
  intro H locs ls hP hD hM hS hl
  obtain ⟨hx, hb, -, hown, hts, hK, -, -, -, -, hXn⟩ := X
  have hap := va_apart (own := own) hts hin ty0 hty hnm hK hc
  obtain ⟨r, h1, cell, q1, q2, q3, q4⟩ := hP g _ hg j _ he
  have hr : r = (CC, TT, N) := Option.some.inj (h1.symm.trans hc)
  subst hr
  obtain ⟨hSl, hfc, kC, hkC, hkind⟩ := hK.1 ci _ hc
  obtain ⟨cf, kf, fi, f, hi, hsl⟩ := hSl k hk
  have hlay := hts _ (hin _ (u_in_lay hk))
  unfold u_lay at hlay
  rw [if_pos hfin] at hlay
  have hst := (u_facts hfc hkC (u_lays hts hin hk) hi).1
  have hcf : (zcm C).cls = cf := by
    obtain ⟨_, _, c', _, _, _, -, -, hf', -, -, -, hown2, -⟩ := Cond.laysFinal_spec hlay
    have e1 : c' = cf := by have := hi.symm.trans hf'; simp at this; exact this.1.symm
    rw [hdecl] at hown2
    rw [← e1]; exact Option.some.inj (hown.symm.trans hown2)
  have h6 := u_fits hfc hkC hkind (Or.inr hlay) hi hds hn hfit
  have hi2 := hi
  rw [hself] at hi2
  refine W.putFinK hx hb hown (hts _ hlink) hi2 hst hcf hin2 (by rw [q2]; exact h6) q1 q3 (by rw [hsl]; exact k2_hasslot (q4 k hk)) rfl rfl hd fun H' e1 e2 e3 => ?_
  rw [hsl] at e1 ⊢
  subst hws hw2
  exact kk H' _ ls (zGP_set hP hD hg he ((hP g _ hg).set (hD.1 g _ hg) he ⟨_, hc, t_OB.to (V := updV (vp_V fs) k v) ⟨_, e1, q2, q3, t_set q4 hap hk v⟩ (fun j _ => vp_updV_set hl9 v j)⟩ e3) e3) (zGD_set hD hg (zad_set he)) (zM_set hg (zad_set he) hM) (hS.put e2 e3 (hM g hmp _ hg _ (zad_mem he))) hl
theorem z_objInit (X : zFx C cc nL own rm ret) {idx a : Nat} (hlk : Cond.methodLink own idx objectInit ∈ zW) (hin : Cond.instanceMethod objectInit ∈ zW) (hcode : Cond.code objectInit ⟨#[0xb1]⟩ 1 none ∈ zW) (hd : decode cc pc = .ok (.invokespecial idx, 3)) (hf : 1 ≤ rm.frames) (hlo : 2 * (F0 (zcm C) pc #[] st).monitorRoom + (st.map fun v => v.category).sum + 12 ≤ rm.locals) (kk : zG C nL mp cells slots ws (pc + 3) lv st) : zG C nL mp cells slots ws pc lv (.ref a :: st) := by
  intro H locs ls h1 h2 h3 h4 hl
  have hR := X.2.2.2.2.2.2.2.2.1
  exact W.objInit X.1 X.2.1 X.2.2.2.1 (X.2.2.2.2.1 _ hlk) (X.2.2.2.2.1 _ hin) (X.2.2.2.2.1 _ hcode) rfl (hl.1.trans X.2.2.1.symm) rfl hd (by rw [hR]; exact hf) (by rw [hR]; exact hlo) (W.eq (g2 := F0 (zcm C) (pc + 3) ls st) rfl (kk H locs ls h1 h2 h3 h4 hl))
/-- what a constructor leaves: groups at addresses of its making -/
abbrev zQn (D : va_G) (b : Nat) (G : (Nat → Nat) → List va_W) (A : Nat → Prop) : Array Value → State → Outcome → State → Prop := va_Qv (fun (u : Nat → Nat) => u 0 = b ∧ ∀ w ∈ G u, ∀ x ∈ zad w, A x) (fun u t => zGP D (G u) t.heap ∧ zGD (G u)) A
/-- the cells put together anew -/
theorem zcov {D : va_G} {gs gs2 : List va_W} {H : Heap} (hP : zGP D gs H) (hD : zGD gs) (pl : List (List (Nat × Nat))) (hc : pl.map (fun l => l.map (fun q => (gs[q.1]?).bind (fun w => w[q.2]?))) = gs2.map (fun w => w.map some)) (hn : pl.flatten.Nodup) :
    zGP D gs2 H ∧ zGD gs2 ∧ ∀ w ∈ gs2, ∀ x ∈ zad w, ∃ q ∈ pl.flatten, ∃ v, gs[q.1]? = some v ∧ x ∈ zad v := by
  have at1 : ∀ {i : Nat} {w : va_W}, gs2[i]? = some w → ∃ l, pl[i]? = some l ∧ l.map (fun q => (gs[q.1]?).bind (fun w => w[q.2]?)) = w.map some := by
    intro i w hi
    have h1 : (gs2.map (fun w => w.map some))[i]? = some (w.map some) := by rw [List.getElem?_map, hi]; rfl
    rw [← hc, List.getElem?_map] at h1
    cases hl : pl[i]? with
    | none => rw [hl] at h1; cases h1
    | some l => rw [hl] at h1; exact ⟨l, rfl, Option.some.inj h1⟩
  have at2 : ∀ {i n : Nat} {w : va_W} {z : Nat × va_E}, gs2[i]? = some w → w[n]? = some z → ∃ l q v, pl[i]? = some l ∧ l[n]? = some q ∧ gs[q.1]? = some v ∧ v[q.2]? = some z := by
    intro i n w z hi hn
    obtain ⟨l, h1, h2⟩ := at1 hi
    have h3 : (w.map some)[n]? = some (some z) := by rw [List.getElem?_map, hn]; rfl
    rw [← h2, List.getElem?_map] at h3
    cases hl : l[n]? with
    | none => rw [hl] at h3; cases h3
    | some q =>
      rw [hl] at h3
      have h4 : (gs[q.1]?).bind (fun w => w[q.2]?) = some z := Option.some.inj h3
      cases hg : gs[q.1]? with
      | none => rw [hg] at h4; cases h4
      | some v => rw [hg] at h4; exact ⟨l, q, v, h1, hl, hg, h4⟩
  have same : ∀ {q q2 : Nat × Nat} {v v2 : va_W} {z z2 : Nat × va_E}, gs[q.1]? = some v → v[q.2]? = some z → gs[q2.1]? = some v2 → v2[q2.2]? = some z2 → z.1 = z2.1 → q = q2 := by
    intro q q2 v v2 z z2 h1 h2 h3 h4 h5
    by_cases h : q.1 = q2.1
    · rw [h] at h1
      have hv : v = v2 := Option.some.inj (h1.symm.trans h3)
      subst hv
      have := (hD.1 _ _ h1).1 q.2 q2.2 z z2 h2 h4 h5
      exact Prod.ext h this
    · exact absurd (List.mem_map.mpr ⟨z2, List.mem_of_getElem? h4, h5.symm⟩) (hD.2 q.1 q2.1 v v2 h h1 h3 z.1 (List.mem_map.mpr ⟨z, List.mem_of_getElem? h2, rfl⟩))
  have pw := List.pairwise_flatten.mp hn
  refine ⟨fun i w hi n z hz => ?_, ⟨fun i w hi => ⟨fun n n2 z z2 hz hz2 hzz => ?_, fun _ _ _ => trivial⟩, fun i i2 w w2 hij hi hi2 x hx hx2 => ?_⟩, fun w hw x hx => ?_⟩
  · obtain ⟨l, q, v, -, -, h3, h4⟩ := at2 hi hz
    exact hP q.1 v h3 q.2 z h4
  · obtain ⟨l, q, v, h1, h2, h3, h4⟩ := at2 hi hz
    obtain ⟨l2, q2, v2, g1, g2, g3, g4⟩ := at2 hi hz2
    have hl : l = l2 := Option.some.inj (h1.symm.trans g1)
    subst hl
    have hq := same h3 h4 g3 g4 hzz
    subst hq
    exact (List.getElem?_inj (List.getElem?_eq_some_iff.mp h2).1 (pw.1 l (List.mem_of_getElem? h1))).mp (h2.trans g2.symm)
  · obtain ⟨z, hz, rfl⟩ := List.mem_map.mp hx
    obtain ⟨z2, hz2, hzz⟩ := List.mem_map.mp hx2
    obtain ⟨n, hn⟩ := List.getElem?_of_mem hz
    obtain ⟨n2, hn2⟩ := List.getElem?_of_mem hz2
    obtain ⟨l, q, v, h1, h2, h3, h4⟩ := at2 hi hn
    obtain ⟨l2, q2, v2, g1, g2, g3, g4⟩ := at2 hi2 hn2
    have hq := same h3 h4 g3 g4 hzz.symm
    subst hq
    have pd := pw.2
    have := (List.pairwise_iff_getElem.mp pd)
    have hil := (List.getElem?_eq_some_iff.mp h1)
    have hil2 := (List.getElem?_eq_some_iff.mp g1)
    obtain ⟨b1, e1⟩ := hil
    obtain ⟨b2, e2⟩ := hil2
    rcases Nat.lt_or_gt_of_ne hij with h | h
    · exact this i i2 b1 b2 h q (by rw [e1]; exact List.mem_of_getElem? h2) q (by rw [e2]; exact List.mem_of_getElem? g2) rfl
    · exact this i2 i b2 b1 h q (by rw [e2]; exact List.mem_of_getElem? g2) q (by rw [e1]; exact List.mem_of_getElem? h2) rfl
  · obtain ⟨i, hi⟩ := List.getElem?_of_mem hw
    obtain ⟨z, hz, rfl⟩ := List.mem_map.mp hx
    obtain ⟨n, hn⟩ := List.getElem?_of_mem hz
    obtain ⟨l, q, v, h1, h2, h3, h4⟩ := at2 hi hn
    exact ⟨q, List.mem_flatten.mpr ⟨l, List.mem_of_getElem? h1, List.mem_of_getElem? h2⟩, v, h3, List.mem_map.mpr ⟨z, List.mem_of_getElem? h4, rfl⟩⟩
theorem z_cret (X : zFx C cc nL own rm none) {b : Nat} {G : (Nat → Nat) → List va_W} {mc ms : Nat} (hQ : zcQ C = MQ (zcb C) (zQn (zcD C) b G (zcA C)) (zca C) (zcs C) mc ms (zcA C)) (hd : decode cc pc = .ok (.return_, 1)) (u : Nat → Nat) (hu : u 0 = b) (pl : List (List (Nat × Nat))) (hc : pl.map (fun l => l.map (fun q => (ws[q.1]?).bind (fun w => w[q.2]?))) = (G u).map (fun w => w.map some)) (hn : pl.flatten.Nodup) (hm : ∀ q ∈ pl.flatten, q.1 ∈ mp) (hmc : cells ≤ mc) (hms : slots ≤ ms) : zG C nL mp cells slots ws pc lv [] := by
  intro H locs ls hP hD hM hS hl
  obtain ⟨h1, h2, h3⟩ := zcov hP hD pl hc hn
  unfold zWW
  rw [hQ]
  have hlocks := X.2.2.2.2.2.2.2.1
  refine W.widen hmc hms ?_
  refine W.vret X.1 X.2.1 X.2.2.2.2.2.2.2.2.2.1 (fun t ht hW => ⟨⟨u, rfl, ⟨hu, fun w hw x hx => ?_⟩, by rw [ht]; exact h1, h2⟩, hS.F ht⟩) hS.2.2 hd
  obtain ⟨q, hq, v, h4, h5⟩ := h3 w hw x hx
  exact hM q.1 (hm q hq) v h4 x h5
end ZCT
/-- a constructor, out of its body -/
theorem zMetC {l : Launch} {y : MethodName} {cc : ByteArray} {maxL : Nat} {rm : Room} {D : va_G} {T : Nat → ClassId} {av : List Value} {ws wm : (Nat → ClassId) → List va_W} {mc ms : Nat} {lv0 : List (Nat × Value)} (mp : List Nat) {Qc : va_G → (Nat → ClassId) → (Nat → Prop) → Array Value → State → Outcome → State → Prop} (hy : plainName y.cls = true) (hyn : y.name = "<init>") (hmp : mp.map (fun i => (ws T)[i]?) = (wm T).map some) (hlen : (lg_sl av).length ≤ maxL) (hlv : lv_args 0 av = lv0) {EX : State → Prop} (hEX : ∀ (U : State) (p : Program) (e : Env) (s : State), True → True)
    (body : ∀ C : zCtx, zFx C cc maxL y.cls rm none → (zcM C).name = "<init>" → EX (zcs C) → zcQ C = MQ (zcb C) (Qc (zcD C) (zcT C) (zcA C)) (zca C) (zcs C) mc ms (zcA C) → zG C maxL mp 0 0 (ws (zcT C)) 0 lv0 []) (sz : Nat) :
    Met l y (zws y cc maxL none) rm (fun a U => zPc D T av (ws T) sz a U ∧ EX U) (Qc D T (zA (wm T) sz)) mc ms (zA (wm T) sz) := by
  refine Met.ofW (cc := cc) (maxL := maxL) (ret := none) hy rfl ?_
  intro p e s m args below meth c s₁ B hml hv
  obtain ⟨⟨rfl, hsz, hP, hK, hD0, hE0⟩, hEX0⟩ := hv
  have hx := B.exec
  have hb := B.bytes
  have hr := B.returns
  have hts := atoms_spec (ws := zws y cc maxL none) B.pre
  have hown : s.vm.findClass y.cls = some m.cls := findClass_of_methodNamed B.named
  have hlocks := B.notSynchronized
  have hin : meth.name = "<init>" := hyn ▸ (name_of_methodNamed B.named B.method).1
  have hmp2 : ∀ k ∈ mp, ∀ w : va_W, (ws T)[k]? = some w → ∀ x ∈ zad w, zA (wm T) sz x := by
    intro k hk q hq x hx
    obtain ⟨j, hj⟩ := List.getElem?_of_mem hk
    have h1 : (mp.map (fun i => (ws T)[i]?))[j]? = some (some q) := by rw [List.getElem?_map, hj]; simp [hq]
    rw [hmp, List.getElem?_map] at h1
    cases hw : (wm T)[j]? with
    | none => rw [hw] at h1; cases h1
    | some z =>
      rw [hw] at h1
      have h2 : z = q := Option.some.inj (Option.some.inj h1)
      subst h2
      exact Or.inl ⟨z, List.mem_of_getElem? hw, hx⟩
  have hl := lv_entry av (n := maxL) hlen
  rw [lg_entry_eq]
  rw [hlv] at hl
  exact body (p, l, e, rm, s, m, av.toArray, below, meth, c, D, T, zA (wm T) sz, MQ below (Qc D T (zA (wm T) sz)) av.toArray s mc ms (zA (wm T) sz)) ⟨hx, hb, hml, hown, fun w hw => hts w (List.mem_cons_of_mem _ hw), hK, fun q hq => Or.inr (hsz ▸ hq), hlocks, rfl, hr, hE0⟩ hin hEX0 rfl s.heap [] _ hP hD0 hmp2 va_S.rf hl
