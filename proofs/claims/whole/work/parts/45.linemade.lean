/-! The reference's line: its contract. Written by wip/gen/mkline2.py. -/
theorem zj1606 : Cond.classLink RX12 206 RJ4 ∈ zW := zW_tab (List.mem_of_getElem? (i := 1606) (by decide +kernel)) (by decide +kernel)
theorem zj1607 : Cond.instantiable RJ4 4 ∈ zW := zW_tab (List.mem_of_getElem? (i := 1607) (by decide +kernel)) (by decide +kernel)
theorem zj1608 : Cond.methodLink RX12 208 yJ4_init_da8c8 ∈ zW := zW_tab (List.mem_of_getElem? (i := 1608) (by decide +kernel)) (by decide +kernel)
theorem zj1609 : Cond.instanceMethod yJ4_init_da8c8 ∈ zW := zW_tab (List.mem_of_getElem? (i := 1609) (by decide +kernel)) (by decide +kernel)
theorem zj1610 : Cond.code yJ4_init_da8c8 cJ4_init_da8c8 1 none ∈ zW := zW_tab (List.mem_of_getElem? (i := 1610) (by decide +kernel)) (by decide +kernel)
/-- what the making of a line leaves: a builder of its own -/
abbrev zQb (D : va_G) (T : Nat → ClassId) (out : zSt) (A : Nat → Prop) : Array Value → State → Outcome → State → Prop := va_Qr (fun (u : Nat → Nat) => ∀ x ∈ zad (wJ4 T u out), A x) (fun u a t => a = u 0 ∧ zGP D [wJ4 T u out] t.heap ∧ zGD [wJ4 T u out]) A
section ZLM
variable {C : zCtx} {cc : ByteArray} {nL : Nat} {own : String} {rm : Room} {ret : Option FieldType} {mp mp2 : List Nat} {cells slots : Nat} {ws ws2 gs : List va_W} {pc : Nat} {lv : List (Nat × Value)} {st st0 : List Value}
variable {y : MethodName} {bytes : ByteArray} {maxL n index mc ms : Nat} {retc : Option FieldType} {rmc : Room} {wc wm wm1 : List va_W} {As : List Value} {b : Nat} {base : Nat}
theorem z_bret {n9 : String} (X : zFx C cc nL own rm (some (.object n9))) {out : zSt} {mc ms : Nat} (hQ : zcQ C = MQ (zcb C) (zQb (zcD C) (zcT C) out (zcA C)) (zca C) (zcs C) mc ms (zcA C)) (hd : decode cc pc = .ok (.areturn, 1)) (g : Nat) {u : Nat → Nat} (hg : ws[g]? = some (wJ4 (zcT C) u out)) (hmp : g ∈ mp) (hnd : va_nd [g] = true) (hmc : cells ≤ mc) (hms : slots ≤ ms) : zG C nL mp cells slots ws pc lv [.ref (u 0)] := by
  intro H locs ls hP hD hM hS hl
  unfold zWW
  rw [hQ]
  have hlocks := X.2.2.2.2.2.2.2.1
  have h1 : [g].map (fun i => ws[i]?) = [wJ4 (zcT C) u out].map some := by simp only [List.map_cons, List.map_nil, hg]
  refine W.widen hmc hms ?_
  exact W.aret X.1 X.2.1 X.2.2.2.2.2.2.2.2.2.1 (Or.inl ⟨_, rfl⟩) (Or.inr ⟨_, rfl⟩) (fun t ht hW => ⟨⟨u, u 0, rfl, fun x hx => hM g hmp _ hg x hx, rfl, (by rw [ht]; exact zsubP hP [g] h1), zsubD hD [g] hnd h1⟩, hS.F ht⟩) hS.2.2 hd
/-- the last group put to the place of an empty one -/
theorem z_fill {g L : Nat} {w : va_W} (hL : gs.length = L) (hg : g < L) (h1 : ∀ k ∈ mp, k = g → L ∈ mp2) (h2 : ∀ k ∈ mp, k ≠ g → k ∈ mp2) (kk : zG C nL mp cells slots (gs.set g w) pc lv st) : zG C nL mp2 cells slots (gs.set g [] ++ [w]) pc lv st := by
  intro H locs ls hP hD hM hS hl
  have key : ∀ {i : Nat} {v : va_W}, (gs.set g w)[i]? = some v → ∃ j, (gs.set g [] ++ [w])[j]? = some v ∧ (i = g → j = L) ∧ (i ≠ g → j = i) := by
    intro i v hv
    by_cases hi : i = g
    · subst hi
      rw [List.getElem?_set_self (by omega)] at hv
      refine ⟨L, ?_, fun _ => rfl, fun h => absurd rfl h⟩
      rw [List.getElem?_append_right (by simp [hL])]
      simpa [hL] using hv
    · rw [List.getElem?_set_ne (fun e => hi e.symm)] at hv
      have hlt : i < gs.length := (List.getElem?_eq_some_iff.mp hv).1
      refine ⟨i, ?_, fun h => absurd h hi, fun _ => rfl⟩
      rw [List.getElem?_append_left (by simpa using hlt), List.getElem?_set_ne (fun e => hi e.symm)]
      exact hv
  refine kk H locs ls (fun i v hv => ?_) ⟨fun i v hv => ?_, fun i j v u hij hv hu x hx => ?_⟩ (fun k hk v hv x hx => ?_) hS hl
  · obtain ⟨j, hj, -⟩ := key hv
    exact hP j v hj
  · obtain ⟨j, hj, -⟩ := key hv
    exact hD.1 j v hj
  · obtain ⟨a, ha, a1, a2⟩ := key hv
    obtain ⟨c, hc, c1, c2⟩ := key hu
    have il : i < L := by rw [← hL]; simpa using (List.getElem?_eq_some_iff.mp hv).1
    have jl : j < L := by rw [← hL]; simpa using (List.getElem?_eq_some_iff.mp hu).1
    refine hD.2 a c v u (fun e => ?_) ha hc x hx
    by_cases hi : i = g <;> by_cases hj : j = g
    · exact hij (hi.trans hj.symm)
    · rw [a1 hi, c2 hj] at e; omega
    · rw [a2 hi, c1 hj] at e; omega
    · rw [a2 hi, c2 hj] at e; exact hij e
  · obtain ⟨j, hj, j1, j2⟩ := key hv
    by_cases hi : k = g
    · rw [j1 hi] at hj
      exact hM L (h1 k hk hi) v hj x hx
    · rw [j2 hi] at hj
      exact hM k (h2 k hk hi) v hj x hx
end ZLM
theorem metX12_line (l : Launch) (D : va_G) (T : Nat → ClassId) (aO : Nat → Nat) {sO : zSt} {x1 : Int32} {out : zSt} (hf : fX12_line sO zst0 x1 = some out) (base sz : Nat) : Met l yX12_line (zws yX12_line cX12_line 5 (some (.object "java/lang/StringBuilder"))) rmX12_line (zPs D T [.ref (aO 0), .int x1] [wX12 T aO sO] [] base sz) (zQb D T out (zA [] sz)) 2 20 (zA [] sz) := by
  refine zMetS (D := D) (T := T) (av := [.ref (aO 0), .int x1]) (ws := fun T => [wX12 T aO sO]) (wm := fun T => []) (lv0 := [(0, .ref (aO 0)), (1, .int x1)]) [] (Qc := fun D T A => zQb D T out A) (by decide +kernel) rfl (Nat.le_of_ble_eq_true rfl) rfl (fun C base X Y hQ => ?_) base sz
  refine z_new (mp2 := [1]) (ci := 0) (fs := [.null, .int 0, .int 0, .int 0]) X 1 ziJ4 tyJ4 tyJ4_ok zj1606 zj1607 zj23 rfl (by decide +kernel) rfl (by decide) (Nat.le_of_ble_eq_true rfl) (Nat.le_of_ble_eq_true rfl) dX12_line_0 (fun q hq => ?_)
  refine z_dup X dX12_line_3 rfl ?_
  refine z_sI (mp2 := [1, 2]) (st := [.ref q]) X Y (mcJ4 (zcl C) (zcD C) (zcT C) q) ⟨zj1610, zj23, zj1609, (by decide +kernel)⟩ rfl zj1608 dX12_line_4 1 2 rfl rfl [1] rfl rfl (by decide) (by decide) rfl rfl (Nat.le_of_ble_eq_true rfl) rfl rfl ⟨(Nat.le_of_ble_eq_true rfl), (Nat.le_of_ble_eq_true rfl)⟩ ⟨(Nat.le_of_ble_eq_true rfl), (Nat.le_of_ble_eq_true rfl)⟩ (fun u hu => ?_)
  subst hu
  refine z_fill (mp := [1]) (gs := [wX12 (zcT C) aO sO, [(u 0, .inr (0, [.null, .int 0, .int 0, .int 0]))]]) (g := 1) (L := 2) (w := wJ4 (zcT C) u zst0) rfl (by decide) (by decide) (by decide) ?_
  refine z_astore_n (lv2 := [(2, .ref (u 0)), (0, .ref (aO 0)), (1, .int x1)]) X dX12_line_7 rfl (by decide) rfl ?_
  refine z_at (pc2 := 8) (lv2 := [(0, .ref (aO 0)), (1, .int x1), (2, .ref (u 0))]) (st2 := []) (ws2 := [wX12 (zcT C) aO sO, wJ4 (zcT C) u zst0]) rfl rfl rfl [1, 2, 0] rfl ?_
  exact bX12_line_0 X Y (fun lv => z_bret X hQ dX12_line_174 1 rfl (by decide) (by decide) (by decide) (by decide)) hf
