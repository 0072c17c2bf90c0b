/-! The reference's lineLength and lineAt. Written by wip/gen/mkline3.py. -/
theorem zj1578 : Cond.methodLink RX12 199 yX12_isRow ∈ zW := zW_tab (List.mem_of_getElem? (i := 1578) (by decide +kernel)) (by decide +kernel)
theorem zj1550 : Cond.methodLink RX12 188 yX12_checked ∈ zW := zW_tab (List.mem_of_getElem? (i := 1550) (by decide +kernel)) (by decide +kernel)
theorem zj1605 : Cond.code yX12_line cX12_line 5 (some (.object "java/lang/StringBuilder")) ∈ zW := zW_tab (List.mem_of_getElem? (i := 1605) (by decide +kernel)) (by decide +kernel)
theorem zj13 : Cond.initialized RX12 ∈ zW := zW_tab (List.mem_of_getElem? (i := 13) (by decide +kernel)) (by decide +kernel)
theorem zj1604 : Cond.instanceMethod yX12_line ∈ zW := zW_tab (List.mem_of_getElem? (i := 1604) (by decide +kernel)) (by decide +kernel)
theorem zmX12_line : zMV yX12_line cX12_line 5 (some (.object "java/lang/StringBuilder")) 1 := ⟨zj1605, zj13, zj1604, (zW_mem 78 (by decide +kernel) (by decide +kernel)), (by decide +kernel)⟩
theorem zj1602 : Cond.methodLink RX12 218 yX12_line ∈ zW := zW_tab (List.mem_of_getElem? (i := 1602) (by decide +kernel)) (by decide +kernel)
theorem zj1731 : Cond.methodLink RX12 213 yJ4_length_8abf5 ∈ zW := zW_tab (List.mem_of_getElem? (i := 1731) (by decide +kernel)) (by decide +kernel)
theorem zj1345 : Cond.fieldLink RX12 39 RX12 (TX12 9).2.1 (TX12 9).2.2.1 ∈ zW := zW_tab (List.mem_of_getElem? (i := 1345) (by decide +kernel)) (by decide +kernel)
theorem zj1779 : Cond.code yJ4_charAt_5068e cJ4_charAt_5068e 2 (some .char) ∈ zW := zW_tab (List.mem_of_getElem? (i := 1779) (by decide +kernel)) (by decide +kernel)
theorem zj1777 : Cond.instanceMethod yJ4_charAt_5068e ∈ zW := zW_tab (List.mem_of_getElem? (i := 1777) (by decide +kernel)) (by decide +kernel)
theorem zj1778 : Cond.selects RJ4 yJ4_charAt_5068e yJ4_charAt_5068e ∈ zW := zW_tab (List.mem_of_getElem? (i := 1778) (by decide +kernel)) (by decide +kernel)
theorem zmJ4_charAt_5068e : zMV yJ4_charAt_5068e cJ4_charAt_5068e 2 (some .char) 1 := ⟨zj1779, zj23, zj1777, zj1778, (by decide +kernel)⟩
theorem zj1776 : Cond.methodLink RX12 221 yJ4_charAt_5068e ∈ zW := zW_tab (List.mem_of_getElem? (i := 1776) (by decide +kernel)) (by decide +kernel)
section ZLU
variable {C : zCtx} {cc : ByteArray} {nL : Nat} {own : String} {rm : Room} {ret : Option FieldType} {mp mp2 : List Nat} {cells slots : Nat} {ws : List va_W} {pc : Nat} {lv : List (Nat × Value)} {st st0 : List Value}
variable {y : MethodName} {bytes : ByteArray} {maxL n index mc ms : Nat} {retc : Option FieldType} {rmc : Room} {wc : List va_W} {As : List Value} {b : Nat} {base : Nat}
theorem z_callB (X : zFx C cc nL own rm ret) (Y : zSy C base) {out : zSt} (hM : ∀ base sz, Met (zcl C) y (zws y bytes maxL retc) rmc (zPs (zcD C) (zcT C) (.ref b :: As) wc [] base sz) (zQb (zcD C) (zcT C) out (zA [] sz)) mc ms (zA [] sz)) (M : zMV y bytes maxL retc n) (hlk : Cond.methodLink own index y ∈ zW) (hd : decode cc pc = .ok (.invokevirtual index, 3)) (g j ci : Nat) {w : va_W} {fs : List Value} {qcl : vw_C} (hg : ws[g]? = some w) (hrv : w[j]? = some (b, .inr (ci, fs))) (hcl : vwCl[ci]? = some qcl) (hyc : qcl.1 = y.cls) (isC : List Nat) (hC : isC.map (fun i => ws[i]?) = wc.map some) (hCn : va_nd isC = true) (L : Nat) (hL : ws.length = L) (hmp : ∀ k ∈ mp2, k ∈ mp ∨ k = L) (hst : st0 = As.reverse ++ .ref b :: st) (hn : As.length = n) (hcat : (st.map fun v => v.category).sum ≤ 8)
    (hrc : rmc.cells = mc) (hrs : rmc.slots = ms) (hroom : rmc.frames + 1 ≤ rm.frames ∧ 8 + (maxL + 11) + rmc.locals ≤ rm.locals) (hf : cells + mc ≤ rm.cells ∧ slots + ms ≤ rm.slots)
    (kk : ∀ u : Nat → Nat, zG C nL mp2 (cells + mc) (slots + ms) (ws ++ [wJ4 (zcT C) u out]) (pc + 3) lv (.ref (u 0) :: st)) : zG C nL mp cells slots ws pc lv st0 := by
  intro H locs ls hP hD hmpA hS hl
  have hge : ∀ q : Nat, zA [] H.size q → H.size ≤ q := fun q hq => hq.elim (fun ⟨w, hw, _⟩ => absurd hw List.not_mem_nil) id
  have hwA : ∀ q : Nat, zA [] H.size q → zcA C q := fun q hq => X.2.2.2.2.2.2.1 q (Nat.le_trans hS.1 (hge q hq))
  have hpre : ∀ U : State, U.heap = H → (zcs C).WarmedH U.vm → zPs (zcD C) (zcT C) (.ref b :: As) wc [] base H.size (.ref b :: As).toArray U := fun U hU hW => ⟨⟨rfl, by rw [hU], by rw [hU]; exact zsubP hP isC hC, va_K.moved hW.alike X.2.2.2.2.2.1, zsubD hD isC hCn hC, X.2.2.2.2.2.2.2.2.2.2.warm hW⟩, zS_at Y hS hU hW, Nat.le_trans Y.2.2 hS.1, fun w hw => absurd hw List.not_mem_nil⟩
  subst hst
  refine va_callr (va_runV (As := As) (rest := st) ⟨X.1, X.2.1, X.2.2.1, X.2.2.2.1, X.2.2.2.2.1⟩ (hM base H.size) ⟨zcallB X.2.2.2.2.1 M.1 M.2.1 hlk M.2.2.2.2 hrc hrs (X.2.2.2.2.2.2.2.2.1 ▸ hroom), X.2.2.2.2.1 _ M.2.2.1, X.2.2.2.2.1 _ M.2.2.2.1⟩ ⟨zPs_blind, hyc ▸ va_recv X.2.2.2.2.2.1 (hP g _ hg) hcl hrv, hpre⟩ rfl hn hl.1 rfl (lv_room hcat) hd (X.2.2.2.2.2.2.2.2.1 ▸ hf)) hS (fun q _ h => hwA q h) hwA (fun u r t H1 locs1 ht hvm hua hB hz1 hk1 hS1 => ?_)
  obtain ⟨rfl, hP1, hD1⟩ := hB
  rw [ht] at hP1
  have hn2 : ∀ x ∈ zad (wJ4 (zcT C) u out), H.size ≤ x := fun x hx => hge x (hua x hx)
  exact kk u H1 locs1 ls (zGP_push hP (fun q hq => hk1 q hq (fun h => absurd (hge q h) (Nat.not_le.mpr hq))) (hP1 0 _ rfl)) (zGD_push hP hD (hD1.1 0 _ rfl) hn2) (zM_push hL hmp hmpA (fun x hx => X.2.2.2.2.2.2.1 x (Nat.le_trans hS.1 (hn2 x hx)))) hS1 hl
end ZLU
/-- public int lineLength(int) of TableaufloorModel -/
def fX12_lineLength (sO : zSt) (x1 : Int32) : Option (Int32 × zSt) :=
  (fX12_isRow sO x1).bind (fun o3 => (fX12_checked sO o3).bind (fun o6 => if o6.1 ≤ 0 then (fX12_line o6.2 zst0 x1).bind (fun o18 => some (zgi o18 3, o6.2)) else some ((0 : Int32), o6.2)))
abbrev rmX12_lineLength : Room := { frames := 4, cells := 2, slots := 20, locals := 94 }
theorem metX12_lineLength (l : Launch) (D : va_G) (T : Nat → ClassId) (aO : Nat → Nat) {sO : zSt} {x1 : Int32} {out : Int32 × zSt} (hf : fX12_lineLength sO x1 = some out) (base sz : Nat) : Met l yX12_lineLength (zws yX12_lineLength cX12_lineLength 2 (some .int)) rmX12_lineLength (zPs D T [.ref (aO 0), .int x1] [wX12 T aO sO] [wX12 T aO sO] base sz) (zQi D out.1 [wX12 T aO out.2] (zA [wX12 T aO sO] sz)) 2 20 (zA [wX12 T aO sO] sz) := by
  refine zMetS (D := D) (T := T) (av := [.ref (aO 0), .int x1]) (ws := fun T => [wX12 T aO sO]) (wm := fun T => [wX12 T aO sO]) (lv0 := [(0, .ref (aO 0)), (1, .int x1)]) [0] (Qc := fun D T A => zQi D out.1 [wX12 T aO out.2] A) (by decide +kernel) rfl (Nat.le_of_ble_eq_true rfl) rfl (fun C base X Y hQ => ?_) base sz
  obtain ⟨o3, h3, h⟩ := zbind_of hf
  obtain ⟨o6, h6, h⟩ := zbind_of h
  refine z_aload_n X dX12_lineLength_0 0 rfl ?_
  refine z_aload_n X dX12_lineLength_1 0 rfl ?_
  refine z_iload_n X dX12_lineLength_2 1 rfl ?_
  refine z_callVi (st := [.ref (aO 0)]) (ws2 := [wX12 (zcT C) aO sO]) X (metX12_isRow (zcl C) (zcD C) (zcT C) aO h3) zmX12_isRow zj1578 dX12_lineLength_3 0 0 13 rfl rfl rfl rfl [0] rfl rfl [] rfl (by decide) trivial rfl rfl rfl (Nat.le_of_ble_eq_true rfl) rfl rfl ⟨(Nat.le_of_ble_eq_true rfl), (Nat.le_of_ble_eq_true rfl)⟩ ⟨(Nat.le_of_ble_eq_true rfl), (Nat.le_of_ble_eq_true rfl)⟩ ?_
  refine z_callVi (st := []) (ws2 := [wX12 (zcT C) aO o6.2]) X (metX12_checked (zcl C) (zcD C) (zcT C) aO h6) zmX12_checked zj1550 dX12_lineLength_6 0 0 13 rfl rfl rfl rfl [0] rfl rfl [0] rfl (by decide) ⟨zsX12, trivial⟩ rfl rfl rfl (Nat.le_of_ble_eq_true rfl) rfl rfl ⟨(Nat.le_of_ble_eq_true rfl), (Nat.le_of_ble_eq_true rfl)⟩ ⟨(Nat.le_of_ble_eq_true rfl), (Nat.le_of_ble_eq_true rfl)⟩ ?_
  refine z_if_le (tgt := 16) X dX12_lineLength_9 (by decide) (fun c => ?_) (fun c => ?_)
  · replace h := zif_t h c
    obtain ⟨o18, h18, h⟩ := zbind_of h
    cases h
    refine z_aload_n X dX12_lineLength_16 0 rfl ?_
    refine z_iload_n X dX12_lineLength_17 1 rfl ?_
    refine z_callB (mp2 := [0, 1]) (st := []) X Y (metX12_line (zcl C) (zcD C) (zcT C) aO h18) zmX12_line zj1602 dX12_lineLength_18 0 0 13 rfl rfl rfl rfl [0] rfl rfl 1 rfl (by decide) rfl rfl (Nat.le_of_ble_eq_true rfl) rfl rfl ⟨(Nat.le_of_ble_eq_true rfl), (Nat.le_of_ble_eq_true rfl)⟩ ⟨(Nat.le_of_ble_eq_true rfl), (Nat.le_of_ble_eq_true rfl)⟩ (fun u => ?_)
    refine z_sVi (st := []) (ws2 := [wX12 (zcT C) aO o6.2, wJ4 (zcT C) u o18]) X Y (metJ4_length_8abf5 (zcl C) (zcD C) (zcT C)) zmJ4_length_8abf5 zj1731 dX12_lineLength_21 1 0 0 rfl rfl rfl rfl [1] rfl rfl [] rfl (by decide) trivial rfl rfl rfl (Nat.le_of_ble_eq_true rfl) rfl rfl ⟨(Nat.le_of_ble_eq_true rfl), (Nat.le_of_ble_eq_true rfl)⟩ ⟨(Nat.le_of_ble_eq_true rfl), (Nat.le_of_ble_eq_true rfl)⟩ ?_
    exact z_iret X hQ dX12_lineLength_24 rfl [0] rfl (by decide) (by decide)
  · replace h := zif_f h c
    cases h
    refine z_iconst (v := (0 : Int32)) X dX12_lineLength_12 rfl ?_
    refine z_goto (tgt := 24) X dX12_lineLength_13 (by decide) ?_
    exact z_iret X hQ dX12_lineLength_24 rfl [0] rfl (by decide) (by decide)
/-- groups of the world left out -/
theorem z_sub {C : zCtx} {nL : Nat} {mp mp2 : List Nat} {cells slots : Nat} {ws ws2 : List va_W} {pc : Nat} {lv : List (Nat × Value)} {st : List Value} (is : List Nat) (hm : is.map (fun i => ws[i]?) = ws2.map some) (hn : va_nd is = true) (hmp : ∀ k ∈ mp2, ∀ i, is[k]? = some i → i ∈ mp) (kk : zG C nL mp2 cells slots ws2 pc lv st) : zG C nL mp cells slots ws pc lv st := by
  intro H locs ls hP hD hM hS hl
  refine kk H locs ls (zsubP hP is hm) (zsubD hD is hn hm) (fun k hk w hw x hx => ?_) hS hl
  obtain ⟨i, h1, h2⟩ := zpl hm hw
  exact hM i (hmp k hk i h1) w h2 x hx
/-- public char lineAt(int, int) of TableaufloorModel, from the store on -/
def fX12_lineAt_30 (sO : zSt) (x1 x2 t : Int32) : Option (Int32 × zSt) :=
  zlet (zsi sO 9 t) (fun s => if zgi s 9 ≤ 0 then (fX12_line s zst0 x1).bind (fun o47 => (fJ4_charAt_5068e o47 x2).bind (fun o51 => if znar .char o51 = true then some (o51, s) else none)) else some ((32 : Int32), s))
def fX12_lineAt (sO : zSt) (x1 x2 : Int32) : Option (Int32 × zSt) :=
  (fX12_isRow sO x1).bind (fun o3 => if o3 = 0 then fX12_lineAt_30 sO x1 x2 (1 : Int32) else if x2 < 0 then fX12_lineAt_30 sO x1 x2 (1 : Int32) else (fX12_line sO zst0 x1).bind (fun o16 => if x2 < zgi o16 3 then fX12_lineAt_30 sO x1 x2 (0 : Int32) else fX12_lineAt_30 sO x1 x2 (1 : Int32)))
abbrev rmX12_lineAt : Room := { frames := 4, cells := 4, slots := 40, locals := 94 }
theorem bX12_lineAt_30 {C : zCtx} {base : Nat} (X : zFx C cX12_lineAt 3 RX12 rmX12_lineAt (some .char)) (Y : zSy C base) {aO : Nat → Nat} {sO : zSt} {x1 x2 t : Int32} {out : Int32 × zSt} (hQ : zHi C out.1 [wX12 (zcT C) aO out.2] 4 40) (hf : fX12_lineAt_30 sO x1 x2 t = some out) : zG C 3 [0] 2 20 [wX12 (zcT C) aO sO] 30 [(0, .ref (aO 0)), (1, .int x1), (2, .int x2)] [.int t, .ref (aO 0)] := by
  obtain ⟨s, es, h⟩ := zlet_of hf
  refine z_put (ws2 := [wX12 (zcT C) aO s]) X 0 0 13 9 ziX12 rfl tyX12 tyX12_ok nmX12 (by decide) zj1345 rfl rfl (ty := .int) (by decide +kernel) rfl rfl (by show 9 < 40; decide) dX12_lineAt_30 rfl rfl (by decide) (w2 := wX12 (zcT C) aO s) (by rw [es]; rfl) rfl ?_
  refine z_aload_n X dX12_lineAt_33 0 rfl ?_
  refine z_get (v := .int (zgi s 9)) X 0 0 13 9 ziX12 rfl (by decide) zj1345 rfl dX12_lineAt_34 rfl rfl rfl ?_
  refine z_if_le (tgt := 45) X dX12_lineAt_37 (by decide) (fun c => ?_) (fun c => ?_)
  · replace h := zif_t h c
    obtain ⟨o47, h47, h⟩ := zbind_of h
    obtain ⟨o51, h51, h⟩ := zbind_of h
    obtain ⟨gn, h⟩ := zgd_of h
    cases h
    refine z_aload_n X dX12_lineAt_45 0 rfl ?_
    refine z_iload_n X dX12_lineAt_46 1 rfl ?_
    refine z_callB (mp2 := [0, 1]) (st := []) X Y (metX12_line (zcl C) (zcD C) (zcT C) aO h47) zmX12_line zj1602 dX12_lineAt_47 0 0 13 rfl rfl rfl rfl [0] rfl rfl 1 rfl (by decide) rfl rfl (Nat.le_of_ble_eq_true rfl) rfl rfl ⟨(Nat.le_of_ble_eq_true rfl), (Nat.le_of_ble_eq_true rfl)⟩ ⟨(Nat.le_of_ble_eq_true rfl), (Nat.le_of_ble_eq_true rfl)⟩ (fun u => ?_)
    refine z_iload_n X dX12_lineAt_50 2 rfl ?_
    refine z_sVi (st := []) (ws2 := [wX12 (zcT C) aO s, wJ4 (zcT C) u o47]) X Y (metfJ4_charAt_5068e (zcl C) (zcD C) (zcT C) u h51) zmJ4_charAt_5068e zj1776 dX12_lineAt_51 1 0 0 rfl rfl rfl rfl [1] rfl rfl [] rfl (by decide) trivial rfl rfl rfl (Nat.le_of_ble_eq_true rfl) rfl rfl ⟨(Nat.le_of_ble_eq_true rfl), (Nat.le_of_ble_eq_true rfl)⟩ ⟨(Nat.le_of_ble_eq_true rfl), (Nat.le_of_ble_eq_true rfl)⟩ ?_
    exact z_nret X hQ gn dX12_lineAt_54 rfl [0] rfl (by decide) (by decide)
  · replace h := zif_f h c
    cases h
    refine z_bipush (v := (32 : Int32)) X dX12_lineAt_40 rfl ?_
    refine z_goto (tgt := 54) X dX12_lineAt_42 (by decide) ?_
    exact z_nret X hQ rfl dX12_lineAt_54 rfl [0] rfl (by decide) (by decide)
theorem metX12_lineAt (l : Launch) (D : va_G) (T : Nat → ClassId) (aO : Nat → Nat) {sO : zSt} {x1 x2 : Int32} {out : Int32 × zSt} (hf : fX12_lineAt sO x1 x2 = some out) (base sz : Nat) : Met l yX12_lineAt (zws yX12_lineAt cX12_lineAt 3 (some .char)) rmX12_lineAt (zPs D T [.ref (aO 0), .int x1, .int x2] [wX12 T aO sO] [wX12 T aO sO] base sz) (zQi D out.1 [wX12 T aO out.2] (zA [wX12 T aO sO] sz)) 4 40 (zA [wX12 T aO sO] sz) := by
  refine zMetS (D := D) (T := T) (av := [.ref (aO 0), .int x1, .int x2]) (ws := fun T => [wX12 T aO sO]) (wm := fun T => [wX12 T aO sO]) (lv0 := [(0, .ref (aO 0)), (1, .int x1), (2, .int x2)]) [0] (Qc := fun D T A => zQi D out.1 [wX12 T aO out.2] A) (by decide +kernel) rfl (Nat.le_of_ble_eq_true rfl) rfl (fun C base X Y hQ => ?_) base sz
  obtain ⟨o3, h3, h⟩ := zbind_of hf
  have one : ∀ {cells slots : Nat}, cells ≤ 2 → slots ≤ 20 → fX12_lineAt_30 sO x1 x2 (1 : Int32) = some out → zG C 3 [0] cells slots [wX12 (zcT C) aO sO] 25 [(0, .ref (aO 0)), (1, .int x1), (2, .int x2)] [.ref (aO 0)] := by
    intro cells slots h1 h2 h
    refine z_wid h1 h2 ?_
    refine z_iconst (v := (1 : Int32)) X dX12_lineAt_25 rfl ?_
    refine z_goto (tgt := 30) X dX12_lineAt_26 (by decide) ?_
    exact bX12_lineAt_30 X Y hQ h
  refine z_aload_n X dX12_lineAt_0 0 rfl ?_
  refine z_aload_n X dX12_lineAt_1 0 rfl ?_
  refine z_iload_n X dX12_lineAt_2 1 rfl ?_
  refine z_callVi (st := [.ref (aO 0)]) (ws2 := [wX12 (zcT C) aO sO]) X (metX12_isRow (zcl C) (zcD C) (zcT C) aO h3) zmX12_isRow zj1578 dX12_lineAt_3 0 0 13 rfl rfl rfl rfl [0] rfl rfl [] rfl (by decide) trivial rfl rfl rfl (Nat.le_of_ble_eq_true rfl) rfl rfl ⟨(Nat.le_of_ble_eq_true rfl), (Nat.le_of_ble_eq_true rfl)⟩ ⟨(Nat.le_of_ble_eq_true rfl), (Nat.le_of_ble_eq_true rfl)⟩ ?_
  refine z_if_eq (tgt := 25) X dX12_lineAt_6 (by decide) (fun c => ?_) (fun c => ?_)
  · exact one (by decide) (by decide) (zif_t h c)
  replace h := zif_f h c
  refine z_iload_n X dX12_lineAt_9 2 rfl ?_
  refine z_if_lt (tgt := 25) X dX12_lineAt_10 (by decide) (fun c => ?_) (fun c => ?_)
  · exact one (by decide) (by decide) (zif_t h c)
  replace h := zif_f h c
  obtain ⟨o16, h16, h⟩ := zbind_of h
  refine z_iload_n X dX12_lineAt_13 2 rfl ?_
  refine z_aload_n X dX12_lineAt_14 0 rfl ?_
  refine z_iload_n X dX12_lineAt_15 1 rfl ?_
  refine z_callB (mp2 := [0, 1]) (st := [.int x2, .ref (aO 0)]) X Y (metX12_line (zcl C) (zcD C) (zcT C) aO h16) zmX12_line zj1602 dX12_lineAt_16 0 0 13 rfl rfl rfl rfl [0] rfl rfl 1 rfl (by decide) rfl rfl (Nat.le_of_ble_eq_true rfl) rfl rfl ⟨(Nat.le_of_ble_eq_true rfl), (Nat.le_of_ble_eq_true rfl)⟩ ⟨(Nat.le_of_ble_eq_true rfl), (Nat.le_of_ble_eq_true rfl)⟩ (fun u => ?_)
  refine z_sVi (st := [.int x2, .ref (aO 0)]) (ws2 := [wX12 (zcT C) aO sO, wJ4 (zcT C) u o16]) X Y (metJ4_length_8abf5 (zcl C) (zcD C) (zcT C)) zmJ4_length_8abf5 zj1731 dX12_lineAt_19 1 0 0 rfl rfl rfl rfl [1] rfl rfl [] rfl (by decide) trivial rfl rfl rfl (Nat.le_of_ble_eq_true rfl) rfl rfl ⟨(Nat.le_of_ble_eq_true rfl), (Nat.le_of_ble_eq_true rfl)⟩ ⟨(Nat.le_of_ble_eq_true rfl), (Nat.le_of_ble_eq_true rfl)⟩ ?_
  refine z_sub (mp2 := [0]) (ws2 := [wX12 (zcT C) aO sO]) [0] rfl (by decide) (by decide) ?_
  refine z_icmp_lt (tgt := 29) X dX12_lineAt_22 (by decide) (fun c => ?_) (fun c => ?_)
  · refine z_iconst (v := (0 : Int32)) X dX12_lineAt_29 rfl ?_
    exact bX12_lineAt_30 X Y hQ (zif_t h c)
  · exact one (by decide) (by decide) (zif_f h c)
