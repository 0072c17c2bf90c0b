/-! The builder made; its methods as functions. Written by wip/gen/mksb3.py. -/
theorem zj825 : Cond.arrayClass .byte ∈ zW := zW_tab (List.mem_of_getElem? (i := 825) (by decide +kernel)) (by decide +kernel)
theorem zj1611 : Cond.methodLink RJ4 1 yJ5_init_d00df ∈ zW := zW_tab (List.mem_of_getElem? (i := 1611) (by decide +kernel)) (by decide +kernel)
theorem zj1612 : Cond.instanceMethod yJ5_init_d00df ∈ zW := zW_tab (List.mem_of_getElem? (i := 1612) (by decide +kernel)) (by decide +kernel)
theorem zj1613 : Cond.code yJ5_init_d00df cJ5_init_d00df 2 none ∈ zW := zW_tab (List.mem_of_getElem? (i := 1613) (by decide +kernel)) (by decide +kernel)
theorem zj1614 : Cond.methodLink RJ5 3 objectInit ∈ zW := zW_tab (List.mem_of_getElem? (i := 1614) (by decide +kernel)) (by decide +kernel)
section ZSI
variable {C : zCtx} {cc : ByteArray} {nL : Nat} {own : String} {rm : Room} {ret : Option FieldType} {mp mp2 : List Nat} {cells slots : Nat} {ws : List va_W} {pc : Nat} {lv : List (Nat × Value)} {st st0 : List Value}
variable {y : MethodName} {bytes : ByteArray} {maxL n index mc ms : Nat} {rmc : Room} {wc : List va_W} {As : List Value} {b : Nat} {e : va_E} {G : (Nat → Nat) → List va_W} {base : Nat}
theorem z_sI (X : zFx C cc nL own rm ret) (Y : zSy C base) (hM : ∀ base sz, Met (zcl C) y (zws y bytes maxL none) rmc (zPs (zcD C) (zcT C) (.ref b :: As) wc [[(b, e)]] base sz) (zQn (zcD C) b G (zA [[(b, e)]] sz)) mc ms (zA [[(b, e)]] sz)) (M : Cond.code y bytes maxL none ∈ zW ∧ Cond.initialized y.cls ∈ zW ∧ Cond.instanceMethod y ∈ zW ∧ (y.cls ≠ "java/lang/invoke/MethodHandle" ∧ y.cls ≠ "java/lang/invoke/VarHandle" ∧ (parseMethodDescriptor y.desc).map (fun d => d.parameters.length) = some n)) (hyn : y.name = "<init>") (hlk : Cond.methodLink own index y ∈ zW) (hd : decode cc pc = .ok (.invokespecial index, 3)) (g L : Nat) (hL : ws.length = L) (hg : ws[g]? = some [(b, e)]) (isC : List Nat) (hC : isC.map (fun i => ws[i]?) = wc.map some) (hCn : va_nd isC = true) (hgm : g ∈ mp) (hmp : ∀ k ∈ mp2, k ∈ mp ∨ L ≤ k) (hst : st0 = As.reverse ++ .ref b :: st) (hn : As.length = n) (hcat : (st.map fun v => v.category).sum ≤ 8)
    (hrc : rmc.cells = mc) (hrs : rmc.slots = ms) (hroom : rmc.frames + 1 ≤ rm.frames ∧ 8 + (maxL + 11) + rmc.locals ≤ rm.locals) (hf : cells + mc ≤ rm.cells ∧ slots + ms ≤ rm.slots)
    (kk : ∀ u : Nat → Nat, u 0 = b → zG C nL mp2 (cells + mc) (slots + ms) (ws.set g [] ++ G u) (pc + 3) lv st) : zG C nL mp cells slots ws pc lv st0 := by
  intro H locs ls hP hD hmpA hS hl
  have hwA : ∀ q : Nat, zA [[(b, e)]] H.size q → zcA C q := by
    intro q hq
    rcases hq with ⟨w, hw, hx⟩ | hq
    · have hw1 : w = [(b, e)] := by simpa using hw
      subst hw1
      exact hmpA g hgm _ hg q hx
    · exact X.2.2.2.2.2.2.1 q (Nat.le_trans hS.1 hq)
  have hpre : ∀ U : State, U.heap = H → (zcs C).WarmedH U.vm → zPs (zcD C) (zcT C) (.ref b :: As) wc [[(b, e)]] base H.size (.ref b :: As).toArray U := fun U hU hW => ⟨⟨rfl, by rw [hU], by rw [hU]; exact zsubP hP isC hC, va_K.moved hW.alike X.2.2.2.2.2.1, zsubD hD isC hCn hC, X.2.2.2.2.2.2.2.2.2.2.warm hW⟩, zS_at Y hS hU hW, Nat.le_trans Y.2.2 hS.1, fun w hw x hx => Y.2.1 x (hwA x (Or.inl ⟨w, hw, hx⟩))⟩
  subst hst
  refine va_callv (va_runI (As := As) (rest := st) ⟨X.1, X.2.1, X.2.2.1, X.2.2.2.1, X.2.2.2.2.1⟩ (hM base H.size) ⟨zcallB X.2.2.2.2.1 M.1 M.2.1 hlk M.2.2.2 hrc hrs (X.2.2.2.2.2.2.2.2.1 ▸ hroom), hyn, X.2.2.2.2.1 _ M.2.2.1⟩ ⟨zPs_blind, hpre⟩ rfl hn hl.1 rfl (lv_room hcat) hd (X.2.2.2.2.2.2.2.2.1 ▸ hf)) hS (fun q _ h => hwA q h) hwA (fun u t H1 locs1 ht hvm hw hB hz1 hk1 hS1 => ?_)
  rw [ht] at hB
  obtain ⟨hu0, hua⟩ := hw
  obtain ⟨hP2, hD2⟩ := znewback hP hD hg hk1 hB.1 hB.2 hua
  refine kk u hu0 H1 locs1 ls hP2 hD2 (fun k hk w hw x hx => ?_) hS1 hl
  rcases zapp_at (L := L) (by simp [hL]) hw with ⟨h1, h2⟩ | ⟨-, h2⟩
  · rcases zset_at hg h2 with ⟨-, rfl⟩ | ⟨-, h3⟩
    · simp [zad] at hx
    · rcases hmp k hk with h | h
      · exact hmpA k h w h3 x hx
      · omega
  · exact hwA x (hua w (List.mem_of_getElem? h2) x hx)
end ZSI
abbrev zgJ4 (T : Nat → ClassId) (u : Nat → Nat) : List va_W := [wJ4 T u zst0]
abbrev rmcJ5 : Room := { frames := 1, cells := 1, slots := 16, locals := 12 }
set_option maxRecDepth 20000 in
theorem mcJ5 (l : Launch) (D : va_G) (T : Nat → ClassId) (h0 : Nat) (base sz : Nat) : Met l yJ5_init_d00df (zws yJ5_init_d00df cJ5_init_d00df 2 none) rmcJ5 (zPs D T [.ref h0, .int (16 : Int32)] [[(h0, .inr (0, [.null, .int 0, .int 0, .int 0]))]] [[(h0, .inr (0, [.null, .int 0, .int 0, .int 0]))]] base sz) (zQn D h0 (zgJ4 T) (zA [[(h0, .inr (0, [.null, .int 0, .int 0, .int 0]))]] sz)) 1 16 (zA [[(h0, .inr (0, [.null, .int 0, .int 0, .int 0]))]] sz) := by
  refine zMetS (D := D) (T := T) (av := [.ref h0, .int (16 : Int32)]) (ws := fun T => [[(h0, .inr (0, [.null, .int 0, .int 0, .int 0]))]]) (wm := fun T => [[(h0, .inr (0, [.null, .int 0, .int 0, .int 0]))]]) (lv0 := [(0, .ref h0), (1, .int (16 : Int32))]) [0] (Qc := fun D T A => zQn D h0 (zgJ4 T) A) (by decide +kernel) rfl (Nat.le_of_ble_eq_true rfl) rfl (fun C base X Y hQ => ?_) base sz
  refine z_aload_n X dJ5_init_d00df_0 0 rfl ?_
  refine z_objInit X zj1614 zc41 zc42 dJ5_init_d00df_1 (Nat.le_of_ble_eq_true rfl) (Nat.le_of_ble_eq_true rfl) ?_
  refine z_gets (v := .int (1 : Int32)) X Y Y.1.1 zj1615 dJ5_init_d00df_4 ?_
  refine z_if_eq (tgt := 25) X dJ5_init_d00df_7 (by decide) (fun c => absurd c (by decide)) (fun _ => ?_)
  refine z_aload_n X dJ5_init_d00df_10 0 rfl ?_
  refine z_iload_n X dJ5_init_d00df_11 1 rfl ?_
  refine z_newa (mp2 := [0, 1]) (atype := .byte) (ty := .byte) (N' := 16) (a0 := (16, .inl (fun _ => 0))) X 6 1 zj825 rfl rfl (fun _ => rfl) (by decide) (by decide) (by decide) rfl (by decide) (Nat.le_of_ble_eq_true rfl) (Nat.le_of_ble_eq_true rfl) dJ5_init_d00df_12 (fun q0a hqq0a => ?_)
  refine z_at (pc2 := 14) (lv2 := [(0, .ref h0)]) (st2 := [.ref q0a, .ref h0]) (ws2 := [[(h0, .inr (0, [.null, .int 0, .int 0, .int 0]))], [(q0a, .inl (zcT C 6, 16, .inl (fun _ => 0)))]]) rfl rfl rfl [0] rfl ?_
  refine z_putI (ws2 := [[(h0, .inr (0, [.ref q0a, .int 0, .int 0, .int 0]))], [(q0a, .inl (zcT C 6, 16, .inl (fun _ => 0)))]]) (w2 := [(h0, .inr (0, [.ref q0a, .int 0, .int 0, .int 0]))]) X 0 0 0 0 ziJ4 rfl tyJ4 tyJ4_ok nmJ4 (by decide) zj1624 rfl (ty := (.array .byte)) (by decide +kernel) rfl rfl (by show 0 < 4; decide) dJ5_init_d00df_14 rfl rfl (by decide) rfl rfl ?_
  refine z_aload_n X dJ5_init_d00df_17 0 rfl ?_
  refine z_iconst (v := (0 : Int32)) X dJ5_init_d00df_18 rfl ?_
  refine z_putI (ws2 := [[(h0, .inr (0, [.ref q0a, .int (0 : Int32), .int 0, .int 0]))], [(q0a, .inl (zcT C 6, 16, .inl (fun _ => 0)))]]) (w2 := [(h0, .inr (0, [.ref q0a, .int (0 : Int32), .int 0, .int 0]))]) X 0 0 0 1 ziJ4 rfl tyJ4 tyJ4_ok nmJ4 (by decide) zj1625 rfl (ty := .byte) (by decide +kernel) rfl rfl (by show 1 < 4; decide) dJ5_init_d00df_19 rfl rfl (by decide) rfl rfl ?_
  refine z_goto (tgt := 38) X dJ5_init_d00df_22 (by decide) ?_
  exact z_cret (G := zgJ4 (zcT C)) X hQ dJ5_init_d00df_38 (fun k => [h0, q0a].getD k 0) rfl [[(0, 0), (1, 0)]] rfl (by decide) (by decide) (by decide) (by decide)
abbrev rmcJ4 : Room := { frames := 2, cells := 1, slots := 16, locals := 33 }
theorem mcJ4 (l : Launch) (D : va_G) (T : Nat → ClassId) (h0 : Nat) (base sz : Nat) : Met l yJ4_init_da8c8 (zws yJ4_init_da8c8 cJ4_init_da8c8 1 none) rmcJ4 (zPs D T [.ref h0] [[(h0, .inr (0, [.null, .int 0, .int 0, .int 0]))]] [[(h0, .inr (0, [.null, .int 0, .int 0, .int 0]))]] base sz) (zQn D h0 (zgJ4 T) (zA [[(h0, .inr (0, [.null, .int 0, .int 0, .int 0]))]] sz)) 1 16 (zA [[(h0, .inr (0, [.null, .int 0, .int 0, .int 0]))]] sz) := by
  refine zMetS (D := D) (T := T) (av := [.ref h0]) (ws := fun T => [[(h0, .inr (0, [.null, .int 0, .int 0, .int 0]))]]) (wm := fun T => [[(h0, .inr (0, [.null, .int 0, .int 0, .int 0]))]]) (lv0 := [(0, .ref h0)]) [0] (Qc := fun D T A => zQn D h0 (zgJ4 T) A) (by decide +kernel) rfl (Nat.le_of_ble_eq_true rfl) rfl (fun C base X Y hQ => ?_) base sz
  refine z_aload_n X dJ4_init_da8c8_0 0 rfl ?_
  refine z_bipush (v := (16 : Int32)) X dJ4_init_da8c8_1 rfl ?_
  refine z_sI (mp2 := [0, 1]) (st := []) X Y (mcJ5 (zcl C) (zcD C) (zcT C) h0) ⟨zj1613, zj22, zj1612, (by decide +kernel)⟩ rfl zj1611 dJ4_init_da8c8_3 0 1 rfl rfl [0] rfl rfl (by decide) (by decide) rfl rfl (Nat.le_of_ble_eq_true rfl) rfl rfl ⟨(Nat.le_of_ble_eq_true rfl), (Nat.le_of_ble_eq_true rfl)⟩ ⟨(Nat.le_of_ble_eq_true rfl), (Nat.le_of_ble_eq_true rfl)⟩ (fun u hu => ?_)
  exact z_cret (G := zgJ4 (zcT C)) X hQ dJ4_init_da8c8_6 u hu [[(1, 0), (1, 1)]] rfl (by decide) (by decide) (by decide) (by decide)
def fJ4_append_cf468 (sO : zSt) (x1 : Int32) : Option (zSt) :=
  if (zgi sO 1 = 0) ∧ ((zgi sO 3 + (1 : Int32)) - (16 : Int32) >>> (zgi sO 1 &&& 31) ≤ 0) ∧ (¬ (255 : Int32) < x1) ∧ (zin (zgi sO 3) 16 = true) then some (zsw (zsi sO 3 ((zgi sO 3) + (1 : Int32))) (zgi sO 3) (x1).toInt8.toInt32)
  else none
theorem metfJ4_append_cf468 (l : Launch) (D : va_G) (T : Nat → ClassId) (aO : Nat → Nat) {sO : zSt} {x1 : Int32} {out : zSt} (hf : fJ4_append_cf468 sO x1 = some out) (base sz : Nat) : Met l yJ4_append_cf468 (zws yJ4_append_cf468 cJ4_append_cf468 2 (some (.object "java/lang/StringBuilder"))) rmJ4_append_cf468 (zPs D T [.ref (aO 0), .int x1] [wJ4 T aO sO] [wJ4 T aO sO] base sz) (zQr D (aO 0) [wJ4 T aO out] (zA [wJ4 T aO sO] sz)) 0 0 (zA [wJ4 T aO sO] sz) := by
  unfold fJ4_append_cf468 at hf
  split at hf
  · rename_i hg
    cases hf
    exact metJ4_append_cf468 l D T hg.1 hg.2.1 hg.2.2.1 hg.2.2.2 base sz
  · cases hf
def fJ4_append_bf812 (sO : zSt) (x1 : Int32) : Option (zSt) :=
  if (zgi sO 1 = 0) ∧ (¬ x1 < 0) ∧ (¬ (-x1) ≤ (-10 : Int32)) ∧ ((zgi sO 3 + ((1 : Int32) + (0 : Int32))) - (16 : Int32) >>> (zgi sO 1 &&& 31) ≤ 0) ∧ ((-100 : Int32) < (-x1)) ∧ ((-9 : Int32) ≤ (-x1)) ∧ (zin (-(-x1)) 100 = true) ∧ (zin ((zgi sO 3 + ((1 : Int32) + (0 : Int32))) + (-1)) 16 = true) then some (zsi (zsw sO ((zgi sO 3 + ((1 : Int32) + (0 : Int32))) + (-1)) (Int32.ofNat (48 + (-(-x1)).toNatClampNeg % 10))) 3 ((zgi sO 3) + ((1 : Int32) + (0 : Int32))))
  else if (zgi sO 1 = 0) ∧ (¬ x1 < 0) ∧ ((-x1) ≤ (-10 : Int32)) ∧ (¬ (-x1) ≤ (10 : Int32) * (-10 : Int32)) ∧ ((zgi sO 3 + (((1 : Int32) + 1) + (0 : Int32))) - (16 : Int32) >>> (zgi sO 1 &&& 31) ≤ 0) ∧ ((-100 : Int32) < (-x1)) ∧ (¬ (-9 : Int32) ≤ (-x1)) ∧ (zin (-(-x1)) 100 = true) ∧ (zin ((zgi sO 3 + (((1 : Int32) + 1) + (0 : Int32))) + (-1)) 16 = true) ∧ (zin (((zgi sO 3 + (((1 : Int32) + 1) + (0 : Int32))) + (-1)) + (-1)) 16 = true) then some (zsi (zsw (zsw sO ((zgi sO 3 + (((1 : Int32) + 1) + (0 : Int32))) + (-1)) (Int32.ofNat (48 + (-(-x1)).toNatClampNeg % 10))) (((zgi sO 3 + (((1 : Int32) + 1) + (0 : Int32))) + (-1)) + (-1)) (Int32.ofNat (48 + (-(-x1)).toNatClampNeg / 10))) 3 ((zgi sO 3) + (((1 : Int32) + 1) + (0 : Int32))))
  else if (zgi sO 1 = 0) ∧ (x1 < 0) ∧ (¬ x1 ≤ (-10 : Int32)) ∧ ((zgi sO 3 + ((1 : Int32) + (1 : Int32))) - (16 : Int32) >>> (zgi sO 1 &&& 31) ≤ 0) ∧ ((-100 : Int32) < x1) ∧ ((-9 : Int32) ≤ x1) ∧ (zin (-x1) 100 = true) ∧ (zin ((zgi sO 3 + ((1 : Int32) + (1 : Int32))) + (-1)) 16 = true) ∧ (zin (((zgi sO 3 + ((1 : Int32) + (1 : Int32))) + (-1)) + (-1)) 16 = true) then some (zsi (zsw (zsw sO ((zgi sO 3 + ((1 : Int32) + (1 : Int32))) + (-1)) (Int32.ofNat (48 + (-x1).toNatClampNeg % 10))) (((zgi sO 3 + ((1 : Int32) + (1 : Int32))) + (-1)) + (-1)) (45 : Int32)) 3 ((zgi sO 3) + ((1 : Int32) + (1 : Int32))))
  else if (zgi sO 1 = 0) ∧ (x1 < 0) ∧ (x1 ≤ (-10 : Int32)) ∧ (¬ x1 ≤ (10 : Int32) * (-10 : Int32)) ∧ ((zgi sO 3 + (((1 : Int32) + 1) + (1 : Int32))) - (16 : Int32) >>> (zgi sO 1 &&& 31) ≤ 0) ∧ ((-100 : Int32) < x1) ∧ (¬ (-9 : Int32) ≤ x1) ∧ (zin (-x1) 100 = true) ∧ (zin ((zgi sO 3 + (((1 : Int32) + 1) + (1 : Int32))) + (-1)) 16 = true) ∧ (zin (((zgi sO 3 + (((1 : Int32) + 1) + (1 : Int32))) + (-1)) + (-1)) 16 = true) ∧ (zin ((((zgi sO 3 + (((1 : Int32) + 1) + (1 : Int32))) + (-1)) + (-1)) + (-1)) 16 = true) then some (zsi (zsw (zsw (zsw sO ((zgi sO 3 + (((1 : Int32) + 1) + (1 : Int32))) + (-1)) (Int32.ofNat (48 + (-x1).toNatClampNeg % 10))) (((zgi sO 3 + (((1 : Int32) + 1) + (1 : Int32))) + (-1)) + (-1)) (Int32.ofNat (48 + (-x1).toNatClampNeg / 10))) ((((zgi sO 3 + (((1 : Int32) + 1) + (1 : Int32))) + (-1)) + (-1)) + (-1)) (45 : Int32)) 3 ((zgi sO 3) + (((1 : Int32) + 1) + (1 : Int32))))
  else none
theorem metfJ4_append_bf812 (l : Launch) (D : va_G) (T : Nat → ClassId) (aO : Nat → Nat) {sO : zSt} {x1 : Int32} {out : zSt} (hf : fJ4_append_bf812 sO x1 = some out) (base sz : Nat) : Met l yJ4_append_bf812 (zws yJ4_append_bf812 cJ4_append_bf812 2 (some (.object "java/lang/StringBuilder"))) rmJ4_append_bf812 (zPs D T [.ref (aO 0), .int x1] [wJ4 T aO sO] [wJ4 T aO sO] base sz) (zQr D (aO 0) [wJ4 T aO out] (zA [wJ4 T aO sO] sz)) 0 0 (zA [wJ4 T aO sO] sz) := by
  unfold fJ4_append_bf812 at hf
  split at hf
  · rename_i hg
    cases hf
    exact metJ4_append_bf8121 l D T hg.1 hg.2.1 hg.2.2.1 hg.2.2.2.1 hg.2.2.2.2.1 hg.2.2.2.2.2.1 hg.2.2.2.2.2.2.1 hg.2.2.2.2.2.2.2 base sz
  · split at hf
    · rename_i hg
      cases hf
      exact metJ4_append_bf8122 l D T hg.1 hg.2.1 hg.2.2.1 hg.2.2.2.1 hg.2.2.2.2.1 hg.2.2.2.2.2.1 hg.2.2.2.2.2.2.1 hg.2.2.2.2.2.2.2.1 hg.2.2.2.2.2.2.2.2.1 hg.2.2.2.2.2.2.2.2.2 base sz
    · split at hf
      · rename_i hg
        cases hf
        exact metJ4_append_bf8123 l D T hg.1 hg.2.1 hg.2.2.1 hg.2.2.2.1 hg.2.2.2.2.1 hg.2.2.2.2.2.1 hg.2.2.2.2.2.2.1 hg.2.2.2.2.2.2.2.1 hg.2.2.2.2.2.2.2.2 base sz
      · split at hf
        · rename_i hg
          cases hf
          exact metJ4_append_bf8124 l D T hg.1 hg.2.1 hg.2.2.1 hg.2.2.2.1 hg.2.2.2.2.1 hg.2.2.2.2.2.1 hg.2.2.2.2.2.2.1 hg.2.2.2.2.2.2.2.1 hg.2.2.2.2.2.2.2.2.1 hg.2.2.2.2.2.2.2.2.2.1 hg.2.2.2.2.2.2.2.2.2.2 base sz
        · cases hf
def fJ4_charAt_5068e (sO : zSt) (x1 : Int32) : Option (Int32) :=
  if (zgi sO 1 = 0) ∧ (¬ (16 : Int32) >>> (zgi sO 1 &&& 31) < zgi sO 3) ∧ (¬ x1 < 0) ∧ (x1 < zgi sO 3) ∧ (zin x1 16 = true) ∧ (znar .char (((zga sO 0 (x1).toNatClampNeg) &&& (255 : Int32)).toUInt32 % 65536).toInt32 = true) then some (((zga sO 0 (x1).toNatClampNeg) &&& (255 : Int32)).toUInt32 % 65536).toInt32
  else none
theorem metfJ4_charAt_5068e (l : Launch) (D : va_G) (T : Nat → ClassId) (aO : Nat → Nat) {sO : zSt} {x1 : Int32} {out : Int32} (hf : fJ4_charAt_5068e sO x1 = some out) (base sz : Nat) : Met l yJ4_charAt_5068e (zws yJ4_charAt_5068e cJ4_charAt_5068e 2 (some .char)) rmJ4_charAt_5068e (zPs D T [.ref (aO 0), .int x1] [wJ4 T aO sO] [] base sz) (zQi D out [] (zA [] sz)) 0 0 (zA [] sz) := by
  unfold fJ4_charAt_5068e at hf
  split at hf
  · rename_i hg
    cases hf
    exact metJ4_charAt_5068e l D T hg.1 hg.2.1 hg.2.2.1 hg.2.2.2.1 hg.2.2.2.2.1 hg.2.2.2.2.2 base sz
  · cases hf
def fJ4_length_8abf5 (sO : zSt) : Option Int32 := some (zgi sO 3)
theorem metfJ4_length_8abf5 (l : Launch) (D : va_G) (T : Nat → ClassId) (aO : Nat → Nat) {sO : zSt} {out : Int32} (hf : fJ4_length_8abf5 sO = some out) (base sz : Nat) : Met l yJ4_length_8abf5 (zws yJ4_length_8abf5 cJ4_length_8abf5 1 (some .int)) rmJ4_length_8abf5 (zPs D T [.ref (aO 0)] [wJ4 T aO sO] [] base sz) (zQi D out [] (zA [] sz)) 0 0 (zA [] sz) := by
  cases hf
  exact metJ4_length_8abf5 l D T base sz
