/-! The builder's methods, along the one path that the reference's texts take: Latin-1, room for 16. Written by wip/gen/mksb2.py. -/
abbrev wJ4 (T : Nat → ClassId) (a : Nat → Nat) (σ : zSt) : va_W := [(a 0, .inr (0, [.ref (a 1), .int (zgi σ 1), .int (zgi σ 2), .int (zgi σ 3)])), (a 1, .inl (T 6, 16, .inl (zga σ 0)))]
theorem zaJ4 (T : Nat → ClassId) (a : Nat → Nat) (σ : zSt) : zad (wJ4 T a σ) = [a 0, a 1] := rfl
theorem zsJ4 {T : Nat → ClassId} {a : Nat → Nat} {σ τ : zSt} : zad (wJ4 T a σ) = zad (wJ4 T a τ) := (zaJ4 T a σ).trans (zaJ4 T a τ).symm
theorem ziJ4 : ∀ w ∈ u_ws RJ4 TJ4 4, w ∈ zW := fun w hw => zW_tab (List.all_eq_true.mp (show (u_ws RJ4 TJ4 4).all (fun w => decide (w ∈ tables_1)) = true by decide +kernel) w hw |> of_decide_eq_true) (List.all_eq_true.mp (show (u_ws RJ4 TJ4 4).all goodWord = true by decide +kernel) w hw)
theorem zj22 : Cond.initialized RJ5 ∈ zW := zW_tab (List.mem_of_getElem? (i := 22) (by decide +kernel)) (by decide +kernel)
theorem zj30 : Cond.initialized RJ1 ∈ zW := zW_tab (List.mem_of_getElem? (i := 30) (by decide +kernel)) (by decide +kernel)
theorem zj1605 : Cond.instantiable RJ4 4 ∈ zW := zW_tab (List.mem_of_getElem? (i := 1605) (by decide +kernel)) (by decide +kernel)
theorem zj1613 : Cond.fieldLink RJ5 18 RJ0 "COMPACT_STRINGS" "Z" ∈ zW := zW_tab (List.mem_of_getElem? (i := 1613) (by decide +kernel)) (by decide +kernel)
theorem zj1622 : Cond.fieldLink RJ5 15 (TJ4 0).1 (TJ4 0).2.1 (TJ4 0).2.2.1 ∈ zW := zW_tab (List.mem_of_getElem? (i := 1622) (by decide +kernel)) (by decide +kernel)
theorem zj1623 : Cond.fieldLink RJ5 22 (TJ4 1).1 (TJ4 1).2.1 (TJ4 1).2.2.1 ∈ zW := zW_tab (List.mem_of_getElem? (i := 1623) (by decide +kernel)) (by decide +kernel)
theorem zj1624 : Cond.fieldLink RJ5 79 (TJ4 3).1 (TJ4 3).2.1 (TJ4 3).2.2.1 ∈ zW := zW_tab (List.mem_of_getElem? (i := 1624) (by decide +kernel)) (by decide +kernel)
theorem zj1633 : Cond.superclass RJ4 RJ5 ∈ zW := zW_tab (List.mem_of_getElem? (i := 1633) (by decide +kernel)) (by decide +kernel)
theorem zj1638 : Cond.methodLink RJ4 50 yJ5_append_3fe6f ∈ zW := zW_tab (List.mem_of_getElem? (i := 1638) (by decide +kernel)) (by decide +kernel)
theorem zj1639 : Cond.instanceMethod yJ5_append_3fe6f ∈ zW := zW_tab (List.mem_of_getElem? (i := 1639) (by decide +kernel)) (by decide +kernel)
theorem zj1640 : Cond.code yJ5_append_3fe6f cJ5_append_3fe6f 2 (some (.object "java/lang/AbstractStringBuilder")) ∈ zW := zW_tab (List.mem_of_getElem? (i := 1640) (by decide +kernel)) (by decide +kernel)
theorem zj1641 : Cond.methodLink RJ5 100 yJ5_ensureCapacityInternal_d00df ∈ zW := zW_tab (List.mem_of_getElem? (i := 1641) (by decide +kernel)) (by decide +kernel)
theorem zj1642 : Cond.privateMethod yJ5_ensureCapacityInternal_d00df ∈ zW := zW_tab (List.mem_of_getElem? (i := 1642) (by decide +kernel)) (by decide +kernel)
theorem zj1643 : Cond.instanceMethod yJ5_ensureCapacityInternal_d00df ∈ zW := zW_tab (List.mem_of_getElem? (i := 1643) (by decide +kernel)) (by decide +kernel)
theorem zj1644 : Cond.code yJ5_ensureCapacityInternal_d00df cJ5_ensureCapacityInternal_d00df 3 none ∈ zW := zW_tab (List.mem_of_getElem? (i := 1644) (by decide +kernel)) (by decide +kernel)
theorem zj1676 : Cond.methodLink RJ5 83 yJ5_isLatin1_aae02 ∈ zW := zW_tab (List.mem_of_getElem? (i := 1676) (by decide +kernel)) (by decide +kernel)
theorem zj1677 : Cond.instanceMethod yJ5_isLatin1_aae02 ∈ zW := zW_tab (List.mem_of_getElem? (i := 1677) (by decide +kernel)) (by decide +kernel)
theorem zj1678 : Cond.sameMethod yJ5_isLatin1_aae02.cls yJ5_isLatin1_aae02.cls yJ5_isLatin1_aae02.name yJ5_isLatin1_aae02.desc ∈ zW := zW_tab (List.mem_of_getElem? (i := 1678) (by decide +kernel)) (by decide +kernel)
theorem zj1679 : Cond.selects RJ4 yJ5_isLatin1_aae02 yJ5_isLatin1_aae02 ∈ zW := zW_tab (List.mem_of_getElem? (i := 1679) (by decide +kernel)) (by decide +kernel)
theorem zj1680 : Cond.code yJ5_isLatin1_aae02 cJ5_isLatin1_aae02 1 (some .boolean) ∈ zW := zW_tab (List.mem_of_getElem? (i := 1680) (by decide +kernel)) (by decide +kernel)
theorem zj1681 : Cond.methodLink RJ5 191 yJ1_canEncode_fc78d ∈ zW := zW_tab (List.mem_of_getElem? (i := 1681) (by decide +kernel)) (by decide +kernel)
theorem zj1682 : Cond.static yJ1_canEncode_fc78d ∈ zW := zW_tab (List.mem_of_getElem? (i := 1682) (by decide +kernel)) (by decide +kernel)
theorem zj1683 : Cond.code yJ1_canEncode_fc78d cJ1_canEncode_fc78d 1 (some .boolean) ∈ zW := zW_tab (List.mem_of_getElem? (i := 1683) (by decide +kernel)) (by decide +kernel)
theorem zj1733 : Cond.methodLink RJ4 343 yJ5_length_8abf5 ∈ zW := zW_tab (List.mem_of_getElem? (i := 1733) (by decide +kernel)) (by decide +kernel)
theorem zj1734 : Cond.instanceMethod yJ5_length_8abf5 ∈ zW := zW_tab (List.mem_of_getElem? (i := 1734) (by decide +kernel)) (by decide +kernel)
theorem zj1735 : Cond.code yJ5_length_8abf5 cJ5_length_8abf5 1 (some .int) ∈ zW := zW_tab (List.mem_of_getElem? (i := 1735) (by decide +kernel)) (by decide +kernel)
theorem zj1988 : Cond.sameMethod yJ5_append_3fe6f.cls yJ5_append_3fe6f.cls yJ5_append_3fe6f.name yJ5_append_3fe6f.desc ∈ zW := zW_tab (List.mem_of_getElem? (i := 1988) (by decide +kernel)) (by decide +kernel)
theorem zj1989 : Cond.sameMethod yJ5_ensureCapacityInternal_d00df.cls yJ5_ensureCapacityInternal_d00df.cls yJ5_ensureCapacityInternal_d00df.name yJ5_ensureCapacityInternal_d00df.desc ∈ zW := zW_tab (List.mem_of_getElem? (i := 1989) (by decide +kernel)) (by decide +kernel)
theorem zj1992 : Cond.sameMethod yJ5_length_8abf5.cls yJ5_length_8abf5.cls yJ5_length_8abf5.name yJ5_length_8abf5.desc ∈ zW := zW_tab (List.mem_of_getElem? (i := 1992) (by decide +kernel)) (by decide +kernel)
theorem zmUJ5_100 : zMU RJ5 100 yJ5_ensureCapacityInternal_d00df cJ5_ensureCapacityInternal_d00df 3 none 1 := ⟨zj1641, zj1989, zj1643, zj22, zj1644, (by decide +kernel)⟩
theorem zmUJ5_83 : zMU RJ5 83 yJ5_isLatin1_aae02 cJ5_isLatin1_aae02 1 (some .boolean) 0 := ⟨zj1676, zj1678, zj1677, zj22, zj1680, (by decide +kernel)⟩
theorem zmJ1_canEncode_fc78d : zMS yJ1_canEncode_fc78d cJ1_canEncode_fc78d 1 (some .boolean) 1 := ⟨zj1683, zj30, zj1682, (by decide +kernel)⟩
theorem zmPJ4_50 : zMP RJ4 50 yJ5_append_3fe6f cJ5_append_3fe6f 2 (some (.object "java/lang/AbstractStringBuilder")) 1 := ⟨zj1638, zj1988, zj1633, zj1639, zj22, zj1640, (by decide +kernel)⟩
theorem zmPJ4_343 : zMP RJ4 343 yJ5_length_8abf5 cJ5_length_8abf5 1 (some .int) 0 := ⟨zj1733, zj1992, zj1633, zj1734, zj22, zj1735, (by decide +kernel)⟩
abbrev rmJ5_isLatin1_aae02 : Room := { frames := 0, cells := 0, slots := 0, locals := 0 }
theorem metJ5_isLatin1_aae02 (l : Launch) (D : va_G) (T : Nat → ClassId) {aO : Nat → Nat} {sO : zSt} (hc : zgi sO 1 = 0) (base sz : Nat) : Met l yJ5_isLatin1_aae02 (zws yJ5_isLatin1_aae02 cJ5_isLatin1_aae02 1 (some .boolean)) rmJ5_isLatin1_aae02 (zPs D T [.ref (aO 0)] [wJ4 T aO sO] [] base sz) (zQi D (1 : Int32) [] (zA [] sz)) 0 0 (zA [] sz) := by
  refine zMetS (D := D) (T := T) (av := [.ref (aO 0)]) (ws := fun T => [wJ4 T aO sO]) (wm := fun T => []) (lv0 := [(0, .ref (aO 0))]) [] (Qc := fun D T A => zQi D (1 : Int32) [] A) (by decide +kernel) rfl (Nat.le_of_ble_eq_true rfl) rfl (fun C base X Y hQ => ?_) base sz
  refine z_gets (v := .int (1 : Int32)) X Y Y.1.1 zj1613 dJ5_isLatin1_aae02_0 ?_
  refine z_if_eq (tgt := 17) X dJ5_isLatin1_aae02_3 (by decide) (fun c => absurd c (by decide : ¬ (1 : Int32) = 0)) (fun _ => ?_)
  refine z_aload_n X dJ5_isLatin1_aae02_6 0 rfl ?_
  refine z_getI (v := .int (zgi sO 1)) X 0 0 0 1 ziJ4 rfl (by decide) zj1623 dJ5_isLatin1_aae02_7 rfl rfl rfl ?_
  refine z_if_ne (tgt := 17) X dJ5_isLatin1_aae02_10 (by decide) (fun c => absurd hc c) (fun _ => ?_)
  refine z_iconst (v := (1 : Int32)) X dJ5_isLatin1_aae02_13 rfl ?_
  refine z_goto (tgt := 18) X dJ5_isLatin1_aae02_14 (by decide) ?_
  exact z_nret X hQ rfl dJ5_isLatin1_aae02_18 rfl [] rfl (by decide) (by decide)
abbrev rmJ5_ensureCapacityInternal_d00df : Room := { frames := 0, cells := 0, slots := 0, locals := 0 }
theorem metJ5_ensureCapacityInternal_d00df (l : Launch) (D : va_G) (T : Nat → ClassId) {aO : Nat → Nat} {sO : zSt} {x1 : Int32} (he : x1 - (16 : Int32) >>> (zgi sO 1 &&& 31) ≤ 0) (base sz : Nat) : Met l yJ5_ensureCapacityInternal_d00df (zws yJ5_ensureCapacityInternal_d00df cJ5_ensureCapacityInternal_d00df 3 none) rmJ5_ensureCapacityInternal_d00df (zPs D T [.ref (aO 0), .int x1] [wJ4 T aO sO] [] base sz) (zQv D [] (zA [] sz)) 0 0 (zA [] sz) := by
  refine zMetS (D := D) (T := T) (av := [.ref (aO 0), .int x1]) (ws := fun T => [wJ4 T aO sO]) (wm := fun T => []) (lv0 := [(0, .ref (aO 0)), (1, .int x1)]) [] (Qc := fun D T A => zQv D [] A) (by decide +kernel) rfl (Nat.le_of_ble_eq_true rfl) rfl (fun C base X Y hQ => ?_) base sz
  refine z_aload_n X dJ5_ensureCapacityInternal_d00df_0 0 rfl ?_
  refine z_getI (v := .ref (aO 1)) X 0 0 0 0 ziJ4 rfl (by decide) zj1622 dJ5_ensureCapacityInternal_d00df_1 rfl rfl rfl ?_
  refine z_alen (v := (16 : Int32)) X 0 1 6 rfl rfl dJ5_ensureCapacityInternal_d00df_4 rfl rfl ?_
  refine z_aload_n X dJ5_ensureCapacityInternal_d00df_5 0 rfl ?_
  refine z_getI (v := .int (zgi sO 1)) X 0 0 0 1 ziJ4 rfl (by decide) zj1623 dJ5_ensureCapacityInternal_d00df_6 rfl rfl rfl ?_
  refine z_ishr X dJ5_ensureCapacityInternal_d00df_9 ?_
  refine z_istore_n (lv2 := [(2, .int ((16 : Int32) >>> ((zgi sO 1) &&& 31))), (0, .ref (aO 0)), (1, .int x1)]) X dJ5_ensureCapacityInternal_d00df_10 rfl (by decide) rfl ?_
  refine z_iload_n X dJ5_ensureCapacityInternal_d00df_11 2 rfl ?_
  refine z_iload_n X dJ5_ensureCapacityInternal_d00df_12 0 rfl ?_
  refine z_isub X dJ5_ensureCapacityInternal_d00df_13 ?_
  refine z_if_le (tgt := 38) X dJ5_ensureCapacityInternal_d00df_14 (by decide) (fun _ => ?_) (fun c => absurd he c)
  exact z_vret X hQ dJ5_ensureCapacityInternal_d00df_38 [] rfl (by decide) (by decide)
abbrev rmJ1_canEncode_fc78d : Room := { frames := 0, cells := 0, slots := 0, locals := 0 }
theorem metJ1_canEncode_fc78d (l : Launch) (D : va_G) (T : Nat → ClassId) {x0 : Int32} (h : ¬ (255 : Int32) < x0) (base sz : Nat) : Met l yJ1_canEncode_fc78d (zws yJ1_canEncode_fc78d cJ1_canEncode_fc78d 1 (some .boolean)) rmJ1_canEncode_fc78d (zPs D T [.int x0] [] [] base sz) (zQi D (1 : Int32) [] (zA [] sz)) 0 0 (zA [] sz) := by
  refine zMetS (D := D) (T := T) (av := [.int x0]) (ws := fun T => []) (wm := fun T => []) (lv0 := [(0, .int x0)]) [] (Qc := fun D T A => zQi D (1 : Int32) [] A) (by decide +kernel) rfl (Nat.le_of_ble_eq_true rfl) rfl (fun C base X Y hQ => ?_) base sz
  refine z_iload_n X dJ1_canEncode_fc78d_0 0 rfl ?_
  refine z_sipush (v := (255 : Int32)) X dJ1_canEncode_fc78d_1 rfl ?_
  refine z_icmp_gt (tgt := 11) X dJ1_canEncode_fc78d_4 (by decide) (fun c => absurd c h) (fun _ => ?_)
  refine z_iconst (v := (1 : Int32)) X dJ1_canEncode_fc78d_7 rfl ?_
  refine z_goto (tgt := 12) X dJ1_canEncode_fc78d_8 (by decide) ?_
  exact z_nret X hQ rfl dJ1_canEncode_fc78d_12 rfl [] rfl (by decide) (by decide)
abbrev rmJ5_append_3fe6f : Room := { frames := 1, cells := 0, slots := 0, locals := 22 }
theorem metJ5_append_3fe6f (l : Launch) (D : va_G) (T : Nat → ClassId) {aO : Nat → Nat} {sO : zSt} {x1 : Int32} (hc : zgi sO 1 = 0) (he : (zgi sO 3 + (1 : Int32)) - (16 : Int32) >>> (zgi sO 1 &&& 31) ≤ 0) (hx : ¬ (255 : Int32) < x1) (hi : zin (zgi sO 3) 16 = true) (base sz : Nat) : Met l yJ5_append_3fe6f (zws yJ5_append_3fe6f cJ5_append_3fe6f 2 (some (.object "java/lang/AbstractStringBuilder"))) rmJ5_append_3fe6f (zPs D T [.ref (aO 0), .int x1] [wJ4 T aO sO] [wJ4 T aO sO] base sz) (zQr D (aO 0) [wJ4 T aO (zsa (zsi sO 3 ((zgi sO 3) + (1 : Int32))) 0 (upd (zga (zsi sO 3 ((zgi sO 3) + (1 : Int32))) 0) ((zgi sO 3)).toNatClampNeg (vp_nar .byte (x1).toInt8.toInt32)))] (zA [wJ4 T aO sO] sz)) 0 0 (zA [wJ4 T aO sO] sz) := by
  refine zMetS (D := D) (T := T) (av := [.ref (aO 0), .int x1]) (ws := fun T => [wJ4 T aO sO]) (wm := fun T => [wJ4 T aO sO]) (lv0 := [(0, .ref (aO 0)), (1, .int x1)]) [0] (Qc := fun D T A => zQr D (aO 0) [wJ4 T aO (zsa (zsi sO 3 ((zgi sO 3) + (1 : Int32))) 0 (upd (zga (zsi sO 3 ((zgi sO 3) + (1 : Int32))) 0) ((zgi sO 3)).toNatClampNeg (vp_nar .byte (x1).toInt8.toInt32)))] A) (by decide +kernel) rfl (Nat.le_of_ble_eq_true rfl) rfl (fun C base X Y hQ => ?_) base sz
  refine z_aload_n X dJ5_append_3fe6f_0 0 rfl ?_
  refine z_aload_n X dJ5_append_3fe6f_1 0 rfl ?_
  refine z_getI (v := .int (zgi sO 3)) X 0 0 0 3 ziJ4 rfl (by decide) zj1624 dJ5_append_3fe6f_2 rfl rfl rfl ?_
  refine z_iconst (v := (1 : Int32)) X dJ5_append_3fe6f_5 rfl ?_
  refine z_iadd X dJ5_append_3fe6f_6 ?_
  refine z_sUv (st := []) (ws2 := [wJ4 (zcT C) aO sO]) X Y (metJ5_ensureCapacityInternal_d00df (zcl C) (zcD C) (zcT C) he) zmUJ5_100 (zselUp (y2 := yJ5_isLatin1_aae02) ⟨by decide +kernel, by decide +kernel⟩ (X.2.2.2.2.1 _ zj1605) (X.2.2.2.2.1 _ zj1642) (X.2.2.2.2.1 _ zj1643) (X.2.2.2.2.1 _ zj1677) (X.2.2.2.2.1 _ zj1679) rfl) dJ5_append_3fe6f_7 0 0 0 rfl rfl rfl rfl [0] rfl rfl [] rfl (by decide) trivial rfl rfl rfl (Nat.le_of_ble_eq_true rfl) rfl rfl ⟨(Nat.le_of_ble_eq_true rfl), (Nat.le_of_ble_eq_true rfl)⟩ ⟨(Nat.le_of_ble_eq_true rfl), (Nat.le_of_ble_eq_true rfl)⟩ ?_
  refine z_aload_n X dJ5_append_3fe6f_10 0 rfl ?_
  refine z_sUi (st := []) (ws2 := [wJ4 (zcT C) aO sO]) X Y (metJ5_isLatin1_aae02 (zcl C) (zcD C) (zcT C) hc) zmUJ5_83 (X.2.2.2.2.1 _ zj1679) dJ5_append_3fe6f_11 0 0 0 rfl rfl rfl rfl [0] rfl rfl [] rfl (by decide) trivial rfl rfl rfl (Nat.le_of_ble_eq_true rfl) rfl rfl ⟨(Nat.le_of_ble_eq_true rfl), (Nat.le_of_ble_eq_true rfl)⟩ ⟨(Nat.le_of_ble_eq_true rfl), (Nat.le_of_ble_eq_true rfl)⟩ ?_
  refine z_if_eq (tgt := 45) X dJ5_append_3fe6f_14 (by decide) (fun c => absurd c (by decide : ¬ (1 : Int32) = 0)) (fun _ => ?_)
  refine z_iload_n X dJ5_append_3fe6f_17 1 rfl ?_
  refine z_sSi (st := []) (ws2 := [wJ4 (zcT C) aO sO]) X Y (metJ1_canEncode_fc78d (zcl C) (zcD C) (zcT C) hx) zmJ1_canEncode_fc78d zj1681 dJ5_append_3fe6f_18 [] rfl rfl [] rfl (by decide) trivial rfl rfl rfl (Nat.le_of_ble_eq_true rfl) rfl rfl ⟨(Nat.le_of_ble_eq_true rfl), (Nat.le_of_ble_eq_true rfl)⟩ ⟨(Nat.le_of_ble_eq_true rfl), (Nat.le_of_ble_eq_true rfl)⟩ ?_
  refine z_if_eq (tgt := 45) X dJ5_append_3fe6f_21 (by decide) (fun c => absurd c (by decide : ¬ (1 : Int32) = 0)) (fun _ => ?_)
  refine z_aload_n X dJ5_append_3fe6f_24 0 rfl ?_
  refine z_getI (v := .ref (aO 1)) X 0 0 0 0 ziJ4 rfl (by decide) zj1622 dJ5_append_3fe6f_25 rfl rfl rfl ?_
  refine z_aload_n X dJ5_append_3fe6f_28 0 rfl ?_
  refine z_dup X dJ5_append_3fe6f_29 rfl ?_
  refine z_getI (v := .int (zgi sO 3)) X 0 0 0 3 ziJ4 rfl (by decide) zj1624 dJ5_append_3fe6f_30 rfl rfl rfl ?_
  refine z_dup_x1 X dJ5_append_3fe6f_33 rfl rfl ?_
  refine z_iconst (v := (1 : Int32)) X dJ5_append_3fe6f_34 rfl ?_
  refine z_iadd X dJ5_append_3fe6f_35 ?_
  refine z_putI (ws2 := [wJ4 (zcT C) aO (zsi sO 3 ((zgi sO 3) + (1 : Int32)))]) (w2 := wJ4 (zcT C) aO (zsi sO 3 ((zgi sO 3) + (1 : Int32)))) X 0 0 0 3 ziJ4 rfl tyJ4 tyJ4_ok nmJ4 (by decide) zj1624 rfl (ty := .int) (by decide +kernel) rfl rfl (by show 3 < 4; decide) dJ5_append_3fe6f_36 rfl rfl (by decide) rfl rfl ?_
  refine z_iload_n X dJ5_append_3fe6f_39 1 rfl ?_
  refine z_i2b X dJ5_append_3fe6f_40 ?_
  refine z_bast (ws2 := [wJ4 (zcT C) aO (zsa (zsi sO 3 ((zgi sO 3) + (1 : Int32))) 0 (upd (zga (zsi sO 3 ((zgi sO 3) + (1 : Int32))) 0) ((zgi sO 3)).toNatClampNeg (vp_nar .byte (x1).toInt8.toInt32)))]) (w2 := wJ4 (zcT C) aO (zsa (zsi sO 3 ((zgi sO 3) + (1 : Int32))) 0 (upd (zga (zsi sO 3 ((zgi sO 3) + (1 : Int32))) 0) ((zgi sO 3)).toNatClampNeg (vp_nar .byte (x1).toInt8.toInt32)))) X 0 1 hi dJ5_append_3fe6f_41 rfl rfl (by decide) rfl rfl ?_
  refine z_goto (tgt := 75) X dJ5_append_3fe6f_42 (by decide) ?_
  refine z_aload_n X dJ5_append_3fe6f_75 0 rfl ?_
  exact z_aret X hQ dJ5_append_3fe6f_76 rfl [0] rfl (by decide) (by decide)
abbrev rmJ4_append_cf468 : Room := { frames := 2, cells := 0, slots := 0, locals := 43 }
theorem metJ4_append_cf468 (l : Launch) (D : va_G) (T : Nat → ClassId) {aO : Nat → Nat} {sO : zSt} {x1 : Int32} (hc : zgi sO 1 = 0) (he : (zgi sO 3 + (1 : Int32)) - (16 : Int32) >>> (zgi sO 1 &&& 31) ≤ 0) (hx : ¬ (255 : Int32) < x1) (hi : zin (zgi sO 3) 16 = true) (base sz : Nat) : Met l yJ4_append_cf468 (zws yJ4_append_cf468 cJ4_append_cf468 2 (some (.object "java/lang/StringBuilder"))) rmJ4_append_cf468 (zPs D T [.ref (aO 0), .int x1] [wJ4 T aO sO] [wJ4 T aO sO] base sz) (zQr D (aO 0) [wJ4 T aO (zsa (zsi sO 3 ((zgi sO 3) + (1 : Int32))) 0 (upd (zga (zsi sO 3 ((zgi sO 3) + (1 : Int32))) 0) ((zgi sO 3)).toNatClampNeg (vp_nar .byte (x1).toInt8.toInt32)))] (zA [wJ4 T aO sO] sz)) 0 0 (zA [wJ4 T aO sO] sz) := by
  refine zMetS (D := D) (T := T) (av := [.ref (aO 0), .int x1]) (ws := fun T => [wJ4 T aO sO]) (wm := fun T => [wJ4 T aO sO]) (lv0 := [(0, .ref (aO 0)), (1, .int x1)]) [0] (Qc := fun D T A => zQr D (aO 0) [wJ4 T aO (zsa (zsi sO 3 ((zgi sO 3) + (1 : Int32))) 0 (upd (zga (zsi sO 3 ((zgi sO 3) + (1 : Int32))) 0) ((zgi sO 3)).toNatClampNeg (vp_nar .byte (x1).toInt8.toInt32)))] A) (by decide +kernel) rfl (Nat.le_of_ble_eq_true rfl) rfl (fun C base X Y hQ => ?_) base sz
  refine z_aload_n X dJ4_append_cf468_0 0 rfl ?_
  refine z_iload_n X dJ4_append_cf468_1 1 rfl ?_
  refine z_sPr (st := []) (ws2 := [wJ4 (zcT C) aO (zsa (zsi sO 3 ((zgi sO 3) + (1 : Int32))) 0 (upd (zga (zsi sO 3 ((zgi sO 3) + (1 : Int32))) 0) ((zgi sO 3)).toNatClampNeg (vp_nar .byte (x1).toInt8.toInt32)))]) X Y (metJ5_append_3fe6f (zcl C) (zcD C) (zcT C) hc he hx hi) zmPJ4_50 dJ4_append_cf468_2 0 0 0 rfl rfl rfl [0] rfl rfl [0] rfl (by decide) ⟨zsJ4, trivial⟩ rfl rfl rfl (Nat.le_of_ble_eq_true rfl) rfl rfl ⟨(Nat.le_of_ble_eq_true rfl), (Nat.le_of_ble_eq_true rfl)⟩ ⟨(Nat.le_of_ble_eq_true rfl), (Nat.le_of_ble_eq_true rfl)⟩ ?_
  refine z_pop X dJ4_append_cf468_5 rfl ?_
  refine z_aload_n X dJ4_append_cf468_6 0 rfl ?_
  exact z_aret X hQ dJ4_append_cf468_7 rfl [0] rfl (by decide) (by decide)
abbrev rmJ5_length_8abf5 : Room := { frames := 0, cells := 0, slots := 0, locals := 0 }
theorem metJ5_length_8abf5 (l : Launch) (D : va_G) (T : Nat → ClassId) {aO : Nat → Nat} {sO : zSt} (base sz : Nat) : Met l yJ5_length_8abf5 (zws yJ5_length_8abf5 cJ5_length_8abf5 1 (some .int)) rmJ5_length_8abf5 (zPs D T [.ref (aO 0)] [wJ4 T aO sO] [] base sz) (zQi D (zgi sO 3) [] (zA [] sz)) 0 0 (zA [] sz) := by
  refine zMetS (D := D) (T := T) (av := [.ref (aO 0)]) (ws := fun T => [wJ4 T aO sO]) (wm := fun T => []) (lv0 := [(0, .ref (aO 0))]) [] (Qc := fun D T A => zQi D (zgi sO 3) [] A) (by decide +kernel) rfl (Nat.le_of_ble_eq_true rfl) rfl (fun C base X Y hQ => ?_) base sz
  refine z_aload_n X dJ5_length_8abf5_0 0 rfl ?_
  refine z_getI (v := .int (zgi sO 3)) X 0 0 0 3 ziJ4 rfl (by decide) zj1624 dJ5_length_8abf5_1 rfl rfl rfl ?_
  exact z_iret X hQ dJ5_length_8abf5_4 rfl [] rfl (by decide) (by decide)
abbrev rmJ4_length_8abf5 : Room := { frames := 1, cells := 0, slots := 0, locals := 20 }
theorem metJ4_length_8abf5 (l : Launch) (D : va_G) (T : Nat → ClassId) {aO : Nat → Nat} {sO : zSt} (base sz : Nat) : Met l yJ4_length_8abf5 (zws yJ4_length_8abf5 cJ4_length_8abf5 1 (some .int)) rmJ4_length_8abf5 (zPs D T [.ref (aO 0)] [wJ4 T aO sO] [] base sz) (zQi D (zgi sO 3) [] (zA [] sz)) 0 0 (zA [] sz) := by
  refine zMetS (D := D) (T := T) (av := [.ref (aO 0)]) (ws := fun T => [wJ4 T aO sO]) (wm := fun T => []) (lv0 := [(0, .ref (aO 0))]) [] (Qc := fun D T A => zQi D (zgi sO 3) [] A) (by decide +kernel) rfl (Nat.le_of_ble_eq_true rfl) rfl (fun C base X Y hQ => ?_) base sz
  refine z_aload_n X dJ4_length_8abf5_0 0 rfl ?_
  refine z_sPi (st := []) (ws2 := [wJ4 (zcT C) aO sO]) X Y (metJ5_length_8abf5 (zcl C) (zcD C) (zcT C)) zmPJ4_343 dJ4_length_8abf5_1 0 0 0 rfl rfl rfl [0] rfl rfl [] rfl (by decide) trivial rfl rfl rfl (Nat.le_of_ble_eq_true rfl) rfl rfl ⟨(Nat.le_of_ble_eq_true rfl), (Nat.le_of_ble_eq_true rfl)⟩ ⟨(Nat.le_of_ble_eq_true rfl), (Nat.le_of_ble_eq_true rfl)⟩ ?_
  exact z_iret X hQ dJ4_length_8abf5_4 rfl [] rfl (by decide) (by decide)
