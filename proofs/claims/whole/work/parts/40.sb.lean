/-! The builder's methods, along the one path that the reference's texts take: Latin-1, room for 16. Written by wip/gen/mksb2.py. -/
abbrev wJ4 (T : Nat → ClassId) (a : Nat → Nat) (σ : zSt) : va_W := [(a 0, .inr (0, [.ref (a 1), .int (zgi σ 1), .int (zgi σ 2), .int (zgi σ 3)])), (a 1, .inl (T 6, 16, .inl (zga σ 0)))]
theorem zaJ4 (T : Nat → ClassId) (a : Nat → Nat) (σ : zSt) : zad (wJ4 T a σ) = [a 0, a 1] := rfl
theorem zsJ4 {T : Nat → ClassId} {a : Nat → Nat} {σ τ : zSt} : zad (wJ4 T a σ) = zad (wJ4 T a τ) := (zaJ4 T a σ).trans (zaJ4 T a τ).symm
theorem ziJ4 : ∀ w ∈ u_ws RJ4 TJ4 4, w ∈ zW := fun w hw => zW_tab (List.all_eq_true.mp (show (u_ws RJ4 TJ4 4).all (fun w => decide (w ∈ tables_1)) = true by decide +kernel) w hw |> of_decide_eq_true) (List.all_eq_true.mp (show (u_ws RJ4 TJ4 4).all goodWord = true by decide +kernel) w hw)
/-- a byte written into the row of letters -/
def zsw (σ : zSt) (i x : Int32) : zSt := zsa σ 0 (upd (zga σ 0) i.toNatClampNeg (vp_nar .byte x))
section ZBJ
variable {C : zCtx} {cc : ByteArray} {nL : Nat} {own : String} {rm : Room} {ret : Option FieldType} {mp : List Nat} {cells slots : Nat} {ws ws2 : List va_W} {pc : Nat} {lv : List (Nat × Value)} {st st0 : List Value}
theorem z_bJ4 (X : zFx C cc nL own rm ret) (g : Nat) {a : Nat → Nat} {σ : zSt} {i x : Int32} (hin : zin i 16 = true) (hd : decode cc pc = .ok (.bastore, 1)) (hg : ws[g]? = some (wJ4 (zcT C) a σ)) (hmp : g ∈ mp) (hws : ws.set g (wJ4 (zcT C) a (zsw σ i x)) = ws2) (kk : zG C nL mp cells slots ws2 (pc + 1) lv st) : zG C nL mp cells slots ws pc lv (.int x :: .int i :: .ref (a 1) :: st) :=
  z_bast (w2 := wJ4 (zcT C) a (zsw σ i x)) X g 1 hin hd hg rfl hmp rfl hws kk
end ZBJ
theorem zj22 : Cond.initialized RJ5 ∈ zW := zW_tab (List.mem_of_getElem? (i := 22) (by decide +kernel)) (by decide +kernel)
theorem zj24 : Cond.initialized RJ0 ∈ zW := zW_tab (List.mem_of_getElem? (i := 24) (by decide +kernel)) (by decide +kernel)
theorem zj27 : Cond.initialized "java/lang/Math" ∈ zW := zW_tab (List.mem_of_getElem? (i := 27) (by decide +kernel)) (by decide +kernel)
theorem zj30 : Cond.initialized RJ1 ∈ zW := zW_tab (List.mem_of_getElem? (i := 30) (by decide +kernel)) (by decide +kernel)
theorem zj31 : Cond.initialized RJ3 ∈ zW := zW_tab (List.mem_of_getElem? (i := 31) (by decide +kernel)) (by decide +kernel)
theorem zj33 : Cond.initialized RJ6 ∈ zW := zW_tab (List.mem_of_getElem? (i := 33) (by decide +kernel)) (by decide +kernel)
theorem zj1615 : Cond.fieldLink RJ5 18 RJ0 "COMPACT_STRINGS" "Z" ∈ zW := zW_tab (List.mem_of_getElem? (i := 1615) (by decide +kernel)) (by decide +kernel)
theorem zj1624 : Cond.fieldLink RJ5 15 (TJ4 0).1 (TJ4 0).2.1 (TJ4 0).2.2.1 ∈ zW := zW_tab (List.mem_of_getElem? (i := 1624) (by decide +kernel)) (by decide +kernel)
theorem zj1625 : Cond.fieldLink RJ5 22 (TJ4 1).1 (TJ4 1).2.1 (TJ4 1).2.2.1 ∈ zW := zW_tab (List.mem_of_getElem? (i := 1625) (by decide +kernel)) (by decide +kernel)
theorem zj1626 : Cond.fieldLink RJ5 79 (TJ4 3).1 (TJ4 3).2.1 (TJ4 3).2.2.1 ∈ zW := zW_tab (List.mem_of_getElem? (i := 1626) (by decide +kernel)) (by decide +kernel)
theorem zj1635 : Cond.superclass RJ4 RJ5 ∈ zW := zW_tab (List.mem_of_getElem? (i := 1635) (by decide +kernel)) (by decide +kernel)
theorem zj1640 : Cond.methodLink RJ4 50 yJ5_append_3fe6f ∈ zW := zW_tab (List.mem_of_getElem? (i := 1640) (by decide +kernel)) (by decide +kernel)
theorem zj1641 : Cond.instanceMethod yJ5_append_3fe6f ∈ zW := zW_tab (List.mem_of_getElem? (i := 1641) (by decide +kernel)) (by decide +kernel)
theorem zj1642 : Cond.code yJ5_append_3fe6f cJ5_append_3fe6f 2 (some (.object "java/lang/AbstractStringBuilder")) ∈ zW := zW_tab (List.mem_of_getElem? (i := 1642) (by decide +kernel)) (by decide +kernel)
theorem zj1643 : Cond.methodLink RJ5 100 yJ5_ensureCapacityInternal_d00df ∈ zW := zW_tab (List.mem_of_getElem? (i := 1643) (by decide +kernel)) (by decide +kernel)
theorem zj1645 : Cond.instanceMethod yJ5_ensureCapacityInternal_d00df ∈ zW := zW_tab (List.mem_of_getElem? (i := 1645) (by decide +kernel)) (by decide +kernel)
theorem zj1646 : Cond.code yJ5_ensureCapacityInternal_d00df cJ5_ensureCapacityInternal_d00df 3 none ∈ zW := zW_tab (List.mem_of_getElem? (i := 1646) (by decide +kernel)) (by decide +kernel)
theorem zj1673 : Cond.static Lib.Math.min.name ∈ zW := zW_tab (List.mem_of_getElem? (i := 1673) (by decide +kernel)) (by decide +kernel)
theorem zj1674 : Cond.code Lib.Math.min.name Lib.Math.min.code 2 (some .int) ∈ zW := zW_tab (List.mem_of_getElem? (i := 1674) (by decide +kernel)) (by decide +kernel)
theorem zj1678 : Cond.methodLink RJ5 83 yJ5_isLatin1_aae02 ∈ zW := zW_tab (List.mem_of_getElem? (i := 1678) (by decide +kernel)) (by decide +kernel)
theorem zj1679 : Cond.instanceMethod yJ5_isLatin1_aae02 ∈ zW := zW_tab (List.mem_of_getElem? (i := 1679) (by decide +kernel)) (by decide +kernel)
theorem zj1680 : Cond.sameMethod yJ5_isLatin1_aae02.cls yJ5_isLatin1_aae02.cls yJ5_isLatin1_aae02.name yJ5_isLatin1_aae02.desc ∈ zW := zW_tab (List.mem_of_getElem? (i := 1680) (by decide +kernel)) (by decide +kernel)
theorem zj1681 : Cond.selects RJ4 yJ5_isLatin1_aae02 yJ5_isLatin1_aae02 ∈ zW := zW_tab (List.mem_of_getElem? (i := 1681) (by decide +kernel)) (by decide +kernel)
theorem zj1682 : Cond.code yJ5_isLatin1_aae02 cJ5_isLatin1_aae02 1 (some .boolean) ∈ zW := zW_tab (List.mem_of_getElem? (i := 1682) (by decide +kernel)) (by decide +kernel)
theorem zj1683 : Cond.methodLink RJ5 191 yJ1_canEncode_fc78d ∈ zW := zW_tab (List.mem_of_getElem? (i := 1683) (by decide +kernel)) (by decide +kernel)
theorem zj1684 : Cond.static yJ1_canEncode_fc78d ∈ zW := zW_tab (List.mem_of_getElem? (i := 1684) (by decide +kernel)) (by decide +kernel)
theorem zj1685 : Cond.code yJ1_canEncode_fc78d cJ1_canEncode_fc78d 1 (some .boolean) ∈ zW := zW_tab (List.mem_of_getElem? (i := 1685) (by decide +kernel)) (by decide +kernel)
theorem zj1705 : Cond.fieldLink RJ0 1053 RJ3 "SIOOBE_FORMATTER" "Ljava/util/function/BiFunction;" ∈ zW := zW_tab (List.mem_of_getElem? (i := 1705) (by decide +kernel)) (by decide +kernel)
theorem zj1726 : Cond.static yJ0_checkIndex_df160 ∈ zW := zW_tab (List.mem_of_getElem? (i := 1726) (by decide +kernel)) (by decide +kernel)
theorem zj1727 : Cond.code yJ0_checkIndex_df160 cJ0_checkIndex_df160 2 none ∈ zW := zW_tab (List.mem_of_getElem? (i := 1727) (by decide +kernel)) (by decide +kernel)
theorem zj1728 : Cond.methodLink RJ0 1059 yJ3_checkIndex_8e157 ∈ zW := zW_tab (List.mem_of_getElem? (i := 1728) (by decide +kernel)) (by decide +kernel)
theorem zj1729 : Cond.static yJ3_checkIndex_8e157 ∈ zW := zW_tab (List.mem_of_getElem? (i := 1729) (by decide +kernel)) (by decide +kernel)
theorem zj1730 : Cond.code yJ3_checkIndex_8e157 cJ3_checkIndex_8e157 3 (some .int) ∈ zW := zW_tab (List.mem_of_getElem? (i := 1730) (by decide +kernel)) (by decide +kernel)
theorem zj1735 : Cond.methodLink RJ4 343 yJ5_length_8abf5 ∈ zW := zW_tab (List.mem_of_getElem? (i := 1735) (by decide +kernel)) (by decide +kernel)
theorem zj1736 : Cond.instanceMethod yJ5_length_8abf5 ∈ zW := zW_tab (List.mem_of_getElem? (i := 1736) (by decide +kernel)) (by decide +kernel)
theorem zj1737 : Cond.code yJ5_length_8abf5 cJ5_length_8abf5 1 (some .int) ∈ zW := zW_tab (List.mem_of_getElem? (i := 1737) (by decide +kernel)) (by decide +kernel)
theorem zj1742 : Cond.methodLink RJ4 53 yJ5_append_c97b9 ∈ zW := zW_tab (List.mem_of_getElem? (i := 1742) (by decide +kernel)) (by decide +kernel)
theorem zj1743 : Cond.instanceMethod yJ5_append_c97b9 ∈ zW := zW_tab (List.mem_of_getElem? (i := 1743) (by decide +kernel)) (by decide +kernel)
theorem zj1744 : Cond.code yJ5_append_c97b9 cJ5_append_c97b9 4 (some (.object "java/lang/AbstractStringBuilder")) ∈ zW := zW_tab (List.mem_of_getElem? (i := 1744) (by decide +kernel)) (by decide +kernel)
theorem zj1745 : Cond.methodLink RJ5 245 yJ6_stringSize_0f7a4 ∈ zW := zW_tab (List.mem_of_getElem? (i := 1745) (by decide +kernel)) (by decide +kernel)
theorem zj1746 : Cond.static yJ6_stringSize_0f7a4 ∈ zW := zW_tab (List.mem_of_getElem? (i := 1746) (by decide +kernel)) (by decide +kernel)
theorem zj1747 : Cond.code yJ6_stringSize_0f7a4 cJ6_stringSize_0f7a4 4 (some .int) ∈ zW := zW_tab (List.mem_of_getElem? (i := 1747) (by decide +kernel)) (by decide +kernel)
theorem zj1748 : Cond.methodLink RJ5 248 yJ6_getChars_ba4f3 ∈ zW := zW_tab (List.mem_of_getElem? (i := 1748) (by decide +kernel)) (by decide +kernel)
theorem zj1749 : Cond.static yJ6_getChars_ba4f3 ∈ zW := zW_tab (List.mem_of_getElem? (i := 1749) (by decide +kernel)) (by decide +kernel)
theorem zj1750 : Cond.code yJ6_getChars_ba4f3 cJ6_getChars_ba4f3 7 (some .int) ∈ zW := zW_tab (List.mem_of_getElem? (i := 1750) (by decide +kernel)) (by decide +kernel)
theorem zj1751 : Cond.fieldLink RJ6 83 RJ6 "DigitOnes" "[B" ∈ zW := zW_tab (List.mem_of_getElem? (i := 1751) (by decide +kernel)) (by decide +kernel)
theorem zj1753 : Cond.fieldLink RJ6 87 RJ6 "DigitTens" "[B" ∈ zW := zW_tab (List.mem_of_getElem? (i := 1753) (by decide +kernel)) (by decide +kernel)
theorem zj1780 : Cond.methodLink RJ4 329 yJ5_charAt_5068e ∈ zW := zW_tab (List.mem_of_getElem? (i := 1780) (by decide +kernel)) (by decide +kernel)
theorem zj1781 : Cond.instanceMethod yJ5_charAt_5068e ∈ zW := zW_tab (List.mem_of_getElem? (i := 1781) (by decide +kernel)) (by decide +kernel)
theorem zj1782 : Cond.code yJ5_charAt_5068e cJ5_charAt_5068e 5 (some .char) ∈ zW := zW_tab (List.mem_of_getElem? (i := 1782) (by decide +kernel)) (by decide +kernel)
theorem zj1783 : Cond.methodLink RJ5 138 Lib.Math.min.name ∈ zW := zW_tab (List.mem_of_getElem? (i := 1783) (by decide +kernel)) (by decide +kernel)
theorem zj1784 : Cond.methodLink RJ5 144 yJ0_checkIndex_df160 ∈ zW := zW_tab (List.mem_of_getElem? (i := 1784) (by decide +kernel)) (by decide +kernel)
theorem zj1990 : Cond.sameMethod yJ5_append_3fe6f.cls yJ5_append_3fe6f.cls yJ5_append_3fe6f.name yJ5_append_3fe6f.desc ∈ zW := zW_tab (List.mem_of_getElem? (i := 1990) (by decide +kernel)) (by decide +kernel)
theorem zj1991 : Cond.sameMethod yJ5_ensureCapacityInternal_d00df.cls yJ5_ensureCapacityInternal_d00df.cls yJ5_ensureCapacityInternal_d00df.name yJ5_ensureCapacityInternal_d00df.desc ∈ zW := zW_tab (List.mem_of_getElem? (i := 1991) (by decide +kernel)) (by decide +kernel)
theorem zj1994 : Cond.sameMethod yJ5_length_8abf5.cls yJ5_length_8abf5.cls yJ5_length_8abf5.name yJ5_length_8abf5.desc ∈ zW := zW_tab (List.mem_of_getElem? (i := 1994) (by decide +kernel)) (by decide +kernel)
theorem zj1995 : Cond.sameMethod yJ5_append_c97b9.cls yJ5_append_c97b9.cls yJ5_append_c97b9.name yJ5_append_c97b9.desc ∈ zW := zW_tab (List.mem_of_getElem? (i := 1995) (by decide +kernel)) (by decide +kernel)
theorem zj1996 : Cond.sameMethod yJ5_charAt_5068e.cls yJ5_charAt_5068e.cls yJ5_charAt_5068e.name yJ5_charAt_5068e.desc ∈ zW := zW_tab (List.mem_of_getElem? (i := 1996) (by decide +kernel)) (by decide +kernel)
theorem zmUJ5_100 : zMU RJ5 100 yJ5_ensureCapacityInternal_d00df cJ5_ensureCapacityInternal_d00df 3 none 1 := ⟨zj1643, zj1991, zj1645, zj22, zj1646, (by decide +kernel)⟩
theorem zmUJ5_83 : zMU RJ5 83 yJ5_isLatin1_aae02 cJ5_isLatin1_aae02 1 (some .boolean) 0 := ⟨zj1678, zj1680, zj1679, zj22, zj1682, (by decide +kernel)⟩
theorem zmJ1_canEncode_fc78d : zMS yJ1_canEncode_fc78d cJ1_canEncode_fc78d 1 (some .boolean) 1 := ⟨zj1685, zj30, zj1684, (by decide +kernel)⟩
theorem zmPJ4_50 : zMP RJ4 50 yJ5_append_3fe6f cJ5_append_3fe6f 2 (some (.object "java/lang/AbstractStringBuilder")) 1 := ⟨zj1640, zj1990, zj1635, zj1641, zj22, zj1642, (by decide +kernel)⟩
theorem zmPJ4_343 : zMP RJ4 343 yJ5_length_8abf5 cJ5_length_8abf5 1 (some .int) 0 := ⟨zj1735, zj1994, zj1635, zj1736, zj22, zj1737, (by decide +kernel)⟩
theorem zmJ6_stringSize_0f7a4 : zMS yJ6_stringSize_0f7a4 cJ6_stringSize_0f7a4 4 (some .int) 1 := ⟨zj1747, zj33, zj1746, (by decide +kernel)⟩
theorem zmJ6_getChars_ba4f3 : zMS yJ6_getChars_ba4f3 cJ6_getChars_ba4f3 7 (some .int) 3 := ⟨zj1750, zj33, zj1749, (by decide +kernel)⟩
theorem zmPJ4_53 : zMP RJ4 53 yJ5_append_c97b9 cJ5_append_c97b9 4 (some (.object "java/lang/AbstractStringBuilder")) 1 := ⟨zj1742, zj1995, zj1635, zj1743, zj22, zj1744, (by decide +kernel)⟩
theorem zmJ3_checkIndex_8e157 : zMS yJ3_checkIndex_8e157 cJ3_checkIndex_8e157 3 (some .int) 3 := ⟨zj1730, zj31, zj1729, (by decide +kernel)⟩
theorem zmJ0_checkIndex_df160 : zMS yJ0_checkIndex_df160 cJ0_checkIndex_df160 2 none 2 := ⟨zj1727, zj24, zj1726, (by decide +kernel)⟩
theorem zmPJ4_329 : zMP RJ4 329 yJ5_charAt_5068e cJ5_charAt_5068e 5 (some .char) 1 := ⟨zj1780, zj1996, zj1635, zj1781, zj22, zj1782, (by decide +kernel)⟩
abbrev rmJ5_isLatin1_aae02 : Room := { frames := 0, cells := 0, slots := 0, locals := 0 }
theorem metJ5_isLatin1_aae02 (l : Launch) (D : va_G) (T : Nat → ClassId) {aO : Nat → Nat} {sO : zSt} (hc : zgi sO 1 = 0) (base sz : Nat) : Met l yJ5_isLatin1_aae02 (zws yJ5_isLatin1_aae02 cJ5_isLatin1_aae02 1 (some .boolean)) rmJ5_isLatin1_aae02 (zPs D T [.ref (aO 0)] [wJ4 T aO sO] [] base sz) (zQi D (1 : Int32) [] (zA [] sz)) 0 0 (zA [] sz) := by
  refine zMetS (D := D) (T := T) (av := [.ref (aO 0)]) (ws := fun T => [wJ4 T aO sO]) (wm := fun T => []) (lv0 := [(0, .ref (aO 0))]) [] (Qc := fun D T A => zQi D (1 : Int32) [] A) (by decide +kernel) rfl (Nat.le_of_ble_eq_true rfl) rfl (fun C base X Y hQ => ?_) base sz
  refine z_gets (v := .int (1 : Int32)) X Y Y.1.1 zj1615 dJ5_isLatin1_aae02_0 ?_
  refine z_if_eq (tgt := 17) X dJ5_isLatin1_aae02_3 (by decide) (fun c => absurd c (by decide : ¬ (1 : Int32) = 0)) (fun _ => ?_)
  refine z_aload_n X dJ5_isLatin1_aae02_6 0 rfl ?_
  refine z_getI (v := .int (zgi sO 1)) X 0 0 0 1 ziJ4 rfl (by decide) zj1625 dJ5_isLatin1_aae02_7 rfl rfl rfl ?_
  refine z_if_ne (tgt := 17) X dJ5_isLatin1_aae02_10 (by decide) (fun c => absurd hc c) (fun _ => ?_)
  refine z_iconst (v := (1 : Int32)) X dJ5_isLatin1_aae02_13 rfl ?_
  refine z_goto (tgt := 18) X dJ5_isLatin1_aae02_14 (by decide) ?_
  exact z_nret X hQ rfl dJ5_isLatin1_aae02_18 rfl [] rfl (by decide) (by decide)
abbrev rmJ5_ensureCapacityInternal_d00df : Room := { frames := 0, cells := 0, slots := 0, locals := 0 }
theorem metJ5_ensureCapacityInternal_d00df (l : Launch) (D : va_G) (T : Nat → ClassId) {aO : Nat → Nat} {sO : zSt} {x1 : Int32} (he : x1 - (16 : Int32) >>> (zgi sO 1 &&& 31) ≤ 0) (base sz : Nat) : Met l yJ5_ensureCapacityInternal_d00df (zws yJ5_ensureCapacityInternal_d00df cJ5_ensureCapacityInternal_d00df 3 none) rmJ5_ensureCapacityInternal_d00df (zPs D T [.ref (aO 0), .int x1] [wJ4 T aO sO] [] base sz) (zQv D [] (zA [] sz)) 0 0 (zA [] sz) := by
  refine zMetS (D := D) (T := T) (av := [.ref (aO 0), .int x1]) (ws := fun T => [wJ4 T aO sO]) (wm := fun T => []) (lv0 := [(0, .ref (aO 0)), (1, .int x1)]) [] (Qc := fun D T A => zQv D [] A) (by decide +kernel) rfl (Nat.le_of_ble_eq_true rfl) rfl (fun C base X Y hQ => ?_) base sz
  refine z_aload_n X dJ5_ensureCapacityInternal_d00df_0 0 rfl ?_
  refine z_getI (v := .ref (aO 1)) X 0 0 0 0 ziJ4 rfl (by decide) zj1624 dJ5_ensureCapacityInternal_d00df_1 rfl rfl rfl ?_
  refine z_alen (v := (16 : Int32)) X 0 1 6 rfl rfl dJ5_ensureCapacityInternal_d00df_4 rfl rfl ?_
  refine z_aload_n X dJ5_ensureCapacityInternal_d00df_5 0 rfl ?_
  refine z_getI (v := .int (zgi sO 1)) X 0 0 0 1 ziJ4 rfl (by decide) zj1625 dJ5_ensureCapacityInternal_d00df_6 rfl rfl rfl ?_
  refine z_ishr X dJ5_ensureCapacityInternal_d00df_9 ?_
  refine z_istore_n (lv2 := [(2, .int ((16 : Int32) >>> ((zgi sO 1) &&& 31))), (0, .ref (aO 0)), (1, .int x1)]) X dJ5_ensureCapacityInternal_d00df_10 rfl (by decide) rfl ?_
  refine z_iload_n X dJ5_ensureCapacityInternal_d00df_11 2 rfl ?_
  refine z_iload_n X dJ5_ensureCapacityInternal_d00df_12 0 rfl ?_
  refine z_isub X dJ5_ensureCapacityInternal_d00df_13 ?_
  refine z_if_le (tgt := 38) X dJ5_ensureCapacityInternal_d00df_14 (by decide) (fun _ => ?_) (fun c => absurd he c)
  exact z_vret X hQ dJ5_ensureCapacityInternal_d00df_38 [] rfl (by decide) (by decide)
abbrev rmJ1_canEncode_fc78d : Room := { frames := 0, cells := 0, slots := 0, locals := 0 }
theorem metJ1_canEncode_fc78d (l : Launch) (D : va_G) (T : Nat → ClassId) {x0 : Int32} (h : ¬ (255 : Int32) < x0) (base sz : Nat) : Met l yJ1_canEncode_fc78d (zws yJ1_canEncode_fc78d cJ1_canEncode_fc78d 1 (some .boolean)) rmJ1_canEncode_fc78d (zPs D T [.int x0] [] [] base sz) (zQi D (1 : Int32) [] (zA [] sz)) 0 0 (zA [] sz) := by
  refine zMetS (D := D) (T := T) (av := [.int x0]) (ws := fun T => []) (wm := fun T => []) (lv0 := [(0, .int x0)]) [] (Qc := fun D T A => zQi D (1 : Int32) [] A) (by decide +kernel) rfl (Nat.le_of_ble_eq_true rfl) rfl (fun C base X Y hQ => ?_) base sz
  refine z_iload_n X dJ1_canEncode_fc78d_0 0 rfl ?_
  refine z_sipush (v := (255 : Int32)) X dJ1_canEncode_fc78d_1 rfl ?_
  refine z_icmp_gt (tgt := 11) X dJ1_canEncode_fc78d_4 (by decide) (fun c => absurd c h) (fun _ => ?_)
  refine z_iconst (v := (1 : Int32)) X dJ1_canEncode_fc78d_7 rfl ?_
  refine z_goto (tgt := 12) X dJ1_canEncode_fc78d_8 (by decide) ?_
  exact z_nret X hQ rfl dJ1_canEncode_fc78d_12 rfl [] rfl (by decide) (by decide)
abbrev rmJ5_append_3fe6f : Room := { frames := 1, cells := 0, slots := 0, locals := 22 }
theorem metJ5_append_3fe6f (l : Launch) (D : va_G) (T : Nat → ClassId) {aO : Nat → Nat} {sO : zSt} {x1 : Int32} (hc : zgi sO 1 = 0) (he : (zgi sO 3 + (1 : Int32)) - (16 : Int32) >>> (zgi sO 1 &&& 31) ≤ 0) (hx : ¬ (255 : Int32) < x1) (hi : zin (zgi sO 3) 16 = true) (base sz : Nat) : Met l yJ5_append_3fe6f (zws yJ5_append_3fe6f cJ5_append_3fe6f 2 (some (.object "java/lang/AbstractStringBuilder"))) rmJ5_append_3fe6f (zPs D T [.ref (aO 0), .int x1] [wJ4 T aO sO] [wJ4 T aO sO] base sz) (zQr D (aO 0) [wJ4 T aO (zsw (zsi sO 3 ((zgi sO 3) + (1 : Int32))) (zgi sO 3) (x1).toInt8.toInt32)] (zA [wJ4 T aO sO] sz)) 0 0 (zA [wJ4 T aO sO] sz) := by
  refine zMetS (D := D) (T := T) (av := [.ref (aO 0), .int x1]) (ws := fun T => [wJ4 T aO sO]) (wm := fun T => [wJ4 T aO sO]) (lv0 := [(0, .ref (aO 0)), (1, .int x1)]) [0] (Qc := fun D T A => zQr D (aO 0) [wJ4 T aO (zsw (zsi sO 3 ((zgi sO 3) + (1 : Int32))) (zgi sO 3) (x1).toInt8.toInt32)] A) (by decide +kernel) rfl (Nat.le_of_ble_eq_true rfl) rfl (fun C base X Y hQ => ?_) base sz
  refine z_aload_n X dJ5_append_3fe6f_0 0 rfl ?_
  refine z_aload_n X dJ5_append_3fe6f_1 0 rfl ?_
  refine z_getI (v := .int (zgi sO 3)) X 0 0 0 3 ziJ4 rfl (by decide) zj1626 dJ5_append_3fe6f_2 rfl rfl rfl ?_
  refine z_iconst (v := (1 : Int32)) X dJ5_append_3fe6f_5 rfl ?_
  refine z_iadd X dJ5_append_3fe6f_6 ?_
  refine z_sUv (st := []) (ws2 := [wJ4 (zcT C) aO sO]) X Y (metJ5_ensureCapacityInternal_d00df (zcl C) (zcD C) (zcT C) he) zmUJ5_100 (X.2.2.2.2.1 _ zW_up) dJ5_append_3fe6f_7 0 0 0 rfl rfl rfl rfl [0] rfl rfl [] rfl (by decide) trivial rfl rfl rfl (Nat.le_of_ble_eq_true rfl) rfl rfl ⟨(Nat.le_of_ble_eq_true rfl), (Nat.le_of_ble_eq_true rfl)⟩ ⟨(Nat.le_of_ble_eq_true rfl), (Nat.le_of_ble_eq_true rfl)⟩ ?_
  refine z_aload_n X dJ5_append_3fe6f_10 0 rfl ?_
  refine z_sUi (st := []) (ws2 := [wJ4 (zcT C) aO sO]) X Y (metJ5_isLatin1_aae02 (zcl C) (zcD C) (zcT C) hc) zmUJ5_83 (X.2.2.2.2.1 _ zj1681) dJ5_append_3fe6f_11 0 0 0 rfl rfl rfl rfl [0] rfl rfl [] rfl (by decide) trivial rfl rfl rfl (Nat.le_of_ble_eq_true rfl) rfl rfl ⟨(Nat.le_of_ble_eq_true rfl), (Nat.le_of_ble_eq_true rfl)⟩ ⟨(Nat.le_of_ble_eq_true rfl), (Nat.le_of_ble_eq_true rfl)⟩ ?_
  refine z_if_eq (tgt := 45) X dJ5_append_3fe6f_14 (by decide) (fun c => absurd c (by decide : ¬ (1 : Int32) = 0)) (fun _ => ?_)
  refine z_iload_n X dJ5_append_3fe6f_17 1 rfl ?_
  refine z_sSi (st := []) (ws2 := [wJ4 (zcT C) aO sO]) X Y (metJ1_canEncode_fc78d (zcl C) (zcD C) (zcT C) hx) zmJ1_canEncode_fc78d zj1683 dJ5_append_3fe6f_18 [] rfl rfl [] rfl (by decide) trivial rfl rfl rfl (Nat.le_of_ble_eq_true rfl) rfl rfl ⟨(Nat.le_of_ble_eq_true rfl), (Nat.le_of_ble_eq_true rfl)⟩ ⟨(Nat.le_of_ble_eq_true rfl), (Nat.le_of_ble_eq_true rfl)⟩ ?_
  refine z_if_eq (tgt := 45) X dJ5_append_3fe6f_21 (by decide) (fun c => absurd c (by decide : ¬ (1 : Int32) = 0)) (fun _ => ?_)
  refine z_aload_n X dJ5_append_3fe6f_24 0 rfl ?_
  refine z_getI (v := .ref (aO 1)) X 0 0 0 0 ziJ4 rfl (by decide) zj1624 dJ5_append_3fe6f_25 rfl rfl rfl ?_
  refine z_aload_n X dJ5_append_3fe6f_28 0 rfl ?_
  refine z_dup X dJ5_append_3fe6f_29 rfl ?_
  refine z_getI (v := .int (zgi sO 3)) X 0 0 0 3 ziJ4 rfl (by decide) zj1626 dJ5_append_3fe6f_30 rfl rfl rfl ?_
  refine z_dup_x1 X dJ5_append_3fe6f_33 rfl rfl ?_
  refine z_iconst (v := (1 : Int32)) X dJ5_append_3fe6f_34 rfl ?_
  refine z_iadd X dJ5_append_3fe6f_35 ?_
  refine z_putI (ws2 := [wJ4 (zcT C) aO (zsi sO 3 ((zgi sO 3) + (1 : Int32)))]) (w2 := wJ4 (zcT C) aO (zsi sO 3 ((zgi sO 3) + (1 : Int32)))) X 0 0 0 3 ziJ4 rfl tyJ4 tyJ4_ok nmJ4 (by decide) zj1626 rfl (ty := .int) (by decide +kernel) rfl rfl (by show 3 < 4; decide) dJ5_append_3fe6f_36 rfl rfl (by decide) rfl rfl ?_
  refine z_iload_n X dJ5_append_3fe6f_39 1 rfl ?_
  refine z_i2b X dJ5_append_3fe6f_40 ?_
  refine z_bJ4 (ws2 := [wJ4 (zcT C) aO (zsw (zsi sO 3 ((zgi sO 3) + (1 : Int32))) (zgi sO 3) (x1).toInt8.toInt32)]) X 0 hi dJ5_append_3fe6f_41 rfl (by decide) rfl ?_
  refine z_goto (tgt := 75) X dJ5_append_3fe6f_42 (by decide) ?_
  refine z_aload_n X dJ5_append_3fe6f_75 0 rfl ?_
  exact z_aret X hQ dJ5_append_3fe6f_76 rfl [0] rfl (by decide) (by decide)
abbrev rmJ4_append_cf468 : Room := { frames := 2, cells := 0, slots := 0, locals := 43 }
theorem metJ4_append_cf468 (l : Launch) (D : va_G) (T : Nat → ClassId) {aO : Nat → Nat} {sO : zSt} {x1 : Int32} (hc : zgi sO 1 = 0) (he : (zgi sO 3 + (1 : Int32)) - (16 : Int32) >>> (zgi sO 1 &&& 31) ≤ 0) (hx : ¬ (255 : Int32) < x1) (hi : zin (zgi sO 3) 16 = true) (base sz : Nat) : Met l yJ4_append_cf468 (zws yJ4_append_cf468 cJ4_append_cf468 2 (some (.object "java/lang/StringBuilder"))) rmJ4_append_cf468 (zPs D T [.ref (aO 0), .int x1] [wJ4 T aO sO] [wJ4 T aO sO] base sz) (zQr D (aO 0) [wJ4 T aO (zsw (zsi sO 3 ((zgi sO 3) + (1 : Int32))) (zgi sO 3) (x1).toInt8.toInt32)] (zA [wJ4 T aO sO] sz)) 0 0 (zA [wJ4 T aO sO] sz) := by
  refine zMetS (D := D) (T := T) (av := [.ref (aO 0), .int x1]) (ws := fun T => [wJ4 T aO sO]) (wm := fun T => [wJ4 T aO sO]) (lv0 := [(0, .ref (aO 0)), (1, .int x1)]) [0] (Qc := fun D T A => zQr D (aO 0) [wJ4 T aO (zsw (zsi sO 3 ((zgi sO 3) + (1 : Int32))) (zgi sO 3) (x1).toInt8.toInt32)] A) (by decide +kernel) rfl (Nat.le_of_ble_eq_true rfl) rfl (fun C base X Y hQ => ?_) base sz
  refine z_aload_n X dJ4_append_cf468_0 0 rfl ?_
  refine z_iload_n X dJ4_append_cf468_1 1 rfl ?_
  refine z_sPr (st := []) (ws2 := [wJ4 (zcT C) aO (zsw (zsi sO 3 ((zgi sO 3) + (1 : Int32))) (zgi sO 3) (x1).toInt8.toInt32)]) X Y (metJ5_append_3fe6f (zcl C) (zcD C) (zcT C) hc he hx hi) zmPJ4_50 dJ4_append_cf468_2 0 0 0 rfl rfl rfl [0] rfl rfl [0] rfl (by decide) ⟨zsJ4, trivial⟩ rfl rfl rfl (Nat.le_of_ble_eq_true rfl) rfl rfl ⟨(Nat.le_of_ble_eq_true rfl), (Nat.le_of_ble_eq_true rfl)⟩ ⟨(Nat.le_of_ble_eq_true rfl), (Nat.le_of_ble_eq_true rfl)⟩ ?_
  refine z_pop X dJ4_append_cf468_5 rfl ?_
  refine z_aload_n X dJ4_append_cf468_6 0 rfl ?_
  exact z_aret X hQ dJ4_append_cf468_7 rfl [0] rfl (by decide) (by decide)
abbrev rmJ5_length_8abf5 : Room := { frames := 0, cells := 0, slots := 0, locals := 0 }
theorem metJ5_length_8abf5 (l : Launch) (D : va_G) (T : Nat → ClassId) {aO : Nat → Nat} {sO : zSt} (base sz : Nat) : Met l yJ5_length_8abf5 (zws yJ5_length_8abf5 cJ5_length_8abf5 1 (some .int)) rmJ5_length_8abf5 (zPs D T [.ref (aO 0)] [wJ4 T aO sO] [] base sz) (zQi D (zgi sO 3) [] (zA [] sz)) 0 0 (zA [] sz) := by
  refine zMetS (D := D) (T := T) (av := [.ref (aO 0)]) (ws := fun T => [wJ4 T aO sO]) (wm := fun T => []) (lv0 := [(0, .ref (aO 0))]) [] (Qc := fun D T A => zQi D (zgi sO 3) [] A) (by decide +kernel) rfl (Nat.le_of_ble_eq_true rfl) rfl (fun C base X Y hQ => ?_) base sz
  refine z_aload_n X dJ5_length_8abf5_0 0 rfl ?_
  refine z_getI (v := .int (zgi sO 3)) X 0 0 0 3 ziJ4 rfl (by decide) zj1626 dJ5_length_8abf5_1 rfl rfl rfl ?_
  exact z_iret X hQ dJ5_length_8abf5_4 rfl [] rfl (by decide) (by decide)
abbrev rmJ4_length_8abf5 : Room := { frames := 1, cells := 0, slots := 0, locals := 20 }
theorem metJ4_length_8abf5 (l : Launch) (D : va_G) (T : Nat → ClassId) {aO : Nat → Nat} {sO : zSt} (base sz : Nat) : Met l yJ4_length_8abf5 (zws yJ4_length_8abf5 cJ4_length_8abf5 1 (some .int)) rmJ4_length_8abf5 (zPs D T [.ref (aO 0)] [wJ4 T aO sO] [] base sz) (zQi D (zgi sO 3) [] (zA [] sz)) 0 0 (zA [] sz) := by
  refine zMetS (D := D) (T := T) (av := [.ref (aO 0)]) (ws := fun T => [wJ4 T aO sO]) (wm := fun T => []) (lv0 := [(0, .ref (aO 0))]) [] (Qc := fun D T A => zQi D (zgi sO 3) [] A) (by decide +kernel) rfl (Nat.le_of_ble_eq_true rfl) rfl (fun C base X Y hQ => ?_) base sz
  refine z_aload_n X dJ4_length_8abf5_0 0 rfl ?_
  refine z_sPi (st := []) (ws2 := [wJ4 (zcT C) aO sO]) X Y (metJ5_length_8abf5 (zcl C) (zcD C) (zcT C)) zmPJ4_343 dJ4_length_8abf5_1 0 0 0 rfl rfl rfl [0] rfl rfl [] rfl (by decide) trivial rfl rfl rfl (Nat.le_of_ble_eq_true rfl) rfl rfl ⟨(Nat.le_of_ble_eq_true rfl), (Nat.le_of_ble_eq_true rfl)⟩ ⟨(Nat.le_of_ble_eq_true rfl), (Nat.le_of_ble_eq_true rfl)⟩ ?_
  exact z_iret X hQ dJ4_length_8abf5_4 rfl [] rfl (by decide) (by decide)
abbrev rmJ6_stringSize_0f7a4 : Room := { frames := 0, cells := 0, slots := 0, locals := 0 }
theorem metJ6_stringSize_0f7a41 (l : Launch) (D : va_G) (T : Nat → ClassId) {x0 : Int32} (h0 : ¬ x0 < 0) (h1 : ¬ (-x0) ≤ (-10 : Int32)) (base sz : Nat) : Met l yJ6_stringSize_0f7a4 (zws yJ6_stringSize_0f7a4 cJ6_stringSize_0f7a4 4 (some .int)) rmJ6_stringSize_0f7a4 (zPs D T [.int x0] [] [] base sz) (zQi D ((1 : Int32) + (0 : Int32)) [] (zA [] sz)) 0 0 (zA [] sz) := by
  refine zMetS (D := D) (T := T) (av := [.int x0]) (ws := fun T => []) (wm := fun T => []) (lv0 := [(0, .int x0)]) [] (Qc := fun D T A => zQi D ((1 : Int32) + (0 : Int32)) [] A) (by decide +kernel) rfl (Nat.le_of_ble_eq_true rfl) rfl (fun C base X Y hQ => ?_) base sz
  refine z_iconst (v := (1 : Int32)) X dJ6_stringSize_0f7a4_0 rfl ?_
  refine z_istore_n (lv2 := [(1, .int (1 : Int32)), (0, .int x0)]) X dJ6_stringSize_0f7a4_1 rfl (by decide) rfl ?_
  refine z_iload_n X dJ6_stringSize_0f7a4_2 1 rfl ?_
  refine z_if_lt (tgt := 11) X dJ6_stringSize_0f7a4_3 (by decide) (fun c => absurd c h0) (fun _ => ?_)
  refine z_iconst (v := (0 : Int32)) X dJ6_stringSize_0f7a4_6 rfl ?_
  refine z_istore_n (lv2 := [(1, .int (0 : Int32)), (0, .int x0)]) X dJ6_stringSize_0f7a4_7 rfl (by decide) rfl ?_
  refine z_iload_n X dJ6_stringSize_0f7a4_8 1 rfl ?_
  refine z_ineg X dJ6_stringSize_0f7a4_9 ?_
  refine z_istore_n (lv2 := [(0, .int (-x0)), (1, .int (0 : Int32))]) X dJ6_stringSize_0f7a4_10 rfl (by decide) rfl ?_
  refine z_bipush (v := (-10 : Int32)) X dJ6_stringSize_0f7a4_11 rfl ?_
  refine z_istore_n (lv2 := [(2, .int (-10 : Int32)), (0, .int (-x0)), (1, .int (0 : Int32))]) X dJ6_stringSize_0f7a4_13 rfl (by decide) rfl ?_
  refine z_iconst (v := (1 : Int32)) X dJ6_stringSize_0f7a4_14 rfl ?_
  refine z_istore_n (lv2 := [(3, .int (1 : Int32)), (2, .int (-10 : Int32)), (0, .int (-x0)), (1, .int (0 : Int32))]) X dJ6_stringSize_0f7a4_15 rfl (by decide) rfl ?_
  refine z_iload_n X dJ6_stringSize_0f7a4_16 0 rfl ?_
  refine z_bipush (v := (10 : Int32)) X dJ6_stringSize_0f7a4_17 rfl ?_
  refine z_icmp_ge (tgt := 42) X dJ6_stringSize_0f7a4_19 (by decide) (fun c => absurd c (by decide : ¬ (10 : Int32) ≤ 1)) (fun _ => ?_)
  refine z_iload_n X dJ6_stringSize_0f7a4_22 2 rfl ?_
  refine z_iload_n X dJ6_stringSize_0f7a4_23 1 rfl ?_
  refine z_icmp_le (tgt := 31) X dJ6_stringSize_0f7a4_24 (by decide) (fun c => absurd c h1) (fun _ => ?_)
  refine z_iload_n X dJ6_stringSize_0f7a4_27 0 rfl ?_
  refine z_iload_n X dJ6_stringSize_0f7a4_28 3 rfl ?_
  refine z_iadd X dJ6_stringSize_0f7a4_29 ?_
  exact z_iret X hQ dJ6_stringSize_0f7a4_30 rfl [] rfl (by decide) (by decide)
abbrev rmJ6_getChars_ba4f3 : Room := { frames := 0, cells := 0, slots := 0, locals := 0 }
theorem metJ6_getChars_ba4f31 (l : Launch) (D : va_G) (T : Nat → ClassId) {aO : Nat → Nat} {sO : zSt} {x0 x1 : Int32} (h0 : ¬ x0 < 0) (h1 : (-100 : Int32) < (-x0)) (h2 : (-9 : Int32) ≤ (-x0)) (hd : zin (-(-x0)) 100 = true) (hi : zin (x1 + (-1)) 16 = true) (base sz : Nat) : Met l yJ6_getChars_ba4f3 (zws yJ6_getChars_ba4f3 cJ6_getChars_ba4f3 7 (some .int)) rmJ6_getChars_ba4f3 (zPs D T [.int x0, .int x1, .ref (aO 1)] [wJ4 T aO sO] [wJ4 T aO sO] base sz) (zQi D (x1 + (-1)) [wJ4 T aO (zsw sO (x1 + (-1)) (Int32.ofNat (48 + (-(-x0)).toNatClampNeg % 10)))] (zA [wJ4 T aO sO] sz)) 0 0 (zA [wJ4 T aO sO] sz) := by
  refine zMetS (D := D) (T := T) (av := [.int x0, .int x1, .ref (aO 1)]) (ws := fun T => [wJ4 T aO sO]) (wm := fun T => [wJ4 T aO sO]) (lv0 := [(0, .int x0), (1, .int x1), (2, .ref (aO 1))]) [0] (Qc := fun D T A => zQi D (x1 + (-1)) [wJ4 T aO (zsw sO (x1 + (-1)) (Int32.ofNat (48 + (-(-x0)).toNatClampNeg % 10)))] A) (by decide +kernel) rfl (Nat.le_of_ble_eq_true rfl) rfl (fun C base X Y hQ => ?_) base sz
  obtain ⟨-, -, ⟨t1, hz1, hT1⟩, ⟨t2, hz2, hT2⟩⟩ := Y.1
  refine z_iload_n X dJ6_getChars_ba4f3_0 1 rfl ?_
  refine z_istore (lv2 := [(5, .int x1), (0, .int x0), (1, .int x1), (2, .ref (aO 1))]) X dJ6_getChars_ba4f3_1 (by decide) rfl ?_
  refine z_iload_n X dJ6_getChars_ba4f3_3 1 rfl ?_
  refine z_if_ge (tgt := 11) X dJ6_getChars_ba4f3_4 (by decide) (fun _ => ?_) (fun c => absurd (k2_le h0) c)
  refine z_iconst (v := (0 : Int32)) X dJ6_getChars_ba4f3_11 rfl ?_
  refine z_istore (lv2 := [(6, .int (0 : Int32)), (5, .int x1), (0, .int x0), (1, .int x1), (2, .ref (aO 1))]) X dJ6_getChars_ba4f3_12 (by decide) rfl ?_
  refine z_iload X dJ6_getChars_ba4f3_14 0 rfl ?_
  refine z_if_ne (tgt := 22) X dJ6_getChars_ba4f3_16 (by decide) (fun c => absurd (rfl : (0 : Int32) = 0) c) (fun _ => ?_)
  refine z_iload_n X dJ6_getChars_ba4f3_19 2 rfl ?_
  refine z_ineg X dJ6_getChars_ba4f3_20 ?_
  refine z_istore_n (lv2 := [(0, .int (-x0)), (6, .int (0 : Int32)), (5, .int x1), (1, .int x1), (2, .ref (aO 1))]) X dJ6_getChars_ba4f3_21 rfl (by decide) rfl ?_
  refine z_iload_n X dJ6_getChars_ba4f3_22 0 rfl ?_
  refine z_bipush (v := (-100 : Int32)) X dJ6_getChars_ba4f3_23 rfl ?_
  refine z_icmp_gt (tgt := 72) X dJ6_getChars_ba4f3_25 (by decide) (fun _ => ?_) (fun c => absurd h1 c)
  refine z_aload_n X dJ6_getChars_ba4f3_72 4 rfl ?_
  refine z_iinc (v := (x1 + (-1))) (lv2 := [(5, .int (x1 + (-1))), (0, .int (-x0)), (6, .int (0 : Int32)), (1, .int x1), (2, .ref (aO 1))]) X dJ6_getChars_ba4f3_73 (k := 2) rfl rfl (by decide) rfl ?_
  refine z_iload X dJ6_getChars_ba4f3_76 0 rfl ?_
  refine z_gets (v := .ref t1) X Y hz1 zj1751 dJ6_getChars_ba4f3_78 ?_
  refine z_iload_n X dJ6_getChars_ba4f3_81 1 rfl ?_
  refine z_ineg X dJ6_getChars_ba4f3_82 ?_
  refine z_tb (v := .int (Int32.ofNat (48 + (-(-x0)).toNatClampNeg % 10))) X Y hT1 hd rfl dJ6_getChars_ba4f3_83 ?_
  refine z_bJ4 (ws2 := [wJ4 (zcT C) aO (zsw sO (x1 + (-1)) (Int32.ofNat (48 + (-(-x0)).toNatClampNeg % 10)))]) X 0 hi dJ6_getChars_ba4f3_84 rfl (by decide) rfl ?_
  refine z_iload_n X dJ6_getChars_ba4f3_85 1 rfl ?_
  refine z_bipush (v := (-9 : Int32)) X dJ6_getChars_ba4f3_86 rfl ?_
  refine z_icmp_ge (tgt := 104) X dJ6_getChars_ba4f3_88 (by decide) (fun _ => ?_) (fun c => absurd h2 c)
  refine z_iload X dJ6_getChars_ba4f3_104 2 rfl ?_
  refine z_if_eq (tgt := 118) X dJ6_getChars_ba4f3_106 (by decide) (fun _ => ?_) (fun c => absurd (rfl : (0 : Int32) = 0) c)
  refine z_iload X dJ6_getChars_ba4f3_118 0 rfl ?_
  exact z_iret X hQ dJ6_getChars_ba4f3_120 rfl [0] rfl (by decide) (by decide)
theorem metJ6_stringSize_0f7a42 (l : Launch) (D : va_G) (T : Nat → ClassId) {x0 : Int32} (h0 : ¬ x0 < 0) (h1 : (-x0) ≤ (-10 : Int32)) (h2 : ¬ (-x0) ≤ (10 : Int32) * (-10 : Int32)) (base sz : Nat) : Met l yJ6_stringSize_0f7a4 (zws yJ6_stringSize_0f7a4 cJ6_stringSize_0f7a4 4 (some .int)) rmJ6_stringSize_0f7a4 (zPs D T [.int x0] [] [] base sz) (zQi D (((1 : Int32) + 1) + (0 : Int32)) [] (zA [] sz)) 0 0 (zA [] sz) := by
  refine zMetS (D := D) (T := T) (av := [.int x0]) (ws := fun T => []) (wm := fun T => []) (lv0 := [(0, .int x0)]) [] (Qc := fun D T A => zQi D (((1 : Int32) + 1) + (0 : Int32)) [] A) (by decide +kernel) rfl (Nat.le_of_ble_eq_true rfl) rfl (fun C base X Y hQ => ?_) base sz
  refine z_iconst (v := (1 : Int32)) X dJ6_stringSize_0f7a4_0 rfl ?_
  refine z_istore_n (lv2 := [(1, .int (1 : Int32)), (0, .int x0)]) X dJ6_stringSize_0f7a4_1 rfl (by decide) rfl ?_
  refine z_iload_n X dJ6_stringSize_0f7a4_2 1 rfl ?_
  refine z_if_lt (tgt := 11) X dJ6_stringSize_0f7a4_3 (by decide) (fun c => absurd c h0) (fun _ => ?_)
  refine z_iconst (v := (0 : Int32)) X dJ6_stringSize_0f7a4_6 rfl ?_
  refine z_istore_n (lv2 := [(1, .int (0 : Int32)), (0, .int x0)]) X dJ6_stringSize_0f7a4_7 rfl (by decide) rfl ?_
  refine z_iload_n X dJ6_stringSize_0f7a4_8 1 rfl ?_
  refine z_ineg X dJ6_stringSize_0f7a4_9 ?_
  refine z_istore_n (lv2 := [(0, .int (-x0)), (1, .int (0 : Int32))]) X dJ6_stringSize_0f7a4_10 rfl (by decide) rfl ?_
  refine z_bipush (v := (-10 : Int32)) X dJ6_stringSize_0f7a4_11 rfl ?_
  refine z_istore_n (lv2 := [(2, .int (-10 : Int32)), (0, .int (-x0)), (1, .int (0 : Int32))]) X dJ6_stringSize_0f7a4_13 rfl (by decide) rfl ?_
  refine z_iconst (v := (1 : Int32)) X dJ6_stringSize_0f7a4_14 rfl ?_
  refine z_istore_n (lv2 := [(3, .int (1 : Int32)), (2, .int (-10 : Int32)), (0, .int (-x0)), (1, .int (0 : Int32))]) X dJ6_stringSize_0f7a4_15 rfl (by decide) rfl ?_
  refine z_iload_n X dJ6_stringSize_0f7a4_16 0 rfl ?_
  refine z_bipush (v := (10 : Int32)) X dJ6_stringSize_0f7a4_17 rfl ?_
  refine z_icmp_ge (tgt := 42) X dJ6_stringSize_0f7a4_19 (by decide) (fun c => absurd c (by decide : ¬ (10 : Int32) ≤ 1)) (fun _ => ?_)
  refine z_iload_n X dJ6_stringSize_0f7a4_22 2 rfl ?_
  refine z_iload_n X dJ6_stringSize_0f7a4_23 1 rfl ?_
  refine z_icmp_le (tgt := 31) X dJ6_stringSize_0f7a4_24 (by decide) (fun _ => ?_) (fun c => absurd h1 c)
  refine z_bipush (v := (10 : Int32)) X dJ6_stringSize_0f7a4_31 rfl ?_
  refine z_iload_n X dJ6_stringSize_0f7a4_33 1 rfl ?_
  refine z_imul X dJ6_stringSize_0f7a4_34 ?_
  refine z_istore_n (lv2 := [(2, .int ((10 : Int32) * (-10 : Int32))), (3, .int (1 : Int32)), (0, .int (-x0)), (1, .int (0 : Int32))]) X dJ6_stringSize_0f7a4_35 rfl (by decide) rfl ?_
  refine z_iinc (v := ((1 : Int32) + 1)) (lv2 := [(3, .int ((1 : Int32) + 1)), (2, .int ((10 : Int32) * (-10 : Int32))), (0, .int (-x0)), (1, .int (0 : Int32))]) X dJ6_stringSize_0f7a4_36 (k := 1) rfl rfl (by decide) rfl ?_
  refine z_goto (tgt := 16) X dJ6_stringSize_0f7a4_39 (by decide) ?_
  refine z_iload_n X dJ6_stringSize_0f7a4_16 0 rfl ?_
  refine z_bipush (v := (10 : Int32)) X dJ6_stringSize_0f7a4_17 rfl ?_
  refine z_icmp_ge (tgt := 42) X dJ6_stringSize_0f7a4_19 (by decide) (fun c => absurd c (by decide : ¬ (10 : Int32) ≤ (1 : Int32) + 1)) (fun _ => ?_)
  refine z_iload_n X dJ6_stringSize_0f7a4_22 2 rfl ?_
  refine z_iload_n X dJ6_stringSize_0f7a4_23 1 rfl ?_
  refine z_icmp_le (tgt := 31) X dJ6_stringSize_0f7a4_24 (by decide) (fun c => absurd c h2) (fun _ => ?_)
  refine z_iload_n X dJ6_stringSize_0f7a4_27 0 rfl ?_
  refine z_iload_n X dJ6_stringSize_0f7a4_28 3 rfl ?_
  refine z_iadd X dJ6_stringSize_0f7a4_29 ?_
  exact z_iret X hQ dJ6_stringSize_0f7a4_30 rfl [] rfl (by decide) (by decide)
theorem metJ6_getChars_ba4f32 (l : Launch) (D : va_G) (T : Nat → ClassId) {aO : Nat → Nat} {sO : zSt} {x0 x1 : Int32} (h0 : ¬ x0 < 0) (h1 : (-100 : Int32) < (-x0)) (h2 : ¬ (-9 : Int32) ≤ (-x0)) (hd : zin (-(-x0)) 100 = true) (hi : zin (x1 + (-1)) 16 = true) (hi2 : zin ((x1 + (-1)) + (-1)) 16 = true) (base sz : Nat) : Met l yJ6_getChars_ba4f3 (zws yJ6_getChars_ba4f3 cJ6_getChars_ba4f3 7 (some .int)) rmJ6_getChars_ba4f3 (zPs D T [.int x0, .int x1, .ref (aO 1)] [wJ4 T aO sO] [wJ4 T aO sO] base sz) (zQi D ((x1 + (-1)) + (-1)) [wJ4 T aO (zsw (zsw sO (x1 + (-1)) (Int32.ofNat (48 + (-(-x0)).toNatClampNeg % 10))) ((x1 + (-1)) + (-1)) (Int32.ofNat (48 + (-(-x0)).toNatClampNeg / 10)))] (zA [wJ4 T aO sO] sz)) 0 0 (zA [wJ4 T aO sO] sz) := by
  refine zMetS (D := D) (T := T) (av := [.int x0, .int x1, .ref (aO 1)]) (ws := fun T => [wJ4 T aO sO]) (wm := fun T => [wJ4 T aO sO]) (lv0 := [(0, .int x0), (1, .int x1), (2, .ref (aO 1))]) [0] (Qc := fun D T A => zQi D ((x1 + (-1)) + (-1)) [wJ4 T aO (zsw (zsw sO (x1 + (-1)) (Int32.ofNat (48 + (-(-x0)).toNatClampNeg % 10))) ((x1 + (-1)) + (-1)) (Int32.ofNat (48 + (-(-x0)).toNatClampNeg / 10)))] A) (by decide +kernel) rfl (Nat.le_of_ble_eq_true rfl) rfl (fun C base X Y hQ => ?_) base sz
  obtain ⟨-, -, ⟨t1, hz1, hT1⟩, ⟨t2, hz2, hT2⟩⟩ := Y.1
  refine z_iload_n X dJ6_getChars_ba4f3_0 1 rfl ?_
  refine z_istore (lv2 := [(5, .int x1), (0, .int x0), (1, .int x1), (2, .ref (aO 1))]) X dJ6_getChars_ba4f3_1 (by decide) rfl ?_
  refine z_iload_n X dJ6_getChars_ba4f3_3 1 rfl ?_
  refine z_if_ge (tgt := 11) X dJ6_getChars_ba4f3_4 (by decide) (fun _ => ?_) (fun c => absurd (k2_le h0) c)
  refine z_iconst (v := (0 : Int32)) X dJ6_getChars_ba4f3_11 rfl ?_
  refine z_istore (lv2 := [(6, .int (0 : Int32)), (5, .int x1), (0, .int x0), (1, .int x1), (2, .ref (aO 1))]) X dJ6_getChars_ba4f3_12 (by decide) rfl ?_
  refine z_iload X dJ6_getChars_ba4f3_14 0 rfl ?_
  refine z_if_ne (tgt := 22) X dJ6_getChars_ba4f3_16 (by decide) (fun c => absurd (rfl : (0 : Int32) = 0) c) (fun _ => ?_)
  refine z_iload_n X dJ6_getChars_ba4f3_19 2 rfl ?_
  refine z_ineg X dJ6_getChars_ba4f3_20 ?_
  refine z_istore_n (lv2 := [(0, .int (-x0)), (6, .int (0 : Int32)), (5, .int x1), (1, .int x1), (2, .ref (aO 1))]) X dJ6_getChars_ba4f3_21 rfl (by decide) rfl ?_
  refine z_iload_n X dJ6_getChars_ba4f3_22 0 rfl ?_
  refine z_bipush (v := (-100 : Int32)) X dJ6_getChars_ba4f3_23 rfl ?_
  refine z_icmp_gt (tgt := 72) X dJ6_getChars_ba4f3_25 (by decide) (fun _ => ?_) (fun c => absurd h1 c)
  refine z_aload_n X dJ6_getChars_ba4f3_72 4 rfl ?_
  refine z_iinc (v := (x1 + (-1))) (lv2 := [(5, .int (x1 + (-1))), (0, .int (-x0)), (6, .int (0 : Int32)), (1, .int x1), (2, .ref (aO 1))]) X dJ6_getChars_ba4f3_73 (k := 2) rfl rfl (by decide) rfl ?_
  refine z_iload X dJ6_getChars_ba4f3_76 0 rfl ?_
  refine z_gets (v := .ref t1) X Y hz1 zj1751 dJ6_getChars_ba4f3_78 ?_
  refine z_iload_n X dJ6_getChars_ba4f3_81 1 rfl ?_
  refine z_ineg X dJ6_getChars_ba4f3_82 ?_
  refine z_tb (v := .int (Int32.ofNat (48 + (-(-x0)).toNatClampNeg % 10))) X Y hT1 hd rfl dJ6_getChars_ba4f3_83 ?_
  refine z_bJ4 (ws2 := [wJ4 (zcT C) aO (zsw sO (x1 + (-1)) (Int32.ofNat (48 + (-(-x0)).toNatClampNeg % 10)))]) X 0 hi dJ6_getChars_ba4f3_84 rfl (by decide) rfl ?_
  refine z_iload_n X dJ6_getChars_ba4f3_85 1 rfl ?_
  refine z_bipush (v := (-9 : Int32)) X dJ6_getChars_ba4f3_86 rfl ?_
  refine z_icmp_ge (tgt := 104) X dJ6_getChars_ba4f3_88 (by decide) (fun c => absurd c h2) (fun _ => ?_)
  refine z_aload_n X dJ6_getChars_ba4f3_91 4 rfl ?_
  refine z_iinc (v := ((x1 + (-1)) + (-1))) (lv2 := [(5, .int ((x1 + (-1)) + (-1))), (0, .int (-x0)), (6, .int (0 : Int32)), (1, .int x1), (2, .ref (aO 1))]) X dJ6_getChars_ba4f3_92 (k := 0) rfl rfl (by decide) rfl ?_
  refine z_iload X dJ6_getChars_ba4f3_95 0 rfl ?_
  refine z_gets (v := .ref t2) X Y hz2 zj1753 dJ6_getChars_ba4f3_97 ?_
  refine z_iload_n X dJ6_getChars_ba4f3_100 1 rfl ?_
  refine z_ineg X dJ6_getChars_ba4f3_101 ?_
  refine z_tb (v := .int (Int32.ofNat (48 + (-(-x0)).toNatClampNeg / 10))) X Y hT2 hd rfl dJ6_getChars_ba4f3_102 ?_
  refine z_bJ4 (ws2 := [wJ4 (zcT C) aO (zsw (zsw sO (x1 + (-1)) (Int32.ofNat (48 + (-(-x0)).toNatClampNeg % 10))) ((x1 + (-1)) + (-1)) (Int32.ofNat (48 + (-(-x0)).toNatClampNeg / 10)))]) X 0 hi2 dJ6_getChars_ba4f3_103 rfl (by decide) rfl ?_
  refine z_iload X dJ6_getChars_ba4f3_104 2 rfl ?_
  refine z_if_eq (tgt := 118) X dJ6_getChars_ba4f3_106 (by decide) (fun _ => ?_) (fun c => absurd (rfl : (0 : Int32) = 0) c)
  refine z_iload X dJ6_getChars_ba4f3_118 0 rfl ?_
  exact z_iret X hQ dJ6_getChars_ba4f3_120 rfl [0] rfl (by decide) (by decide)
theorem metJ6_stringSize_0f7a43 (l : Launch) (D : va_G) (T : Nat → ClassId) {x0 : Int32} (h0 : x0 < 0) (h1 : ¬ x0 ≤ (-10 : Int32)) (base sz : Nat) : Met l yJ6_stringSize_0f7a4 (zws yJ6_stringSize_0f7a4 cJ6_stringSize_0f7a4 4 (some .int)) rmJ6_stringSize_0f7a4 (zPs D T [.int x0] [] [] base sz) (zQi D ((1 : Int32) + (1 : Int32)) [] (zA [] sz)) 0 0 (zA [] sz) := by
  refine zMetS (D := D) (T := T) (av := [.int x0]) (ws := fun T => []) (wm := fun T => []) (lv0 := [(0, .int x0)]) [] (Qc := fun D T A => zQi D ((1 : Int32) + (1 : Int32)) [] A) (by decide +kernel) rfl (Nat.le_of_ble_eq_true rfl) rfl (fun C base X Y hQ => ?_) base sz
  refine z_iconst (v := (1 : Int32)) X dJ6_stringSize_0f7a4_0 rfl ?_
  refine z_istore_n (lv2 := [(1, .int (1 : Int32)), (0, .int x0)]) X dJ6_stringSize_0f7a4_1 rfl (by decide) rfl ?_
  refine z_iload_n X dJ6_stringSize_0f7a4_2 1 rfl ?_
  refine z_if_lt (tgt := 11) X dJ6_stringSize_0f7a4_3 (by decide) (fun _ => ?_) (fun c => absurd h0 c)
  refine z_bipush (v := (-10 : Int32)) X dJ6_stringSize_0f7a4_11 rfl ?_
  refine z_istore_n (lv2 := [(2, .int (-10 : Int32)), (1, .int (1 : Int32)), (0, .int x0)]) X dJ6_stringSize_0f7a4_13 rfl (by decide) rfl ?_
  refine z_iconst (v := (1 : Int32)) X dJ6_stringSize_0f7a4_14 rfl ?_
  refine z_istore_n (lv2 := [(3, .int (1 : Int32)), (2, .int (-10 : Int32)), (1, .int (1 : Int32)), (0, .int x0)]) X dJ6_stringSize_0f7a4_15 rfl (by decide) rfl ?_
  refine z_iload_n X dJ6_stringSize_0f7a4_16 0 rfl ?_
  refine z_bipush (v := (10 : Int32)) X dJ6_stringSize_0f7a4_17 rfl ?_
  refine z_icmp_ge (tgt := 42) X dJ6_stringSize_0f7a4_19 (by decide) (fun c => absurd c (by decide : ¬ (10 : Int32) ≤ 1)) (fun _ => ?_)
  refine z_iload_n X dJ6_stringSize_0f7a4_22 3 rfl ?_
  refine z_iload_n X dJ6_stringSize_0f7a4_23 1 rfl ?_
  refine z_icmp_le (tgt := 31) X dJ6_stringSize_0f7a4_24 (by decide) (fun c => absurd c h1) (fun _ => ?_)
  refine z_iload_n X dJ6_stringSize_0f7a4_27 0 rfl ?_
  refine z_iload_n X dJ6_stringSize_0f7a4_28 2 rfl ?_
  refine z_iadd X dJ6_stringSize_0f7a4_29 ?_
  exact z_iret X hQ dJ6_stringSize_0f7a4_30 rfl [] rfl (by decide) (by decide)
theorem metJ6_getChars_ba4f33 (l : Launch) (D : va_G) (T : Nat → ClassId) {aO : Nat → Nat} {sO : zSt} {x0 x1 : Int32} (h0 : x0 < 0) (h1 : (-100 : Int32) < x0) (h2 : (-9 : Int32) ≤ x0) (hd : zin (-x0) 100 = true) (hi : zin (x1 + (-1)) 16 = true) (hi3 : zin ((x1 + (-1)) + (-1)) 16 = true) (base sz : Nat) : Met l yJ6_getChars_ba4f3 (zws yJ6_getChars_ba4f3 cJ6_getChars_ba4f3 7 (some .int)) rmJ6_getChars_ba4f3 (zPs D T [.int x0, .int x1, .ref (aO 1)] [wJ4 T aO sO] [wJ4 T aO sO] base sz) (zQi D ((x1 + (-1)) + (-1)) [wJ4 T aO (zsw (zsw sO (x1 + (-1)) (Int32.ofNat (48 + (-x0).toNatClampNeg % 10))) ((x1 + (-1)) + (-1)) (45 : Int32))] (zA [wJ4 T aO sO] sz)) 0 0 (zA [wJ4 T aO sO] sz) := by
  refine zMetS (D := D) (T := T) (av := [.int x0, .int x1, .ref (aO 1)]) (ws := fun T => [wJ4 T aO sO]) (wm := fun T => [wJ4 T aO sO]) (lv0 := [(0, .int x0), (1, .int x1), (2, .ref (aO 1))]) [0] (Qc := fun D T A => zQi D ((x1 + (-1)) + (-1)) [wJ4 T aO (zsw (zsw sO (x1 + (-1)) (Int32.ofNat (48 + (-x0).toNatClampNeg % 10))) ((x1 + (-1)) + (-1)) (45 : Int32))] A) (by decide +kernel) rfl (Nat.le_of_ble_eq_true rfl) rfl (fun C base X Y hQ => ?_) base sz
  obtain ⟨-, -, ⟨t1, hz1, hT1⟩, ⟨t2, hz2, hT2⟩⟩ := Y.1
  refine z_iload_n X dJ6_getChars_ba4f3_0 1 rfl ?_
  refine z_istore (lv2 := [(5, .int x1), (0, .int x0), (1, .int x1), (2, .ref (aO 1))]) X dJ6_getChars_ba4f3_1 (by decide) rfl ?_
  refine z_iload_n X dJ6_getChars_ba4f3_3 1 rfl ?_
  refine z_if_ge (tgt := 11) X dJ6_getChars_ba4f3_4 (by decide) (fun c => absurd c (fun h => absurd h0 (k2_nlt h))) (fun _ => ?_)
  refine z_iconst (v := (1 : Int32)) X dJ6_getChars_ba4f3_7 rfl ?_
  refine z_goto (tgt := 12) X dJ6_getChars_ba4f3_8 (by decide) ?_
  refine z_istore (lv2 := [(6, .int (1 : Int32)), (5, .int x1), (0, .int x0), (1, .int x1), (2, .ref (aO 1))]) X dJ6_getChars_ba4f3_12 (by decide) rfl ?_
  refine z_iload X dJ6_getChars_ba4f3_14 0 rfl ?_
  refine z_if_ne (tgt := 22) X dJ6_getChars_ba4f3_16 (by decide) (fun _ => ?_) (fun c => absurd c (by decide : ¬ (1 : Int32) = 0))
  refine z_iload_n X dJ6_getChars_ba4f3_22 2 rfl ?_
  refine z_bipush (v := (-100 : Int32)) X dJ6_getChars_ba4f3_23 rfl ?_
  refine z_icmp_gt (tgt := 72) X dJ6_getChars_ba4f3_25 (by decide) (fun _ => ?_) (fun c => absurd h1 c)
  refine z_aload_n X dJ6_getChars_ba4f3_72 4 rfl ?_
  refine z_iinc (v := (x1 + (-1))) (lv2 := [(5, .int (x1 + (-1))), (6, .int (1 : Int32)), (0, .int x0), (1, .int x1), (2, .ref (aO 1))]) X dJ6_getChars_ba4f3_73 (k := 1) rfl rfl (by decide) rfl ?_
  refine z_iload X dJ6_getChars_ba4f3_76 0 rfl ?_
  refine z_gets (v := .ref t1) X Y hz1 zj1751 dJ6_getChars_ba4f3_78 ?_
  refine z_iload_n X dJ6_getChars_ba4f3_81 2 rfl ?_
  refine z_ineg X dJ6_getChars_ba4f3_82 ?_
  refine z_tb (v := .int (Int32.ofNat (48 + (-x0).toNatClampNeg % 10))) X Y hT1 hd rfl dJ6_getChars_ba4f3_83 ?_
  refine z_bJ4 (ws2 := [wJ4 (zcT C) aO (zsw sO (x1 + (-1)) (Int32.ofNat (48 + (-x0).toNatClampNeg % 10)))]) X 0 hi dJ6_getChars_ba4f3_84 rfl (by decide) rfl ?_
  refine z_iload_n X dJ6_getChars_ba4f3_85 2 rfl ?_
  refine z_bipush (v := (-9 : Int32)) X dJ6_getChars_ba4f3_86 rfl ?_
  refine z_icmp_ge (tgt := 104) X dJ6_getChars_ba4f3_88 (by decide) (fun _ => ?_) (fun c => absurd h2 c)
  refine z_iload X dJ6_getChars_ba4f3_104 1 rfl ?_
  refine z_if_eq (tgt := 118) X dJ6_getChars_ba4f3_106 (by decide) (fun c => absurd c (by decide : ¬ (1 : Int32) = 0)) (fun _ => ?_)
  refine z_aload_n X dJ6_getChars_ba4f3_109 4 rfl ?_
  refine z_iinc (v := ((x1 + (-1)) + (-1))) (lv2 := [(5, .int ((x1 + (-1)) + (-1))), (6, .int (1 : Int32)), (0, .int x0), (1, .int x1), (2, .ref (aO 1))]) X dJ6_getChars_ba4f3_110 (k := 0) rfl rfl (by decide) rfl ?_
  refine z_iload X dJ6_getChars_ba4f3_113 0 rfl ?_
  refine z_bipush (v := (45 : Int32)) X dJ6_getChars_ba4f3_115 rfl ?_
  refine z_bJ4 (ws2 := [wJ4 (zcT C) aO (zsw (zsw sO (x1 + (-1)) (Int32.ofNat (48 + (-x0).toNatClampNeg % 10))) ((x1 + (-1)) + (-1)) (45 : Int32))]) X 0 hi3 dJ6_getChars_ba4f3_117 rfl (by decide) rfl ?_
  refine z_iload X dJ6_getChars_ba4f3_118 0 rfl ?_
  exact z_iret X hQ dJ6_getChars_ba4f3_120 rfl [0] rfl (by decide) (by decide)
theorem metJ6_stringSize_0f7a44 (l : Launch) (D : va_G) (T : Nat → ClassId) {x0 : Int32} (h0 : x0 < 0) (h1 : x0 ≤ (-10 : Int32)) (h2 : ¬ x0 ≤ (10 : Int32) * (-10 : Int32)) (base sz : Nat) : Met l yJ6_stringSize_0f7a4 (zws yJ6_stringSize_0f7a4 cJ6_stringSize_0f7a4 4 (some .int)) rmJ6_stringSize_0f7a4 (zPs D T [.int x0] [] [] base sz) (zQi D (((1 : Int32) + 1) + (1 : Int32)) [] (zA [] sz)) 0 0 (zA [] sz) := by
  refine zMetS (D := D) (T := T) (av := [.int x0]) (ws := fun T => []) (wm := fun T => []) (lv0 := [(0, .int x0)]) [] (Qc := fun D T A => zQi D (((1 : Int32) + 1) + (1 : Int32)) [] A) (by decide +kernel) rfl (Nat.le_of_ble_eq_true rfl) rfl (fun C base X Y hQ => ?_) base sz
  refine z_iconst (v := (1 : Int32)) X dJ6_stringSize_0f7a4_0 rfl ?_
  refine z_istore_n (lv2 := [(1, .int (1 : Int32)), (0, .int x0)]) X dJ6_stringSize_0f7a4_1 rfl (by decide) rfl ?_
  refine z_iload_n X dJ6_stringSize_0f7a4_2 1 rfl ?_
  refine z_if_lt (tgt := 11) X dJ6_stringSize_0f7a4_3 (by decide) (fun _ => ?_) (fun c => absurd h0 c)
  refine z_bipush (v := (-10 : Int32)) X dJ6_stringSize_0f7a4_11 rfl ?_
  refine z_istore_n (lv2 := [(2, .int (-10 : Int32)), (1, .int (1 : Int32)), (0, .int x0)]) X dJ6_stringSize_0f7a4_13 rfl (by decide) rfl ?_
  refine z_iconst (v := (1 : Int32)) X dJ6_stringSize_0f7a4_14 rfl ?_
  refine z_istore_n (lv2 := [(3, .int (1 : Int32)), (2, .int (-10 : Int32)), (1, .int (1 : Int32)), (0, .int x0)]) X dJ6_stringSize_0f7a4_15 rfl (by decide) rfl ?_
  refine z_iload_n X dJ6_stringSize_0f7a4_16 0 rfl ?_
  refine z_bipush (v := (10 : Int32)) X dJ6_stringSize_0f7a4_17 rfl ?_
  refine z_icmp_ge (tgt := 42) X dJ6_stringSize_0f7a4_19 (by decide) (fun c => absurd c (by decide : ¬ (10 : Int32) ≤ 1)) (fun _ => ?_)
  refine z_iload_n X dJ6_stringSize_0f7a4_22 3 rfl ?_
  refine z_iload_n X dJ6_stringSize_0f7a4_23 1 rfl ?_
  refine z_icmp_le (tgt := 31) X dJ6_stringSize_0f7a4_24 (by decide) (fun _ => ?_) (fun c => absurd h1 c)
  refine z_bipush (v := (10 : Int32)) X dJ6_stringSize_0f7a4_31 rfl ?_
  refine z_iload_n X dJ6_stringSize_0f7a4_33 1 rfl ?_
  refine z_imul X dJ6_stringSize_0f7a4_34 ?_
  refine z_istore_n (lv2 := [(2, .int ((10 : Int32) * (-10 : Int32))), (3, .int (1 : Int32)), (1, .int (1 : Int32)), (0, .int x0)]) X dJ6_stringSize_0f7a4_35 rfl (by decide) rfl ?_
  refine z_iinc (v := ((1 : Int32) + 1)) (lv2 := [(3, .int ((1 : Int32) + 1)), (2, .int ((10 : Int32) * (-10 : Int32))), (1, .int (1 : Int32)), (0, .int x0)]) X dJ6_stringSize_0f7a4_36 (k := 1) rfl rfl (by decide) rfl ?_
  refine z_goto (tgt := 16) X dJ6_stringSize_0f7a4_39 (by decide) ?_
  refine z_iload_n X dJ6_stringSize_0f7a4_16 0 rfl ?_
  refine z_bipush (v := (10 : Int32)) X dJ6_stringSize_0f7a4_17 rfl ?_
  refine z_icmp_ge (tgt := 42) X dJ6_stringSize_0f7a4_19 (by decide) (fun c => absurd c (by decide : ¬ (10 : Int32) ≤ (1 : Int32) + 1)) (fun _ => ?_)
  refine z_iload_n X dJ6_stringSize_0f7a4_22 3 rfl ?_
  refine z_iload_n X dJ6_stringSize_0f7a4_23 1 rfl ?_
  refine z_icmp_le (tgt := 31) X dJ6_stringSize_0f7a4_24 (by decide) (fun c => absurd c h2) (fun _ => ?_)
  refine z_iload_n X dJ6_stringSize_0f7a4_27 0 rfl ?_
  refine z_iload_n X dJ6_stringSize_0f7a4_28 2 rfl ?_
  refine z_iadd X dJ6_stringSize_0f7a4_29 ?_
  exact z_iret X hQ dJ6_stringSize_0f7a4_30 rfl [] rfl (by decide) (by decide)
theorem metJ6_getChars_ba4f34 (l : Launch) (D : va_G) (T : Nat → ClassId) {aO : Nat → Nat} {sO : zSt} {x0 x1 : Int32} (h0 : x0 < 0) (h1 : (-100 : Int32) < x0) (h2 : ¬ (-9 : Int32) ≤ x0) (hd : zin (-x0) 100 = true) (hi : zin (x1 + (-1)) 16 = true) (hi2 : zin ((x1 + (-1)) + (-1)) 16 = true) (hi3 : zin (((x1 + (-1)) + (-1)) + (-1)) 16 = true) (base sz : Nat) : Met l yJ6_getChars_ba4f3 (zws yJ6_getChars_ba4f3 cJ6_getChars_ba4f3 7 (some .int)) rmJ6_getChars_ba4f3 (zPs D T [.int x0, .int x1, .ref (aO 1)] [wJ4 T aO sO] [wJ4 T aO sO] base sz) (zQi D (((x1 + (-1)) + (-1)) + (-1)) [wJ4 T aO (zsw (zsw (zsw sO (x1 + (-1)) (Int32.ofNat (48 + (-x0).toNatClampNeg % 10))) ((x1 + (-1)) + (-1)) (Int32.ofNat (48 + (-x0).toNatClampNeg / 10))) (((x1 + (-1)) + (-1)) + (-1)) (45 : Int32))] (zA [wJ4 T aO sO] sz)) 0 0 (zA [wJ4 T aO sO] sz) := by
  refine zMetS (D := D) (T := T) (av := [.int x0, .int x1, .ref (aO 1)]) (ws := fun T => [wJ4 T aO sO]) (wm := fun T => [wJ4 T aO sO]) (lv0 := [(0, .int x0), (1, .int x1), (2, .ref (aO 1))]) [0] (Qc := fun D T A => zQi D (((x1 + (-1)) + (-1)) + (-1)) [wJ4 T aO (zsw (zsw (zsw sO (x1 + (-1)) (Int32.ofNat (48 + (-x0).toNatClampNeg % 10))) ((x1 + (-1)) + (-1)) (Int32.ofNat (48 + (-x0).toNatClampNeg / 10))) (((x1 + (-1)) + (-1)) + (-1)) (45 : Int32))] A) (by decide +kernel) rfl (Nat.le_of_ble_eq_true rfl) rfl (fun C base X Y hQ => ?_) base sz
  obtain ⟨-, -, ⟨t1, hz1, hT1⟩, ⟨t2, hz2, hT2⟩⟩ := Y.1
  refine z_iload_n X dJ6_getChars_ba4f3_0 1 rfl ?_
  refine z_istore (lv2 := [(5, .int x1), (0, .int x0), (1, .int x1), (2, .ref (aO 1))]) X dJ6_getChars_ba4f3_1 (by decide) rfl ?_
  refine z_iload_n X dJ6_getChars_ba4f3_3 1 rfl ?_
  refine z_if_ge (tgt := 11) X dJ6_getChars_ba4f3_4 (by decide) (fun c => absurd c (fun h => absurd h0 (k2_nlt h))) (fun _ => ?_)
  refine z_iconst (v := (1 : Int32)) X dJ6_getChars_ba4f3_7 rfl ?_
  refine z_goto (tgt := 12) X dJ6_getChars_ba4f3_8 (by decide) ?_
  refine z_istore (lv2 := [(6, .int (1 : Int32)), (5, .int x1), (0, .int x0), (1, .int x1), (2, .ref (aO 1))]) X dJ6_getChars_ba4f3_12 (by decide) rfl ?_
  refine z_iload X dJ6_getChars_ba4f3_14 0 rfl ?_
  refine z_if_ne (tgt := 22) X dJ6_getChars_ba4f3_16 (by decide) (fun _ => ?_) (fun c => absurd c (by decide : ¬ (1 : Int32) = 0))
  refine z_iload_n X dJ6_getChars_ba4f3_22 2 rfl ?_
  refine z_bipush (v := (-100 : Int32)) X dJ6_getChars_ba4f3_23 rfl ?_
  refine z_icmp_gt (tgt := 72) X dJ6_getChars_ba4f3_25 (by decide) (fun _ => ?_) (fun c => absurd h1 c)
  refine z_aload_n X dJ6_getChars_ba4f3_72 4 rfl ?_
  refine z_iinc (v := (x1 + (-1))) (lv2 := [(5, .int (x1 + (-1))), (6, .int (1 : Int32)), (0, .int x0), (1, .int x1), (2, .ref (aO 1))]) X dJ6_getChars_ba4f3_73 (k := 1) rfl rfl (by decide) rfl ?_
  refine z_iload X dJ6_getChars_ba4f3_76 0 rfl ?_
  refine z_gets (v := .ref t1) X Y hz1 zj1751 dJ6_getChars_ba4f3_78 ?_
  refine z_iload_n X dJ6_getChars_ba4f3_81 2 rfl ?_
  refine z_ineg X dJ6_getChars_ba4f3_82 ?_
  refine z_tb (v := .int (Int32.ofNat (48 + (-x0).toNatClampNeg % 10))) X Y hT1 hd rfl dJ6_getChars_ba4f3_83 ?_
  refine z_bJ4 (ws2 := [wJ4 (zcT C) aO (zsw sO (x1 + (-1)) (Int32.ofNat (48 + (-x0).toNatClampNeg % 10)))]) X 0 hi dJ6_getChars_ba4f3_84 rfl (by decide) rfl ?_
  refine z_iload_n X dJ6_getChars_ba4f3_85 2 rfl ?_
  refine z_bipush (v := (-9 : Int32)) X dJ6_getChars_ba4f3_86 rfl ?_
  refine z_icmp_ge (tgt := 104) X dJ6_getChars_ba4f3_88 (by decide) (fun c => absurd c h2) (fun _ => ?_)
  refine z_aload_n X dJ6_getChars_ba4f3_91 4 rfl ?_
  refine z_iinc (v := ((x1 + (-1)) + (-1))) (lv2 := [(5, .int ((x1 + (-1)) + (-1))), (6, .int (1 : Int32)), (0, .int x0), (1, .int x1), (2, .ref (aO 1))]) X dJ6_getChars_ba4f3_92 (k := 0) rfl rfl (by decide) rfl ?_
  refine z_iload X dJ6_getChars_ba4f3_95 0 rfl ?_
  refine z_gets (v := .ref t2) X Y hz2 zj1753 dJ6_getChars_ba4f3_97 ?_
  refine z_iload_n X dJ6_getChars_ba4f3_100 2 rfl ?_
  refine z_ineg X dJ6_getChars_ba4f3_101 ?_
  refine z_tb (v := .int (Int32.ofNat (48 + (-x0).toNatClampNeg / 10))) X Y hT2 hd rfl dJ6_getChars_ba4f3_102 ?_
  refine z_bJ4 (ws2 := [wJ4 (zcT C) aO (zsw (zsw sO (x1 + (-1)) (Int32.ofNat (48 + (-x0).toNatClampNeg % 10))) ((x1 + (-1)) + (-1)) (Int32.ofNat (48 + (-x0).toNatClampNeg / 10)))]) X 0 hi2 dJ6_getChars_ba4f3_103 rfl (by decide) rfl ?_
  refine z_iload X dJ6_getChars_ba4f3_104 1 rfl ?_
  refine z_if_eq (tgt := 118) X dJ6_getChars_ba4f3_106 (by decide) (fun c => absurd c (by decide : ¬ (1 : Int32) = 0)) (fun _ => ?_)
  refine z_aload_n X dJ6_getChars_ba4f3_109 4 rfl ?_
  refine z_iinc (v := (((x1 + (-1)) + (-1)) + (-1))) (lv2 := [(5, .int (((x1 + (-1)) + (-1)) + (-1))), (6, .int (1 : Int32)), (0, .int x0), (1, .int x1), (2, .ref (aO 1))]) X dJ6_getChars_ba4f3_110 (k := 0) rfl rfl (by decide) rfl ?_
  refine z_iload X dJ6_getChars_ba4f3_113 0 rfl ?_
  refine z_bipush (v := (45 : Int32)) X dJ6_getChars_ba4f3_115 rfl ?_
  refine z_bJ4 (ws2 := [wJ4 (zcT C) aO (zsw (zsw (zsw sO (x1 + (-1)) (Int32.ofNat (48 + (-x0).toNatClampNeg % 10))) ((x1 + (-1)) + (-1)) (Int32.ofNat (48 + (-x0).toNatClampNeg / 10))) (((x1 + (-1)) + (-1)) + (-1)) (45 : Int32))]) X 0 hi3 dJ6_getChars_ba4f3_117 rfl (by decide) rfl ?_
  refine z_iload X dJ6_getChars_ba4f3_118 0 rfl ?_
  exact z_iret X hQ dJ6_getChars_ba4f3_120 rfl [0] rfl (by decide) (by decide)
abbrev rmJ5_append_c97b9 : Room := { frames := 1, cells := 0, slots := 0, locals := 26 }
theorem metJ5_append_c97b91 (l : Launch) (D : va_G) (T : Nat → ClassId) {aO : Nat → Nat} {sO : zSt} {x1 : Int32} (hc : zgi sO 1 = 0) (h0 : ¬ x1 < 0) (hs : ¬ (-x1) ≤ (-10 : Int32)) (he : (zgi sO 3 + ((1 : Int32) + (0 : Int32))) - (16 : Int32) >>> (zgi sO 1 &&& 31) ≤ 0) (h1 : (-100 : Int32) < (-x1)) (h2 : (-9 : Int32) ≤ (-x1)) (hd : zin (-(-x1)) 100 = true) (hi : zin ((zgi sO 3 + ((1 : Int32) + (0 : Int32))) + (-1)) 16 = true) (base sz : Nat) : Met l yJ5_append_c97b9 (zws yJ5_append_c97b9 cJ5_append_c97b9 4 (some (.object "java/lang/AbstractStringBuilder"))) rmJ5_append_c97b9 (zPs D T [.ref (aO 0), .int x1] [wJ4 T aO sO] [wJ4 T aO sO] base sz) (zQr D (aO 0) [wJ4 T aO (zsi (zsw sO ((zgi sO 3 + ((1 : Int32) + (0 : Int32))) + (-1)) (Int32.ofNat (48 + (-(-x1)).toNatClampNeg % 10))) 3 ((zgi sO 3) + ((1 : Int32) + (0 : Int32))))] (zA [wJ4 T aO sO] sz)) 0 0 (zA [wJ4 T aO sO] sz) := by
  refine zMetS (D := D) (T := T) (av := [.ref (aO 0), .int x1]) (ws := fun T => [wJ4 T aO sO]) (wm := fun T => [wJ4 T aO sO]) (lv0 := [(0, .ref (aO 0)), (1, .int x1)]) [0] (Qc := fun D T A => zQr D (aO 0) [wJ4 T aO (zsi (zsw sO ((zgi sO 3 + ((1 : Int32) + (0 : Int32))) + (-1)) (Int32.ofNat (48 + (-(-x1)).toNatClampNeg % 10))) 3 ((zgi sO 3) + ((1 : Int32) + (0 : Int32))))] A) (by decide +kernel) rfl (Nat.le_of_ble_eq_true rfl) rfl (fun C base X Y hQ => ?_) base sz
  refine z_aload_n X dJ5_append_c97b9_0 0 rfl ?_
  refine z_getI (v := .int (zgi sO 3)) X 0 0 0 3 ziJ4 rfl (by decide) zj1626 dJ5_append_c97b9_1 rfl rfl rfl ?_
  refine z_istore_n (lv2 := [(2, .int (zgi sO 3)), (0, .ref (aO 0)), (1, .int x1)]) X dJ5_append_c97b9_4 rfl (by decide) rfl ?_
  refine z_iload_n X dJ5_append_c97b9_5 0 rfl ?_
  refine z_iload_n X dJ5_append_c97b9_6 2 rfl ?_
  refine z_sSi (st := [.int (zgi sO 3)]) (ws2 := [wJ4 (zcT C) aO sO]) X Y (metJ6_stringSize_0f7a41 (zcl C) (zcD C) (zcT C) h0 hs) zmJ6_stringSize_0f7a4 zj1745 dJ5_append_c97b9_7 [] rfl rfl [] rfl (by decide) trivial rfl rfl rfl (Nat.le_of_ble_eq_true rfl) rfl rfl ⟨(Nat.le_of_ble_eq_true rfl), (Nat.le_of_ble_eq_true rfl)⟩ ⟨(Nat.le_of_ble_eq_true rfl), (Nat.le_of_ble_eq_true rfl)⟩ ?_
  refine z_iadd X dJ5_append_c97b9_10 ?_
  refine z_istore_n (lv2 := [(3, .int ((zgi sO 3) + ((1 : Int32) + (0 : Int32)))), (2, .int (zgi sO 3)), (0, .ref (aO 0)), (1, .int x1)]) X dJ5_append_c97b9_11 rfl (by decide) rfl ?_
  refine z_aload_n X dJ5_append_c97b9_12 2 rfl ?_
  refine z_iload_n X dJ5_append_c97b9_13 0 rfl ?_
  refine z_sUv (st := []) (ws2 := [wJ4 (zcT C) aO sO]) X Y (metJ5_ensureCapacityInternal_d00df (zcl C) (zcD C) (zcT C) he) zmUJ5_100 (X.2.2.2.2.1 _ zW_up) dJ5_append_c97b9_14 0 0 0 rfl rfl rfl rfl [0] rfl rfl [] rfl (by decide) trivial rfl rfl rfl (Nat.le_of_ble_eq_true rfl) rfl rfl ⟨(Nat.le_of_ble_eq_true rfl), (Nat.le_of_ble_eq_true rfl)⟩ ⟨(Nat.le_of_ble_eq_true rfl), (Nat.le_of_ble_eq_true rfl)⟩ ?_
  refine z_aload_n X dJ5_append_c97b9_17 2 rfl ?_
  refine z_sUi (st := []) (ws2 := [wJ4 (zcT C) aO sO]) X Y (metJ5_isLatin1_aae02 (zcl C) (zcD C) (zcT C) hc) zmUJ5_83 (X.2.2.2.2.1 _ zj1681) dJ5_append_c97b9_18 0 0 0 rfl rfl rfl rfl [0] rfl rfl [] rfl (by decide) trivial rfl rfl rfl (Nat.le_of_ble_eq_true rfl) rfl rfl ⟨(Nat.le_of_ble_eq_true rfl), (Nat.le_of_ble_eq_true rfl)⟩ ⟨(Nat.le_of_ble_eq_true rfl), (Nat.le_of_ble_eq_true rfl)⟩ ?_
  refine z_if_eq (tgt := 37) X dJ5_append_c97b9_21 (by decide) (fun c => absurd c (by decide : ¬ (1 : Int32) = 0)) (fun _ => ?_)
  refine z_iload_n X dJ5_append_c97b9_24 3 rfl ?_
  refine z_iload_n X dJ5_append_c97b9_25 0 rfl ?_
  refine z_aload_n X dJ5_append_c97b9_26 2 rfl ?_
  refine z_getI (v := .ref (aO 1)) X 0 0 0 0 ziJ4 rfl (by decide) zj1624 dJ5_append_c97b9_27 rfl rfl rfl ?_
  refine z_sSi (st := []) (ws2 := [wJ4 (zcT C) aO (zsw sO ((zgi sO 3 + ((1 : Int32) + (0 : Int32))) + (-1)) (Int32.ofNat (48 + (-(-x1)).toNatClampNeg % 10)))]) X Y (metJ6_getChars_ba4f31 (zcl C) (zcD C) (zcT C) h0 h1 h2 hd hi) zmJ6_getChars_ba4f3 zj1748 dJ5_append_c97b9_30 [0] rfl rfl [0] rfl (by decide) ⟨zsJ4, trivial⟩ rfl rfl rfl (Nat.le_of_ble_eq_true rfl) rfl rfl ⟨(Nat.le_of_ble_eq_true rfl), (Nat.le_of_ble_eq_true rfl)⟩ ⟨(Nat.le_of_ble_eq_true rfl), (Nat.le_of_ble_eq_true rfl)⟩ ?_
  refine z_pop X dJ5_append_c97b9_33 rfl ?_
  refine z_goto (tgt := 48) X dJ5_append_c97b9_34 (by decide) ?_
  refine z_aload_n X dJ5_append_c97b9_48 2 rfl ?_
  refine z_iload_n X dJ5_append_c97b9_49 0 rfl ?_
  refine z_putI (ws2 := [wJ4 (zcT C) aO (zsi (zsw sO ((zgi sO 3 + ((1 : Int32) + (0 : Int32))) + (-1)) (Int32.ofNat (48 + (-(-x1)).toNatClampNeg % 10))) 3 ((zgi sO 3) + ((1 : Int32) + (0 : Int32))))]) (w2 := wJ4 (zcT C) aO (zsi (zsw sO ((zgi sO 3 + ((1 : Int32) + (0 : Int32))) + (-1)) (Int32.ofNat (48 + (-(-x1)).toNatClampNeg % 10))) 3 ((zgi sO 3) + ((1 : Int32) + (0 : Int32))))) X 0 0 0 3 ziJ4 rfl tyJ4 tyJ4_ok nmJ4 (by decide) zj1626 rfl (ty := .int) (by decide +kernel) rfl rfl (by show 3 < 4; decide) dJ5_append_c97b9_50 rfl rfl (by decide) rfl rfl ?_
  refine z_aload_n X dJ5_append_c97b9_53 2 rfl ?_
  exact z_aret X hQ dJ5_append_c97b9_54 rfl [0] rfl (by decide) (by decide)
abbrev rmJ4_append_bf812 : Room := { frames := 2, cells := 0, slots := 0, locals := 49 }
theorem metJ4_append_bf8121 (l : Launch) (D : va_G) (T : Nat → ClassId) {aO : Nat → Nat} {sO : zSt} {x1 : Int32} (hc : zgi sO 1 = 0) (h0 : ¬ x1 < 0) (hs : ¬ (-x1) ≤ (-10 : Int32)) (he : (zgi sO 3 + ((1 : Int32) + (0 : Int32))) - (16 : Int32) >>> (zgi sO 1 &&& 31) ≤ 0) (h1 : (-100 : Int32) < (-x1)) (h2 : (-9 : Int32) ≤ (-x1)) (hd : zin (-(-x1)) 100 = true) (hi : zin ((zgi sO 3 + ((1 : Int32) + (0 : Int32))) + (-1)) 16 = true) (base sz : Nat) : Met l yJ4_append_bf812 (zws yJ4_append_bf812 cJ4_append_bf812 2 (some (.object "java/lang/StringBuilder"))) rmJ4_append_bf812 (zPs D T [.ref (aO 0), .int x1] [wJ4 T aO sO] [wJ4 T aO sO] base sz) (zQr D (aO 0) [wJ4 T aO (zsi (zsw sO ((zgi sO 3 + ((1 : Int32) + (0 : Int32))) + (-1)) (Int32.ofNat (48 + (-(-x1)).toNatClampNeg % 10))) 3 ((zgi sO 3) + ((1 : Int32) + (0 : Int32))))] (zA [wJ4 T aO sO] sz)) 0 0 (zA [wJ4 T aO sO] sz) := by
  refine zMetS (D := D) (T := T) (av := [.ref (aO 0), .int x1]) (ws := fun T => [wJ4 T aO sO]) (wm := fun T => [wJ4 T aO sO]) (lv0 := [(0, .ref (aO 0)), (1, .int x1)]) [0] (Qc := fun D T A => zQr D (aO 0) [wJ4 T aO (zsi (zsw sO ((zgi sO 3 + ((1 : Int32) + (0 : Int32))) + (-1)) (Int32.ofNat (48 + (-(-x1)).toNatClampNeg % 10))) 3 ((zgi sO 3) + ((1 : Int32) + (0 : Int32))))] A) (by decide +kernel) rfl (Nat.le_of_ble_eq_true rfl) rfl (fun C base X Y hQ => ?_) base sz
  refine z_aload_n X dJ4_append_bf812_0 0 rfl ?_
  refine z_iload_n X dJ4_append_bf812_1 1 rfl ?_
  refine z_sPr (st := []) (ws2 := [wJ4 (zcT C) aO (zsi (zsw sO ((zgi sO 3 + ((1 : Int32) + (0 : Int32))) + (-1)) (Int32.ofNat (48 + (-(-x1)).toNatClampNeg % 10))) 3 ((zgi sO 3) + ((1 : Int32) + (0 : Int32))))]) X Y (metJ5_append_c97b91 (zcl C) (zcD C) (zcT C) hc h0 hs he h1 h2 hd hi) zmPJ4_53 dJ4_append_bf812_2 0 0 0 rfl rfl rfl [0] rfl rfl [0] rfl (by decide) ⟨zsJ4, trivial⟩ rfl rfl rfl (Nat.le_of_ble_eq_true rfl) rfl rfl ⟨(Nat.le_of_ble_eq_true rfl), (Nat.le_of_ble_eq_true rfl)⟩ ⟨(Nat.le_of_ble_eq_true rfl), (Nat.le_of_ble_eq_true rfl)⟩ ?_
  refine z_pop X dJ4_append_bf812_5 rfl ?_
  refine z_aload_n X dJ4_append_bf812_6 0 rfl ?_
  exact z_aret X hQ dJ4_append_bf812_7 rfl [0] rfl (by decide) (by decide)
theorem metJ5_append_c97b92 (l : Launch) (D : va_G) (T : Nat → ClassId) {aO : Nat → Nat} {sO : zSt} {x1 : Int32} (hc : zgi sO 1 = 0) (h0 : ¬ x1 < 0) (hs : (-x1) ≤ (-10 : Int32)) (hs2 : ¬ (-x1) ≤ (10 : Int32) * (-10 : Int32)) (he : (zgi sO 3 + (((1 : Int32) + 1) + (0 : Int32))) - (16 : Int32) >>> (zgi sO 1 &&& 31) ≤ 0) (h1 : (-100 : Int32) < (-x1)) (h2 : ¬ (-9 : Int32) ≤ (-x1)) (hd : zin (-(-x1)) 100 = true) (hi : zin ((zgi sO 3 + (((1 : Int32) + 1) + (0 : Int32))) + (-1)) 16 = true) (hi2 : zin (((zgi sO 3 + (((1 : Int32) + 1) + (0 : Int32))) + (-1)) + (-1)) 16 = true) (base sz : Nat) : Met l yJ5_append_c97b9 (zws yJ5_append_c97b9 cJ5_append_c97b9 4 (some (.object "java/lang/AbstractStringBuilder"))) rmJ5_append_c97b9 (zPs D T [.ref (aO 0), .int x1] [wJ4 T aO sO] [wJ4 T aO sO] base sz) (zQr D (aO 0) [wJ4 T aO (zsi (zsw (zsw sO ((zgi sO 3 + (((1 : Int32) + 1) + (0 : Int32))) + (-1)) (Int32.ofNat (48 + (-(-x1)).toNatClampNeg % 10))) (((zgi sO 3 + (((1 : Int32) + 1) + (0 : Int32))) + (-1)) + (-1)) (Int32.ofNat (48 + (-(-x1)).toNatClampNeg / 10))) 3 ((zgi sO 3) + (((1 : Int32) + 1) + (0 : Int32))))] (zA [wJ4 T aO sO] sz)) 0 0 (zA [wJ4 T aO sO] sz) := by
  refine zMetS (D := D) (T := T) (av := [.ref (aO 0), .int x1]) (ws := fun T => [wJ4 T aO sO]) (wm := fun T => [wJ4 T aO sO]) (lv0 := [(0, .ref (aO 0)), (1, .int x1)]) [0] (Qc := fun D T A => zQr D (aO 0) [wJ4 T aO (zsi (zsw (zsw sO ((zgi sO 3 + (((1 : Int32) + 1) + (0 : Int32))) + (-1)) (Int32.ofNat (48 + (-(-x1)).toNatClampNeg % 10))) (((zgi sO 3 + (((1 : Int32) + 1) + (0 : Int32))) + (-1)) + (-1)) (Int32.ofNat (48 + (-(-x1)).toNatClampNeg / 10))) 3 ((zgi sO 3) + (((1 : Int32) + 1) + (0 : Int32))))] A) (by decide +kernel) rfl (Nat.le_of_ble_eq_true rfl) rfl (fun C base X Y hQ => ?_) base sz
  refine z_aload_n X dJ5_append_c97b9_0 0 rfl ?_
  refine z_getI (v := .int (zgi sO 3)) X 0 0 0 3 ziJ4 rfl (by decide) zj1626 dJ5_append_c97b9_1 rfl rfl rfl ?_
  refine z_istore_n (lv2 := [(2, .int (zgi sO 3)), (0, .ref (aO 0)), (1, .int x1)]) X dJ5_append_c97b9_4 rfl (by decide) rfl ?_
  refine z_iload_n X dJ5_append_c97b9_5 0 rfl ?_
  refine z_iload_n X dJ5_append_c97b9_6 2 rfl ?_
  refine z_sSi (st := [.int (zgi sO 3)]) (ws2 := [wJ4 (zcT C) aO sO]) X Y (metJ6_stringSize_0f7a42 (zcl C) (zcD C) (zcT C) h0 hs hs2) zmJ6_stringSize_0f7a4 zj1745 dJ5_append_c97b9_7 [] rfl rfl [] rfl (by decide) trivial rfl rfl rfl (Nat.le_of_ble_eq_true rfl) rfl rfl ⟨(Nat.le_of_ble_eq_true rfl), (Nat.le_of_ble_eq_true rfl)⟩ ⟨(Nat.le_of_ble_eq_true rfl), (Nat.le_of_ble_eq_true rfl)⟩ ?_
  refine z_iadd X dJ5_append_c97b9_10 ?_
  refine z_istore_n (lv2 := [(3, .int ((zgi sO 3) + (((1 : Int32) + 1) + (0 : Int32)))), (2, .int (zgi sO 3)), (0, .ref (aO 0)), (1, .int x1)]) X dJ5_append_c97b9_11 rfl (by decide) rfl ?_
  refine z_aload_n X dJ5_append_c97b9_12 2 rfl ?_
  refine z_iload_n X dJ5_append_c97b9_13 0 rfl ?_
  refine z_sUv (st := []) (ws2 := [wJ4 (zcT C) aO sO]) X Y (metJ5_ensureCapacityInternal_d00df (zcl C) (zcD C) (zcT C) he) zmUJ5_100 (X.2.2.2.2.1 _ zW_up) dJ5_append_c97b9_14 0 0 0 rfl rfl rfl rfl [0] rfl rfl [] rfl (by decide) trivial rfl rfl rfl (Nat.le_of_ble_eq_true rfl) rfl rfl ⟨(Nat.le_of_ble_eq_true rfl), (Nat.le_of_ble_eq_true rfl)⟩ ⟨(Nat.le_of_ble_eq_true rfl), (Nat.le_of_ble_eq_true rfl)⟩ ?_
  refine z_aload_n X dJ5_append_c97b9_17 2 rfl ?_
  refine z_sUi (st := []) (ws2 := [wJ4 (zcT C) aO sO]) X Y (metJ5_isLatin1_aae02 (zcl C) (zcD C) (zcT C) hc) zmUJ5_83 (X.2.2.2.2.1 _ zj1681) dJ5_append_c97b9_18 0 0 0 rfl rfl rfl rfl [0] rfl rfl [] rfl (by decide) trivial rfl rfl rfl (Nat.le_of_ble_eq_true rfl) rfl rfl ⟨(Nat.le_of_ble_eq_true rfl), (Nat.le_of_ble_eq_true rfl)⟩ ⟨(Nat.le_of_ble_eq_true rfl), (Nat.le_of_ble_eq_true rfl)⟩ ?_
  refine z_if_eq (tgt := 37) X dJ5_append_c97b9_21 (by decide) (fun c => absurd c (by decide : ¬ (1 : Int32) = 0)) (fun _ => ?_)
  refine z_iload_n X dJ5_append_c97b9_24 3 rfl ?_
  refine z_iload_n X dJ5_append_c97b9_25 0 rfl ?_
  refine z_aload_n X dJ5_append_c97b9_26 2 rfl ?_
  refine z_getI (v := .ref (aO 1)) X 0 0 0 0 ziJ4 rfl (by decide) zj1624 dJ5_append_c97b9_27 rfl rfl rfl ?_
  refine z_sSi (st := []) (ws2 := [wJ4 (zcT C) aO (zsw (zsw sO ((zgi sO 3 + (((1 : Int32) + 1) + (0 : Int32))) + (-1)) (Int32.ofNat (48 + (-(-x1)).toNatClampNeg % 10))) (((zgi sO 3 + (((1 : Int32) + 1) + (0 : Int32))) + (-1)) + (-1)) (Int32.ofNat (48 + (-(-x1)).toNatClampNeg / 10)))]) X Y (metJ6_getChars_ba4f32 (zcl C) (zcD C) (zcT C) h0 h1 h2 hd hi hi2) zmJ6_getChars_ba4f3 zj1748 dJ5_append_c97b9_30 [0] rfl rfl [0] rfl (by decide) ⟨zsJ4, trivial⟩ rfl rfl rfl (Nat.le_of_ble_eq_true rfl) rfl rfl ⟨(Nat.le_of_ble_eq_true rfl), (Nat.le_of_ble_eq_true rfl)⟩ ⟨(Nat.le_of_ble_eq_true rfl), (Nat.le_of_ble_eq_true rfl)⟩ ?_
  refine z_pop X dJ5_append_c97b9_33 rfl ?_
  refine z_goto (tgt := 48) X dJ5_append_c97b9_34 (by decide) ?_
  refine z_aload_n X dJ5_append_c97b9_48 2 rfl ?_
  refine z_iload_n X dJ5_append_c97b9_49 0 rfl ?_
  refine z_putI (ws2 := [wJ4 (zcT C) aO (zsi (zsw (zsw sO ((zgi sO 3 + (((1 : Int32) + 1) + (0 : Int32))) + (-1)) (Int32.ofNat (48 + (-(-x1)).toNatClampNeg % 10))) (((zgi sO 3 + (((1 : Int32) + 1) + (0 : Int32))) + (-1)) + (-1)) (Int32.ofNat (48 + (-(-x1)).toNatClampNeg / 10))) 3 ((zgi sO 3) + (((1 : Int32) + 1) + (0 : Int32))))]) (w2 := wJ4 (zcT C) aO (zsi (zsw (zsw sO ((zgi sO 3 + (((1 : Int32) + 1) + (0 : Int32))) + (-1)) (Int32.ofNat (48 + (-(-x1)).toNatClampNeg % 10))) (((zgi sO 3 + (((1 : Int32) + 1) + (0 : Int32))) + (-1)) + (-1)) (Int32.ofNat (48 + (-(-x1)).toNatClampNeg / 10))) 3 ((zgi sO 3) + (((1 : Int32) + 1) + (0 : Int32))))) X 0 0 0 3 ziJ4 rfl tyJ4 tyJ4_ok nmJ4 (by decide) zj1626 rfl (ty := .int) (by decide +kernel) rfl rfl (by show 3 < 4; decide) dJ5_append_c97b9_50 rfl rfl (by decide) rfl rfl ?_
  refine z_aload_n X dJ5_append_c97b9_53 2 rfl ?_
  exact z_aret X hQ dJ5_append_c97b9_54 rfl [0] rfl (by decide) (by decide)
theorem metJ4_append_bf8122 (l : Launch) (D : va_G) (T : Nat → ClassId) {aO : Nat → Nat} {sO : zSt} {x1 : Int32} (hc : zgi sO 1 = 0) (h0 : ¬ x1 < 0) (hs : (-x1) ≤ (-10 : Int32)) (hs2 : ¬ (-x1) ≤ (10 : Int32) * (-10 : Int32)) (he : (zgi sO 3 + (((1 : Int32) + 1) + (0 : Int32))) - (16 : Int32) >>> (zgi sO 1 &&& 31) ≤ 0) (h1 : (-100 : Int32) < (-x1)) (h2 : ¬ (-9 : Int32) ≤ (-x1)) (hd : zin (-(-x1)) 100 = true) (hi : zin ((zgi sO 3 + (((1 : Int32) + 1) + (0 : Int32))) + (-1)) 16 = true) (hi2 : zin (((zgi sO 3 + (((1 : Int32) + 1) + (0 : Int32))) + (-1)) + (-1)) 16 = true) (base sz : Nat) : Met l yJ4_append_bf812 (zws yJ4_append_bf812 cJ4_append_bf812 2 (some (.object "java/lang/StringBuilder"))) rmJ4_append_bf812 (zPs D T [.ref (aO 0), .int x1] [wJ4 T aO sO] [wJ4 T aO sO] base sz) (zQr D (aO 0) [wJ4 T aO (zsi (zsw (zsw sO ((zgi sO 3 + (((1 : Int32) + 1) + (0 : Int32))) + (-1)) (Int32.ofNat (48 + (-(-x1)).toNatClampNeg % 10))) (((zgi sO 3 + (((1 : Int32) + 1) + (0 : Int32))) + (-1)) + (-1)) (Int32.ofNat (48 + (-(-x1)).toNatClampNeg / 10))) 3 ((zgi sO 3) + (((1 : Int32) + 1) + (0 : Int32))))] (zA [wJ4 T aO sO] sz)) 0 0 (zA [wJ4 T aO sO] sz) := by
  refine zMetS (D := D) (T := T) (av := [.ref (aO 0), .int x1]) (ws := fun T => [wJ4 T aO sO]) (wm := fun T => [wJ4 T aO sO]) (lv0 := [(0, .ref (aO 0)), (1, .int x1)]) [0] (Qc := fun D T A => zQr D (aO 0) [wJ4 T aO (zsi (zsw (zsw sO ((zgi sO 3 + (((1 : Int32) + 1) + (0 : Int32))) + (-1)) (Int32.ofNat (48 + (-(-x1)).toNatClampNeg % 10))) (((zgi sO 3 + (((1 : Int32) + 1) + (0 : Int32))) + (-1)) + (-1)) (Int32.ofNat (48 + (-(-x1)).toNatClampNeg / 10))) 3 ((zgi sO 3) + (((1 : Int32) + 1) + (0 : Int32))))] A) (by decide +kernel) rfl (Nat.le_of_ble_eq_true rfl) rfl (fun C base X Y hQ => ?_) base sz
  refine z_aload_n X dJ4_append_bf812_0 0 rfl ?_
  refine z_iload_n X dJ4_append_bf812_1 1 rfl ?_
  refine z_sPr (st := []) (ws2 := [wJ4 (zcT C) aO (zsi (zsw (zsw sO ((zgi sO 3 + (((1 : Int32) + 1) + (0 : Int32))) + (-1)) (Int32.ofNat (48 + (-(-x1)).toNatClampNeg % 10))) (((zgi sO 3 + (((1 : Int32) + 1) + (0 : Int32))) + (-1)) + (-1)) (Int32.ofNat (48 + (-(-x1)).toNatClampNeg / 10))) 3 ((zgi sO 3) + (((1 : Int32) + 1) + (0 : Int32))))]) X Y (metJ5_append_c97b92 (zcl C) (zcD C) (zcT C) hc h0 hs hs2 he h1 h2 hd hi hi2) zmPJ4_53 dJ4_append_bf812_2 0 0 0 rfl rfl rfl [0] rfl rfl [0] rfl (by decide) ⟨zsJ4, trivial⟩ rfl rfl rfl (Nat.le_of_ble_eq_true rfl) rfl rfl ⟨(Nat.le_of_ble_eq_true rfl), (Nat.le_of_ble_eq_true rfl)⟩ ⟨(Nat.le_of_ble_eq_true rfl), (Nat.le_of_ble_eq_true rfl)⟩ ?_
  refine z_pop X dJ4_append_bf812_5 rfl ?_
  refine z_aload_n X dJ4_append_bf812_6 0 rfl ?_
  exact z_aret X hQ dJ4_append_bf812_7 rfl [0] rfl (by decide) (by decide)
theorem metJ5_append_c97b93 (l : Launch) (D : va_G) (T : Nat → ClassId) {aO : Nat → Nat} {sO : zSt} {x1 : Int32} (hc : zgi sO 1 = 0) (h0 : x1 < 0) (hs : ¬ x1 ≤ (-10 : Int32)) (he : (zgi sO 3 + ((1 : Int32) + (1 : Int32))) - (16 : Int32) >>> (zgi sO 1 &&& 31) ≤ 0) (h1 : (-100 : Int32) < x1) (h2 : (-9 : Int32) ≤ x1) (hd : zin (-x1) 100 = true) (hi : zin ((zgi sO 3 + ((1 : Int32) + (1 : Int32))) + (-1)) 16 = true) (hi3 : zin (((zgi sO 3 + ((1 : Int32) + (1 : Int32))) + (-1)) + (-1)) 16 = true) (base sz : Nat) : Met l yJ5_append_c97b9 (zws yJ5_append_c97b9 cJ5_append_c97b9 4 (some (.object "java/lang/AbstractStringBuilder"))) rmJ5_append_c97b9 (zPs D T [.ref (aO 0), .int x1] [wJ4 T aO sO] [wJ4 T aO sO] base sz) (zQr D (aO 0) [wJ4 T aO (zsi (zsw (zsw sO ((zgi sO 3 + ((1 : Int32) + (1 : Int32))) + (-1)) (Int32.ofNat (48 + (-x1).toNatClampNeg % 10))) (((zgi sO 3 + ((1 : Int32) + (1 : Int32))) + (-1)) + (-1)) (45 : Int32)) 3 ((zgi sO 3) + ((1 : Int32) + (1 : Int32))))] (zA [wJ4 T aO sO] sz)) 0 0 (zA [wJ4 T aO sO] sz) := by
  refine zMetS (D := D) (T := T) (av := [.ref (aO 0), .int x1]) (ws := fun T => [wJ4 T aO sO]) (wm := fun T => [wJ4 T aO sO]) (lv0 := [(0, .ref (aO 0)), (1, .int x1)]) [0] (Qc := fun D T A => zQr D (aO 0) [wJ4 T aO (zsi (zsw (zsw sO ((zgi sO 3 + ((1 : Int32) + (1 : Int32))) + (-1)) (Int32.ofNat (48 + (-x1).toNatClampNeg % 10))) (((zgi sO 3 + ((1 : Int32) + (1 : Int32))) + (-1)) + (-1)) (45 : Int32)) 3 ((zgi sO 3) + ((1 : Int32) + (1 : Int32))))] A) (by decide +kernel) rfl (Nat.le_of_ble_eq_true rfl) rfl (fun C base X Y hQ => ?_) base sz
  refine z_aload_n X dJ5_append_c97b9_0 0 rfl ?_
  refine z_getI (v := .int (zgi sO 3)) X 0 0 0 3 ziJ4 rfl (by decide) zj1626 dJ5_append_c97b9_1 rfl rfl rfl ?_
  refine z_istore_n (lv2 := [(2, .int (zgi sO 3)), (0, .ref (aO 0)), (1, .int x1)]) X dJ5_append_c97b9_4 rfl (by decide) rfl ?_
  refine z_iload_n X dJ5_append_c97b9_5 0 rfl ?_
  refine z_iload_n X dJ5_append_c97b9_6 2 rfl ?_
  refine z_sSi (st := [.int (zgi sO 3)]) (ws2 := [wJ4 (zcT C) aO sO]) X Y (metJ6_stringSize_0f7a43 (zcl C) (zcD C) (zcT C) h0 hs) zmJ6_stringSize_0f7a4 zj1745 dJ5_append_c97b9_7 [] rfl rfl [] rfl (by decide) trivial rfl rfl rfl (Nat.le_of_ble_eq_true rfl) rfl rfl ⟨(Nat.le_of_ble_eq_true rfl), (Nat.le_of_ble_eq_true rfl)⟩ ⟨(Nat.le_of_ble_eq_true rfl), (Nat.le_of_ble_eq_true rfl)⟩ ?_
  refine z_iadd X dJ5_append_c97b9_10 ?_
  refine z_istore_n (lv2 := [(3, .int ((zgi sO 3) + ((1 : Int32) + (1 : Int32)))), (2, .int (zgi sO 3)), (0, .ref (aO 0)), (1, .int x1)]) X dJ5_append_c97b9_11 rfl (by decide) rfl ?_
  refine z_aload_n X dJ5_append_c97b9_12 2 rfl ?_
  refine z_iload_n X dJ5_append_c97b9_13 0 rfl ?_
  refine z_sUv (st := []) (ws2 := [wJ4 (zcT C) aO sO]) X Y (metJ5_ensureCapacityInternal_d00df (zcl C) (zcD C) (zcT C) he) zmUJ5_100 (X.2.2.2.2.1 _ zW_up) dJ5_append_c97b9_14 0 0 0 rfl rfl rfl rfl [0] rfl rfl [] rfl (by decide) trivial rfl rfl rfl (Nat.le_of_ble_eq_true rfl) rfl rfl ⟨(Nat.le_of_ble_eq_true rfl), (Nat.le_of_ble_eq_true rfl)⟩ ⟨(Nat.le_of_ble_eq_true rfl), (Nat.le_of_ble_eq_true rfl)⟩ ?_
  refine z_aload_n X dJ5_append_c97b9_17 2 rfl ?_
  refine z_sUi (st := []) (ws2 := [wJ4 (zcT C) aO sO]) X Y (metJ5_isLatin1_aae02 (zcl C) (zcD C) (zcT C) hc) zmUJ5_83 (X.2.2.2.2.1 _ zj1681) dJ5_append_c97b9_18 0 0 0 rfl rfl rfl rfl [0] rfl rfl [] rfl (by decide) trivial rfl rfl rfl (Nat.le_of_ble_eq_true rfl) rfl rfl ⟨(Nat.le_of_ble_eq_true rfl), (Nat.le_of_ble_eq_true rfl)⟩ ⟨(Nat.le_of_ble_eq_true rfl), (Nat.le_of_ble_eq_true rfl)⟩ ?_
  refine z_if_eq (tgt := 37) X dJ5_append_c97b9_21 (by decide) (fun c => absurd c (by decide : ¬ (1 : Int32) = 0)) (fun _ => ?_)
  refine z_iload_n X dJ5_append_c97b9_24 3 rfl ?_
  refine z_iload_n X dJ5_append_c97b9_25 0 rfl ?_
  refine z_aload_n X dJ5_append_c97b9_26 2 rfl ?_
  refine z_getI (v := .ref (aO 1)) X 0 0 0 0 ziJ4 rfl (by decide) zj1624 dJ5_append_c97b9_27 rfl rfl rfl ?_
  refine z_sSi (st := []) (ws2 := [wJ4 (zcT C) aO (zsw (zsw sO ((zgi sO 3 + ((1 : Int32) + (1 : Int32))) + (-1)) (Int32.ofNat (48 + (-x1).toNatClampNeg % 10))) (((zgi sO 3 + ((1 : Int32) + (1 : Int32))) + (-1)) + (-1)) (45 : Int32))]) X Y (metJ6_getChars_ba4f33 (zcl C) (zcD C) (zcT C) h0 h1 h2 hd hi hi3) zmJ6_getChars_ba4f3 zj1748 dJ5_append_c97b9_30 [0] rfl rfl [0] rfl (by decide) ⟨zsJ4, trivial⟩ rfl rfl rfl (Nat.le_of_ble_eq_true rfl) rfl rfl ⟨(Nat.le_of_ble_eq_true rfl), (Nat.le_of_ble_eq_true rfl)⟩ ⟨(Nat.le_of_ble_eq_true rfl), (Nat.le_of_ble_eq_true rfl)⟩ ?_
  refine z_pop X dJ5_append_c97b9_33 rfl ?_
  refine z_goto (tgt := 48) X dJ5_append_c97b9_34 (by decide) ?_
  refine z_aload_n X dJ5_append_c97b9_48 2 rfl ?_
  refine z_iload_n X dJ5_append_c97b9_49 0 rfl ?_
  refine z_putI (ws2 := [wJ4 (zcT C) aO (zsi (zsw (zsw sO ((zgi sO 3 + ((1 : Int32) + (1 : Int32))) + (-1)) (Int32.ofNat (48 + (-x1).toNatClampNeg % 10))) (((zgi sO 3 + ((1 : Int32) + (1 : Int32))) + (-1)) + (-1)) (45 : Int32)) 3 ((zgi sO 3) + ((1 : Int32) + (1 : Int32))))]) (w2 := wJ4 (zcT C) aO (zsi (zsw (zsw sO ((zgi sO 3 + ((1 : Int32) + (1 : Int32))) + (-1)) (Int32.ofNat (48 + (-x1).toNatClampNeg % 10))) (((zgi sO 3 + ((1 : Int32) + (1 : Int32))) + (-1)) + (-1)) (45 : Int32)) 3 ((zgi sO 3) + ((1 : Int32) + (1 : Int32))))) X 0 0 0 3 ziJ4 rfl tyJ4 tyJ4_ok nmJ4 (by decide) zj1626 rfl (ty := .int) (by decide +kernel) rfl rfl (by show 3 < 4; decide) dJ5_append_c97b9_50 rfl rfl (by decide) rfl rfl ?_
  refine z_aload_n X dJ5_append_c97b9_53 2 rfl ?_
  exact z_aret X hQ dJ5_append_c97b9_54 rfl [0] rfl (by decide) (by decide)
theorem metJ4_append_bf8123 (l : Launch) (D : va_G) (T : Nat → ClassId) {aO : Nat → Nat} {sO : zSt} {x1 : Int32} (hc : zgi sO 1 = 0) (h0 : x1 < 0) (hs : ¬ x1 ≤ (-10 : Int32)) (he : (zgi sO 3 + ((1 : Int32) + (1 : Int32))) - (16 : Int32) >>> (zgi sO 1 &&& 31) ≤ 0) (h1 : (-100 : Int32) < x1) (h2 : (-9 : Int32) ≤ x1) (hd : zin (-x1) 100 = true) (hi : zin ((zgi sO 3 + ((1 : Int32) + (1 : Int32))) + (-1)) 16 = true) (hi3 : zin (((zgi sO 3 + ((1 : Int32) + (1 : Int32))) + (-1)) + (-1)) 16 = true) (base sz : Nat) : Met l yJ4_append_bf812 (zws yJ4_append_bf812 cJ4_append_bf812 2 (some (.object "java/lang/StringBuilder"))) rmJ4_append_bf812 (zPs D T [.ref (aO 0), .int x1] [wJ4 T aO sO] [wJ4 T aO sO] base sz) (zQr D (aO 0) [wJ4 T aO (zsi (zsw (zsw sO ((zgi sO 3 + ((1 : Int32) + (1 : Int32))) + (-1)) (Int32.ofNat (48 + (-x1).toNatClampNeg % 10))) (((zgi sO 3 + ((1 : Int32) + (1 : Int32))) + (-1)) + (-1)) (45 : Int32)) 3 ((zgi sO 3) + ((1 : Int32) + (1 : Int32))))] (zA [wJ4 T aO sO] sz)) 0 0 (zA [wJ4 T aO sO] sz) := by
  refine zMetS (D := D) (T := T) (av := [.ref (aO 0), .int x1]) (ws := fun T => [wJ4 T aO sO]) (wm := fun T => [wJ4 T aO sO]) (lv0 := [(0, .ref (aO 0)), (1, .int x1)]) [0] (Qc := fun D T A => zQr D (aO 0) [wJ4 T aO (zsi (zsw (zsw sO ((zgi sO 3 + ((1 : Int32) + (1 : Int32))) + (-1)) (Int32.ofNat (48 + (-x1).toNatClampNeg % 10))) (((zgi sO 3 + ((1 : Int32) + (1 : Int32))) + (-1)) + (-1)) (45 : Int32)) 3 ((zgi sO 3) + ((1 : Int32) + (1 : Int32))))] A) (by decide +kernel) rfl (Nat.le_of_ble_eq_true rfl) rfl (fun C base X Y hQ => ?_) base sz
  refine z_aload_n X dJ4_append_bf812_0 0 rfl ?_
  refine z_iload_n X dJ4_append_bf812_1 1 rfl ?_
  refine z_sPr (st := []) (ws2 := [wJ4 (zcT C) aO (zsi (zsw (zsw sO ((zgi sO 3 + ((1 : Int32) + (1 : Int32))) + (-1)) (Int32.ofNat (48 + (-x1).toNatClampNeg % 10))) (((zgi sO 3 + ((1 : Int32) + (1 : Int32))) + (-1)) + (-1)) (45 : Int32)) 3 ((zgi sO 3) + ((1 : Int32) + (1 : Int32))))]) X Y (metJ5_append_c97b93 (zcl C) (zcD C) (zcT C) hc h0 hs he h1 h2 hd hi hi3) zmPJ4_53 dJ4_append_bf812_2 0 0 0 rfl rfl rfl [0] rfl rfl [0] rfl (by decide) ⟨zsJ4, trivial⟩ rfl rfl rfl (Nat.le_of_ble_eq_true rfl) rfl rfl ⟨(Nat.le_of_ble_eq_true rfl), (Nat.le_of_ble_eq_true rfl)⟩ ⟨(Nat.le_of_ble_eq_true rfl), (Nat.le_of_ble_eq_true rfl)⟩ ?_
  refine z_pop X dJ4_append_bf812_5 rfl ?_
  refine z_aload_n X dJ4_append_bf812_6 0 rfl ?_
  exact z_aret X hQ dJ4_append_bf812_7 rfl [0] rfl (by decide) (by decide)
theorem metJ5_append_c97b94 (l : Launch) (D : va_G) (T : Nat → ClassId) {aO : Nat → Nat} {sO : zSt} {x1 : Int32} (hc : zgi sO 1 = 0) (h0 : x1 < 0) (hs : x1 ≤ (-10 : Int32)) (hs2 : ¬ x1 ≤ (10 : Int32) * (-10 : Int32)) (he : (zgi sO 3 + (((1 : Int32) + 1) + (1 : Int32))) - (16 : Int32) >>> (zgi sO 1 &&& 31) ≤ 0) (h1 : (-100 : Int32) < x1) (h2 : ¬ (-9 : Int32) ≤ x1) (hd : zin (-x1) 100 = true) (hi : zin ((zgi sO 3 + (((1 : Int32) + 1) + (1 : Int32))) + (-1)) 16 = true) (hi2 : zin (((zgi sO 3 + (((1 : Int32) + 1) + (1 : Int32))) + (-1)) + (-1)) 16 = true) (hi3 : zin ((((zgi sO 3 + (((1 : Int32) + 1) + (1 : Int32))) + (-1)) + (-1)) + (-1)) 16 = true) (base sz : Nat) : Met l yJ5_append_c97b9 (zws yJ5_append_c97b9 cJ5_append_c97b9 4 (some (.object "java/lang/AbstractStringBuilder"))) rmJ5_append_c97b9 (zPs D T [.ref (aO 0), .int x1] [wJ4 T aO sO] [wJ4 T aO sO] base sz) (zQr D (aO 0) [wJ4 T aO (zsi (zsw (zsw (zsw sO ((zgi sO 3 + (((1 : Int32) + 1) + (1 : Int32))) + (-1)) (Int32.ofNat (48 + (-x1).toNatClampNeg % 10))) (((zgi sO 3 + (((1 : Int32) + 1) + (1 : Int32))) + (-1)) + (-1)) (Int32.ofNat (48 + (-x1).toNatClampNeg / 10))) ((((zgi sO 3 + (((1 : Int32) + 1) + (1 : Int32))) + (-1)) + (-1)) + (-1)) (45 : Int32)) 3 ((zgi sO 3) + (((1 : Int32) + 1) + (1 : Int32))))] (zA [wJ4 T aO sO] sz)) 0 0 (zA [wJ4 T aO sO] sz) := by
  refine zMetS (D := D) (T := T) (av := [.ref (aO 0), .int x1]) (ws := fun T => [wJ4 T aO sO]) (wm := fun T => [wJ4 T aO sO]) (lv0 := [(0, .ref (aO 0)), (1, .int x1)]) [0] (Qc := fun D T A => zQr D (aO 0) [wJ4 T aO (zsi (zsw (zsw (zsw sO ((zgi sO 3 + (((1 : Int32) + 1) + (1 : Int32))) + (-1)) (Int32.ofNat (48 + (-x1).toNatClampNeg % 10))) (((zgi sO 3 + (((1 : Int32) + 1) + (1 : Int32))) + (-1)) + (-1)) (Int32.ofNat (48 + (-x1).toNatClampNeg / 10))) ((((zgi sO 3 + (((1 : Int32) + 1) + (1 : Int32))) + (-1)) + (-1)) + (-1)) (45 : Int32)) 3 ((zgi sO 3) + (((1 : Int32) + 1) + (1 : Int32))))] A) (by decide +kernel) rfl (Nat.le_of_ble_eq_true rfl) rfl (fun C base X Y hQ => ?_) base sz
  refine z_aload_n X dJ5_append_c97b9_0 0 rfl ?_
  refine z_getI (v := .int (zgi sO 3)) X 0 0 0 3 ziJ4 rfl (by decide) zj1626 dJ5_append_c97b9_1 rfl rfl rfl ?_
  refine z_istore_n (lv2 := [(2, .int (zgi sO 3)), (0, .ref (aO 0)), (1, .int x1)]) X dJ5_append_c97b9_4 rfl (by decide) rfl ?_
  refine z_iload_n X dJ5_append_c97b9_5 0 rfl ?_
  refine z_iload_n X dJ5_append_c97b9_6 2 rfl ?_
  refine z_sSi (st := [.int (zgi sO 3)]) (ws2 := [wJ4 (zcT C) aO sO]) X Y (metJ6_stringSize_0f7a44 (zcl C) (zcD C) (zcT C) h0 hs hs2) zmJ6_stringSize_0f7a4 zj1745 dJ5_append_c97b9_7 [] rfl rfl [] rfl (by decide) trivial rfl rfl rfl (Nat.le_of_ble_eq_true rfl) rfl rfl ⟨(Nat.le_of_ble_eq_true rfl), (Nat.le_of_ble_eq_true rfl)⟩ ⟨(Nat.le_of_ble_eq_true rfl), (Nat.le_of_ble_eq_true rfl)⟩ ?_
  refine z_iadd X dJ5_append_c97b9_10 ?_
  refine z_istore_n (lv2 := [(3, .int ((zgi sO 3) + (((1 : Int32) + 1) + (1 : Int32)))), (2, .int (zgi sO 3)), (0, .ref (aO 0)), (1, .int x1)]) X dJ5_append_c97b9_11 rfl (by decide) rfl ?_
  refine z_aload_n X dJ5_append_c97b9_12 2 rfl ?_
  refine z_iload_n X dJ5_append_c97b9_13 0 rfl ?_
  refine z_sUv (st := []) (ws2 := [wJ4 (zcT C) aO sO]) X Y (metJ5_ensureCapacityInternal_d00df (zcl C) (zcD C) (zcT C) he) zmUJ5_100 (X.2.2.2.2.1 _ zW_up) dJ5_append_c97b9_14 0 0 0 rfl rfl rfl rfl [0] rfl rfl [] rfl (by decide) trivial rfl rfl rfl (Nat.le_of_ble_eq_true rfl) rfl rfl ⟨(Nat.le_of_ble_eq_true rfl), (Nat.le_of_ble_eq_true rfl)⟩ ⟨(Nat.le_of_ble_eq_true rfl), (Nat.le_of_ble_eq_true rfl)⟩ ?_
  refine z_aload_n X dJ5_append_c97b9_17 2 rfl ?_
  refine z_sUi (st := []) (ws2 := [wJ4 (zcT C) aO sO]) X Y (metJ5_isLatin1_aae02 (zcl C) (zcD C) (zcT C) hc) zmUJ5_83 (X.2.2.2.2.1 _ zj1681) dJ5_append_c97b9_18 0 0 0 rfl rfl rfl rfl [0] rfl rfl [] rfl (by decide) trivial rfl rfl rfl (Nat.le_of_ble_eq_true rfl) rfl rfl ⟨(Nat.le_of_ble_eq_true rfl), (Nat.le_of_ble_eq_true rfl)⟩ ⟨(Nat.le_of_ble_eq_true rfl), (Nat.le_of_ble_eq_true rfl)⟩ ?_
  refine z_if_eq (tgt := 37) X dJ5_append_c97b9_21 (by decide) (fun c => absurd c (by decide : ¬ (1 : Int32) = 0)) (fun _ => ?_)
  refine z_iload_n X dJ5_append_c97b9_24 3 rfl ?_
  refine z_iload_n X dJ5_append_c97b9_25 0 rfl ?_
  refine z_aload_n X dJ5_append_c97b9_26 2 rfl ?_
  refine z_getI (v := .ref (aO 1)) X 0 0 0 0 ziJ4 rfl (by decide) zj1624 dJ5_append_c97b9_27 rfl rfl rfl ?_
  refine z_sSi (st := []) (ws2 := [wJ4 (zcT C) aO (zsw (zsw (zsw sO ((zgi sO 3 + (((1 : Int32) + 1) + (1 : Int32))) + (-1)) (Int32.ofNat (48 + (-x1).toNatClampNeg % 10))) (((zgi sO 3 + (((1 : Int32) + 1) + (1 : Int32))) + (-1)) + (-1)) (Int32.ofNat (48 + (-x1).toNatClampNeg / 10))) ((((zgi sO 3 + (((1 : Int32) + 1) + (1 : Int32))) + (-1)) + (-1)) + (-1)) (45 : Int32))]) X Y (metJ6_getChars_ba4f34 (zcl C) (zcD C) (zcT C) h0 h1 h2 hd hi hi2 hi3) zmJ6_getChars_ba4f3 zj1748 dJ5_append_c97b9_30 [0] rfl rfl [0] rfl (by decide) ⟨zsJ4, trivial⟩ rfl rfl rfl (Nat.le_of_ble_eq_true rfl) rfl rfl ⟨(Nat.le_of_ble_eq_true rfl), (Nat.le_of_ble_eq_true rfl)⟩ ⟨(Nat.le_of_ble_eq_true rfl), (Nat.le_of_ble_eq_true rfl)⟩ ?_
  refine z_pop X dJ5_append_c97b9_33 rfl ?_
  refine z_goto (tgt := 48) X dJ5_append_c97b9_34 (by decide) ?_
  refine z_aload_n X dJ5_append_c97b9_48 2 rfl ?_
  refine z_iload_n X dJ5_append_c97b9_49 0 rfl ?_
  refine z_putI (ws2 := [wJ4 (zcT C) aO (zsi (zsw (zsw (zsw sO ((zgi sO 3 + (((1 : Int32) + 1) + (1 : Int32))) + (-1)) (Int32.ofNat (48 + (-x1).toNatClampNeg % 10))) (((zgi sO 3 + (((1 : Int32) + 1) + (1 : Int32))) + (-1)) + (-1)) (Int32.ofNat (48 + (-x1).toNatClampNeg / 10))) ((((zgi sO 3 + (((1 : Int32) + 1) + (1 : Int32))) + (-1)) + (-1)) + (-1)) (45 : Int32)) 3 ((zgi sO 3) + (((1 : Int32) + 1) + (1 : Int32))))]) (w2 := wJ4 (zcT C) aO (zsi (zsw (zsw (zsw sO ((zgi sO 3 + (((1 : Int32) + 1) + (1 : Int32))) + (-1)) (Int32.ofNat (48 + (-x1).toNatClampNeg % 10))) (((zgi sO 3 + (((1 : Int32) + 1) + (1 : Int32))) + (-1)) + (-1)) (Int32.ofNat (48 + (-x1).toNatClampNeg / 10))) ((((zgi sO 3 + (((1 : Int32) + 1) + (1 : Int32))) + (-1)) + (-1)) + (-1)) (45 : Int32)) 3 ((zgi sO 3) + (((1 : Int32) + 1) + (1 : Int32))))) X 0 0 0 3 ziJ4 rfl tyJ4 tyJ4_ok nmJ4 (by decide) zj1626 rfl (ty := .int) (by decide +kernel) rfl rfl (by show 3 < 4; decide) dJ5_append_c97b9_50 rfl rfl (by decide) rfl rfl ?_
  refine z_aload_n X dJ5_append_c97b9_53 2 rfl ?_
  exact z_aret X hQ dJ5_append_c97b9_54 rfl [0] rfl (by decide) (by decide)
theorem metJ4_append_bf8124 (l : Launch) (D : va_G) (T : Nat → ClassId) {aO : Nat → Nat} {sO : zSt} {x1 : Int32} (hc : zgi sO 1 = 0) (h0 : x1 < 0) (hs : x1 ≤ (-10 : Int32)) (hs2 : ¬ x1 ≤ (10 : Int32) * (-10 : Int32)) (he : (zgi sO 3 + (((1 : Int32) + 1) + (1 : Int32))) - (16 : Int32) >>> (zgi sO 1 &&& 31) ≤ 0) (h1 : (-100 : Int32) < x1) (h2 : ¬ (-9 : Int32) ≤ x1) (hd : zin (-x1) 100 = true) (hi : zin ((zgi sO 3 + (((1 : Int32) + 1) + (1 : Int32))) + (-1)) 16 = true) (hi2 : zin (((zgi sO 3 + (((1 : Int32) + 1) + (1 : Int32))) + (-1)) + (-1)) 16 = true) (hi3 : zin ((((zgi sO 3 + (((1 : Int32) + 1) + (1 : Int32))) + (-1)) + (-1)) + (-1)) 16 = true) (base sz : Nat) : Met l yJ4_append_bf812 (zws yJ4_append_bf812 cJ4_append_bf812 2 (some (.object "java/lang/StringBuilder"))) rmJ4_append_bf812 (zPs D T [.ref (aO 0), .int x1] [wJ4 T aO sO] [wJ4 T aO sO] base sz) (zQr D (aO 0) [wJ4 T aO (zsi (zsw (zsw (zsw sO ((zgi sO 3 + (((1 : Int32) + 1) + (1 : Int32))) + (-1)) (Int32.ofNat (48 + (-x1).toNatClampNeg % 10))) (((zgi sO 3 + (((1 : Int32) + 1) + (1 : Int32))) + (-1)) + (-1)) (Int32.ofNat (48 + (-x1).toNatClampNeg / 10))) ((((zgi sO 3 + (((1 : Int32) + 1) + (1 : Int32))) + (-1)) + (-1)) + (-1)) (45 : Int32)) 3 ((zgi sO 3) + (((1 : Int32) + 1) + (1 : Int32))))] (zA [wJ4 T aO sO] sz)) 0 0 (zA [wJ4 T aO sO] sz) := by
  refine zMetS (D := D) (T := T) (av := [.ref (aO 0), .int x1]) (ws := fun T => [wJ4 T aO sO]) (wm := fun T => [wJ4 T aO sO]) (lv0 := [(0, .ref (aO 0)), (1, .int x1)]) [0] (Qc := fun D T A => zQr D (aO 0) [wJ4 T aO (zsi (zsw (zsw (zsw sO ((zgi sO 3 + (((1 : Int32) + 1) + (1 : Int32))) + (-1)) (Int32.ofNat (48 + (-x1).toNatClampNeg % 10))) (((zgi sO 3 + (((1 : Int32) + 1) + (1 : Int32))) + (-1)) + (-1)) (Int32.ofNat (48 + (-x1).toNatClampNeg / 10))) ((((zgi sO 3 + (((1 : Int32) + 1) + (1 : Int32))) + (-1)) + (-1)) + (-1)) (45 : Int32)) 3 ((zgi sO 3) + (((1 : Int32) + 1) + (1 : Int32))))] A) (by decide +kernel) rfl (Nat.le_of_ble_eq_true rfl) rfl (fun C base X Y hQ => ?_) base sz
  refine z_aload_n X dJ4_append_bf812_0 0 rfl ?_
  refine z_iload_n X dJ4_append_bf812_1 1 rfl ?_
  refine z_sPr (st := []) (ws2 := [wJ4 (zcT C) aO (zsi (zsw (zsw (zsw sO ((zgi sO 3 + (((1 : Int32) + 1) + (1 : Int32))) + (-1)) (Int32.ofNat (48 + (-x1).toNatClampNeg % 10))) (((zgi sO 3 + (((1 : Int32) + 1) + (1 : Int32))) + (-1)) + (-1)) (Int32.ofNat (48 + (-x1).toNatClampNeg / 10))) ((((zgi sO 3 + (((1 : Int32) + 1) + (1 : Int32))) + (-1)) + (-1)) + (-1)) (45 : Int32)) 3 ((zgi sO 3) + (((1 : Int32) + 1) + (1 : Int32))))]) X Y (metJ5_append_c97b94 (zcl C) (zcD C) (zcT C) hc h0 hs hs2 he h1 h2 hd hi hi2 hi3) zmPJ4_53 dJ4_append_bf812_2 0 0 0 rfl rfl rfl [0] rfl rfl [0] rfl (by decide) ⟨zsJ4, trivial⟩ rfl rfl rfl (Nat.le_of_ble_eq_true rfl) rfl rfl ⟨(Nat.le_of_ble_eq_true rfl), (Nat.le_of_ble_eq_true rfl)⟩ ⟨(Nat.le_of_ble_eq_true rfl), (Nat.le_of_ble_eq_true rfl)⟩ ?_
  refine z_pop X dJ4_append_bf812_5 rfl ?_
  refine z_aload_n X dJ4_append_bf812_6 0 rfl ?_
  exact z_aret X hQ dJ4_append_bf812_7 rfl [0] rfl (by decide) (by decide)
abbrev rmJ3_checkIndex_8e157 : Room := { frames := 0, cells := 0, slots := 0, locals := 0 }
theorem metJ3_checkIndex_8e1571 (l : Launch) (D : va_G) (T : Nat → ClassId) {x0 x1 : Int32} (h0 : ¬ x0 < 0) (h1 : x0 < x1) (base sz : Nat) : Met l yJ3_checkIndex_8e157 (zws yJ3_checkIndex_8e157 cJ3_checkIndex_8e157 3 (some .int)) rmJ3_checkIndex_8e157 (zPs D T [.int x0, .int x1, .null] [] [] base sz) (zQi D x0 [] (zA [] sz)) 0 0 (zA [] sz) := by
  refine zMetS (D := D) (T := T) (av := [.int x0, .int x1, .null]) (ws := fun T => []) (wm := fun T => []) (lv0 := [(0, .int x0), (1, .int x1), (2, .null)]) [] (Qc := fun D T A => zQi D x0 [] A) (by decide +kernel) rfl (Nat.le_of_ble_eq_true rfl) rfl (fun C base X Y hQ => ?_) base sz
  refine z_iload_n X dJ3_checkIndex_8e157_0 0 rfl ?_
  refine z_if_lt (tgt := 9) X dJ3_checkIndex_8e157_1 (by decide) (fun c => absurd c h0) (fun _ => ?_)
  refine z_iload_n X dJ3_checkIndex_8e157_4 0 rfl ?_
  refine z_iload_n X dJ3_checkIndex_8e157_5 1 rfl ?_
  refine z_icmp_lt (tgt := 16) X dJ3_checkIndex_8e157_6 (by decide) (fun _ => ?_) (fun c => absurd h1 c)
  refine z_iload_n X dJ3_checkIndex_8e157_16 0 rfl ?_
  exact z_iret X hQ dJ3_checkIndex_8e157_17 rfl [] rfl (by decide) (by decide)
theorem metJ3_checkIndex_8e1572 (l : Launch) (D : va_G) (T : Nat → ClassId) {x0 x1 : Int32} {t : Nat} (h0 : ¬ x0 < 0) (h1 : x0 < x1) (base sz : Nat) : Met l yJ3_checkIndex_8e157 (zws yJ3_checkIndex_8e157 cJ3_checkIndex_8e157 3 (some .int)) rmJ3_checkIndex_8e157 (zPs D T [.int x0, .int x1, .ref t] [] [] base sz) (zQi D x0 [] (zA [] sz)) 0 0 (zA [] sz) := by
  refine zMetS (D := D) (T := T) (av := [.int x0, .int x1, .ref t]) (ws := fun T => []) (wm := fun T => []) (lv0 := [(0, .int x0), (1, .int x1), (2, .ref t)]) [] (Qc := fun D T A => zQi D x0 [] A) (by decide +kernel) rfl (Nat.le_of_ble_eq_true rfl) rfl (fun C base X Y hQ => ?_) base sz
  refine z_iload_n X dJ3_checkIndex_8e157_0 0 rfl ?_
  refine z_if_lt (tgt := 9) X dJ3_checkIndex_8e157_1 (by decide) (fun c => absurd c h0) (fun _ => ?_)
  refine z_iload_n X dJ3_checkIndex_8e157_4 0 rfl ?_
  refine z_iload_n X dJ3_checkIndex_8e157_5 1 rfl ?_
  refine z_icmp_lt (tgt := 16) X dJ3_checkIndex_8e157_6 (by decide) (fun _ => ?_) (fun c => absurd h1 c)
  refine z_iload_n X dJ3_checkIndex_8e157_16 0 rfl ?_
  exact z_iret X hQ dJ3_checkIndex_8e157_17 rfl [] rfl (by decide) (by decide)
abbrev rmJ0_checkIndex_df160 : Room := { frames := 1, cells := 0, slots := 0, locals := 22 }
theorem metJ0_checkIndex_df160 (l : Launch) (D : va_G) (T : Nat → ClassId) {x0 x1 : Int32} (h0 : ¬ x0 < 0) (h1 : x0 < x1) (base sz : Nat) : Met l yJ0_checkIndex_df160 (zws yJ0_checkIndex_df160 cJ0_checkIndex_df160 2 none) rmJ0_checkIndex_df160 (zPs D T [.int x0, .int x1] [] [] base sz) (zQv D [] (zA [] sz)) 0 0 (zA [] sz) := by
  refine zMetS (D := D) (T := T) (av := [.int x0, .int x1]) (ws := fun T => []) (wm := fun T => []) (lv0 := [(0, .int x0), (1, .int x1)]) [] (Qc := fun D T A => zQv D [] A) (by decide +kernel) rfl (Nat.le_of_ble_eq_true rfl) rfl (fun C base X Y hQ => ?_) base sz
  rcases Y.1.2.1 with hq | ⟨t, hq⟩
  · refine z_iload_n X dJ0_checkIndex_df160_0 0 rfl ?_
    refine z_iload_n X dJ0_checkIndex_df160_1 1 rfl ?_
    refine z_gets (v := .null) X Y hq zj1705 dJ0_checkIndex_df160_2 ?_
    refine z_sSi (st := []) (ws2 := []) X Y (metJ3_checkIndex_8e1571 (zcl C) (zcD C) (zcT C) h0 h1) zmJ3_checkIndex_8e157 zj1728 dJ0_checkIndex_df160_5 [] rfl rfl [] rfl (by decide) trivial rfl rfl rfl (Nat.le_of_ble_eq_true rfl) rfl rfl ⟨(Nat.le_of_ble_eq_true rfl), (Nat.le_of_ble_eq_true rfl)⟩ ⟨(Nat.le_of_ble_eq_true rfl), (Nat.le_of_ble_eq_true rfl)⟩ ?_
    refine z_pop X dJ0_checkIndex_df160_8 rfl ?_
    exact z_vret X hQ dJ0_checkIndex_df160_9 [] rfl (by decide) (by decide)
  · refine z_iload_n X dJ0_checkIndex_df160_0 0 rfl ?_
    refine z_iload_n X dJ0_checkIndex_df160_1 1 rfl ?_
    refine z_gets (v := .ref t) X Y hq zj1705 dJ0_checkIndex_df160_2 ?_
    refine z_sSi (st := []) (ws2 := []) X Y (metJ3_checkIndex_8e1572 (zcl C) (zcD C) (zcT C) h0 h1) zmJ3_checkIndex_8e157 zj1728 dJ0_checkIndex_df160_5 [] rfl rfl [] rfl (by decide) trivial rfl rfl rfl (Nat.le_of_ble_eq_true rfl) rfl rfl ⟨(Nat.le_of_ble_eq_true rfl), (Nat.le_of_ble_eq_true rfl)⟩ ⟨(Nat.le_of_ble_eq_true rfl), (Nat.le_of_ble_eq_true rfl)⟩ ?_
    refine z_pop X dJ0_checkIndex_df160_8 rfl ?_
    exact z_vret X hQ dJ0_checkIndex_df160_9 [] rfl (by decide) (by decide)
abbrev rmJ5_charAt_5068e : Room := { frames := 2, cells := 0, slots := 0, locals := 43 }
theorem metJ5_charAt_5068e (l : Launch) (D : va_G) (T : Nat → ClassId) {aO : Nat → Nat} {sO : zSt} {x1 : Int32} (hc : zgi sO 1 = 0) (hm : ¬ (16 : Int32) >>> (zgi sO 1 &&& 31) < zgi sO 3) (h0 : ¬ x1 < 0) (h1 : x1 < zgi sO 3) (hi : zin x1 16 = true) (hn : znar .char (((zga sO 0 (x1).toNatClampNeg) &&& (255 : Int32)).toUInt32 % 65536).toInt32 = true) (base sz : Nat) : Met l yJ5_charAt_5068e (zws yJ5_charAt_5068e cJ5_charAt_5068e 5 (some .char)) rmJ5_charAt_5068e (zPs D T [.ref (aO 0), .int x1] [wJ4 T aO sO] [] base sz) (zQi D ((((zga sO 0 (x1).toNatClampNeg) &&& (255 : Int32))).toUInt32 % 65536).toInt32 [] (zA [] sz)) 0 0 (zA [] sz) := by
  refine zMetS (D := D) (T := T) (av := [.ref (aO 0), .int x1]) (ws := fun T => [wJ4 T aO sO]) (wm := fun T => []) (lv0 := [(0, .ref (aO 0)), (1, .int x1)]) [] (Qc := fun D T A => zQi D ((((zga sO 0 (x1).toNatClampNeg) &&& (255 : Int32))).toUInt32 % 65536).toInt32 [] A) (by decide +kernel) rfl (Nat.le_of_ble_eq_true rfl) rfl (fun C base X Y hQ => ?_) base sz
  refine z_aload_n X dJ5_charAt_5068e_0 0 rfl ?_
  refine z_getI (v := .int (zgi sO 1)) X 0 0 0 1 ziJ4 rfl (by decide) zj1625 dJ5_charAt_5068e_1 rfl rfl rfl ?_
  refine z_istore_n (lv2 := [(2, .int (zgi sO 1)), (0, .ref (aO 0)), (1, .int x1)]) X dJ5_charAt_5068e_4 rfl (by decide) rfl ?_
  refine z_aload_n X dJ5_charAt_5068e_5 1 rfl ?_
  refine z_getI (v := .ref (aO 1)) X 0 0 0 0 ziJ4 rfl (by decide) zj1624 dJ5_charAt_5068e_6 rfl rfl rfl ?_
  refine z_astore_n (lv2 := [(3, .ref (aO 1)), (2, .int (zgi sO 1)), (0, .ref (aO 0)), (1, .int x1)]) X dJ5_charAt_5068e_9 rfl (by decide) rfl ?_
  refine z_aload_n X dJ5_charAt_5068e_10 2 rfl ?_
  refine z_getI (v := .int (zgi sO 3)) X 0 0 0 3 ziJ4 rfl (by decide) zj1626 dJ5_charAt_5068e_11 rfl rfl rfl ?_
  refine z_aload_n X dJ5_charAt_5068e_14 0 rfl ?_
  refine z_alen (v := (16 : Int32)) X 0 1 6 rfl rfl dJ5_charAt_5068e_15 rfl rfl ?_
  refine z_iload_n X dJ5_charAt_5068e_16 1 rfl ?_
  refine z_ishr X dJ5_charAt_5068e_17 ?_
  refine z_mmin (v := (zgi sO 3)) X zj1783 zj1673 zj27 zj1674 (Nat.le_of_ble_eq_true rfl) (Nat.le_of_ble_eq_true rfl) (Nat.le_of_ble_eq_true rfl) (Nat.le_of_ble_eq_true rfl) dJ5_charAt_5068e_18 (if_neg hm) ?_
  refine z_istore (lv2 := [(4, .int (zgi sO 3)), (3, .ref (aO 1)), (2, .int (zgi sO 1)), (0, .ref (aO 0)), (1, .int x1)]) X dJ5_charAt_5068e_21 (by decide) rfl ?_
  refine z_iload_n X dJ5_charAt_5068e_23 4 rfl ?_
  refine z_iload X dJ5_charAt_5068e_24 0 rfl ?_
  refine z_sSv (st := []) (ws2 := [wJ4 (zcT C) aO sO]) X Y (metJ0_checkIndex_df160 (zcl C) (zcD C) (zcT C) h0 h1) zmJ0_checkIndex_df160 zj1784 dJ5_charAt_5068e_26 [] rfl rfl [] rfl (by decide) trivial rfl rfl rfl (Nat.le_of_ble_eq_true rfl) rfl rfl ⟨(Nat.le_of_ble_eq_true rfl), (Nat.le_of_ble_eq_true rfl)⟩ ⟨(Nat.le_of_ble_eq_true rfl), (Nat.le_of_ble_eq_true rfl)⟩ ?_
  refine z_iload_n X dJ5_charAt_5068e_29 2 rfl ?_
  refine z_if_ne (tgt := 42) X dJ5_charAt_5068e_30 (by decide) (fun c => absurd hc c) (fun _ => ?_)
  refine z_aload_n X dJ5_charAt_5068e_33 1 rfl ?_
  refine z_iload_n X dJ5_charAt_5068e_34 4 rfl ?_
  refine z_bald X 0 1 hi dJ5_charAt_5068e_35 rfl rfl ?_
  refine z_sipush (v := (255 : Int32)) X dJ5_charAt_5068e_36 rfl ?_
  refine z_iand X dJ5_charAt_5068e_39 ?_
  refine z_i2c X dJ5_charAt_5068e_40 ?_
  exact z_nret X hQ hn dJ5_charAt_5068e_41 rfl [] rfl (by decide) (by decide)
abbrev rmJ4_charAt_5068e : Room := { frames := 3, cells := 0, slots := 0, locals := 67 }
theorem metJ4_charAt_5068e (l : Launch) (D : va_G) (T : Nat → ClassId) {aO : Nat → Nat} {sO : zSt} {x1 : Int32} (hc : zgi sO 1 = 0) (hm : ¬ (16 : Int32) >>> (zgi sO 1 &&& 31) < zgi sO 3) (h0 : ¬ x1 < 0) (h1 : x1 < zgi sO 3) (hi : zin x1 16 = true) (hn : znar .char (((zga sO 0 (x1).toNatClampNeg) &&& (255 : Int32)).toUInt32 % 65536).toInt32 = true) (base sz : Nat) : Met l yJ4_charAt_5068e (zws yJ4_charAt_5068e cJ4_charAt_5068e 2 (some .char)) rmJ4_charAt_5068e (zPs D T [.ref (aO 0), .int x1] [wJ4 T aO sO] [] base sz) (zQi D ((((zga sO 0 (x1).toNatClampNeg) &&& (255 : Int32))).toUInt32 % 65536).toInt32 [] (zA [] sz)) 0 0 (zA [] sz) := by
  refine zMetS (D := D) (T := T) (av := [.ref (aO 0), .int x1]) (ws := fun T => [wJ4 T aO sO]) (wm := fun T => []) (lv0 := [(0, .ref (aO 0)), (1, .int x1)]) [] (Qc := fun D T A => zQi D ((((zga sO 0 (x1).toNatClampNeg) &&& (255 : Int32))).toUInt32 % 65536).toInt32 [] A) (by decide +kernel) rfl (Nat.le_of_ble_eq_true rfl) rfl (fun C base X Y hQ => ?_) base sz
  refine z_aload_n X dJ4_charAt_5068e_0 0 rfl ?_
  refine z_iload_n X dJ4_charAt_5068e_1 1 rfl ?_
  refine z_sPi (st := []) (ws2 := [wJ4 (zcT C) aO sO]) X Y (metJ5_charAt_5068e (zcl C) (zcD C) (zcT C) hc hm h0 h1 hi hn) zmPJ4_329 dJ4_charAt_5068e_2 0 0 0 rfl rfl rfl [0] rfl rfl [] rfl (by decide) trivial rfl rfl rfl (Nat.le_of_ble_eq_true rfl) rfl rfl ⟨(Nat.le_of_ble_eq_true rfl), (Nat.le_of_ble_eq_true rfl)⟩ ⟨(Nat.le_of_ble_eq_true rfl), (Nat.le_of_ble_eq_true rfl)⟩ ?_
  exact z_nret X hQ hn dJ4_charAt_5068e_5 rfl [] rfl (by decide) (by decide)
