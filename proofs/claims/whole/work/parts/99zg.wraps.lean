/-! 99zg: the wrappers of the law. Written by wip/gen/mklaw2.py. -/
theorem zl_addVariable : zMV yX11_addVariable cX11_addVariable 3 (some .int) 2 := ⟨zW_tab (List.mem_of_getElem? (i := 752) (by decide +kernel)) (by decide +kernel), zW_tab (List.mem_of_getElem? (i := 1) (by decide +kernel)) (by decide +kernel), zW_tab (List.mem_of_getElem? (i := 750) (by decide +kernel)) (by decide +kernel), zW_tab (List.mem_of_getElem? (i := 751) (by decide +kernel)) (by decide +kernel), (by decide +kernel)⟩
theorem zl_setLeast : zMV yX11_setLeast cX11_setLeast 4 (some .int) 2 := ⟨zW_tab (List.mem_of_getElem? (i := 857) (by decide +kernel)) (by decide +kernel), zW_tab (List.mem_of_getElem? (i := 1) (by decide +kernel)) (by decide +kernel), zW_tab (List.mem_of_getElem? (i := 855) (by decide +kernel)) (by decide +kernel), zW_tab (List.mem_of_getElem? (i := 856) (by decide +kernel)) (by decide +kernel), (by decide +kernel)⟩
theorem zl_setGreatest : zMV yX11_setGreatest cX11_setGreatest 4 (some .int) 2 := ⟨zW_tab (List.mem_of_getElem? (i := 888) (by decide +kernel)) (by decide +kernel), zW_tab (List.mem_of_getElem? (i := 1) (by decide +kernel)) (by decide +kernel), zW_tab (List.mem_of_getElem? (i := 886) (by decide +kernel)) (by decide +kernel), zW_tab (List.mem_of_getElem? (i := 887) (by decide +kernel)) (by decide +kernel), (by decide +kernel)⟩
theorem zl_type : zMV yX11_type cX11_type 2 (some .int) 1 := ⟨zW_tab (List.mem_of_getElem? (i := 896) (by decide +kernel)) (by decide +kernel), zW_tab (List.mem_of_getElem? (i := 1) (by decide +kernel)) (by decide +kernel), zW_tab (List.mem_of_getElem? (i := 894) (by decide +kernel)) (by decide +kernel), zW_tab (List.mem_of_getElem? (i := 895) (by decide +kernel)) (by decide +kernel), (by decide +kernel)⟩
theorem zl_faultAt : zMV yX11_faultAt cX11_faultAt 1 (some .int) 0 := ⟨zW_tab (List.mem_of_getElem? (i := 913) (by decide +kernel)) (by decide +kernel), zW_tab (List.mem_of_getElem? (i := 1) (by decide +kernel)) (by decide +kernel), zW_tab (List.mem_of_getElem? (i := 911) (by decide +kernel)) (by decide +kernel), zW_tab (List.mem_of_getElem? (i := 912) (by decide +kernel)) (by decide +kernel), (by decide +kernel)⟩
theorem zl_tell : zMV yX11_tell cX11_tell 3 (some .int) 0 := ⟨zW_tab (List.mem_of_getElem? (i := 938) (by decide +kernel)) (by decide +kernel), zW_tab (List.mem_of_getElem? (i := 1) (by decide +kernel)) (by decide +kernel), zW_tab (List.mem_of_getElem? (i := 936) (by decide +kernel)) (by decide +kernel), zW_tab (List.mem_of_getElem? (i := 937) (by decide +kernel)) (by decide +kernel), (by decide +kernel)⟩
theorem zl_dropRow : zMV yX11_dropRow cX11_dropRow 2 (some .int) 1 := ⟨zW_tab (List.mem_of_getElem? (i := 989) (by decide +kernel)) (by decide +kernel), zW_tab (List.mem_of_getElem? (i := 1) (by decide +kernel)) (by decide +kernel), zW_tab (List.mem_of_getElem? (i := 987) (by decide +kernel)) (by decide +kernel), zW_tab (List.mem_of_getElem? (i := 988) (by decide +kernel)) (by decide +kernel), (by decide +kernel)⟩
theorem zl_setNumber : zMV yX11_setNumber cX11_setNumber 4 (some .int) 2 := ⟨zW_tab (List.mem_of_getElem? (i := 1011) (by decide +kernel)) (by decide +kernel), zW_tab (List.mem_of_getElem? (i := 1) (by decide +kernel)) (by decide +kernel), zW_tab (List.mem_of_getElem? (i := 1009) (by decide +kernel)) (by decide +kernel), zW_tab (List.mem_of_getElem? (i := 1010) (by decide +kernel)) (by decide +kernel), (by decide +kernel)⟩
theorem zl_coefficient : zMV yX11_coefficient cX11_coefficient 3 (some .int) 2 := ⟨zW_tab (List.mem_of_getElem? (i := 1021) (by decide +kernel)) (by decide +kernel), zW_tab (List.mem_of_getElem? (i := 1) (by decide +kernel)) (by decide +kernel), zW_tab (List.mem_of_getElem? (i := 1019) (by decide +kernel)) (by decide +kernel), zW_tab (List.mem_of_getElem? (i := 1020) (by decide +kernel)) (by decide +kernel), (by decide +kernel)⟩
theorem zl_relation : zMV yX11_relation cX11_relation 2 (some .char) 1 := ⟨zW_tab (List.mem_of_getElem? (i := 1029) (by decide +kernel)) (by decide +kernel), zW_tab (List.mem_of_getElem? (i := 1) (by decide +kernel)) (by decide +kernel), zW_tab (List.mem_of_getElem? (i := 1027) (by decide +kernel)) (by decide +kernel), zW_tab (List.mem_of_getElem? (i := 1028) (by decide +kernel)) (by decide +kernel), (by decide +kernel)⟩
theorem zl_lineLength : zMV yX11_lineLength cX11_lineLength 2 (some .int) 1 := ⟨zW_tab (List.mem_of_getElem? (i := 1037) (by decide +kernel)) (by decide +kernel), zW_tab (List.mem_of_getElem? (i := 1) (by decide +kernel)) (by decide +kernel), zW_tab (List.mem_of_getElem? (i := 1035) (by decide +kernel)) (by decide +kernel), zW_tab (List.mem_of_getElem? (i := 1036) (by decide +kernel)) (by decide +kernel), (by decide +kernel)⟩
theorem zl_lineAt : zMV yX11_lineAt cX11_lineAt 3 (some .char) 2 := ⟨zW_tab (List.mem_of_getElem? (i := 1063) (by decide +kernel)) (by decide +kernel), zW_tab (List.mem_of_getElem? (i := 1) (by decide +kernel)) (by decide +kernel), zW_tab (List.mem_of_getElem? (i := 1061) (by decide +kernel)) (by decide +kernel), zW_tab (List.mem_of_getElem? (i := 1062) (by decide +kernel)) (by decide +kernel), (by decide +kernel)⟩
theorem zl_open : zMV yX11_open cX11_open 1 (some .int) 0 := ⟨zW_tab (List.mem_of_getElem? (i := 1075) (by decide +kernel)) (by decide +kernel), zW_tab (List.mem_of_getElem? (i := 1) (by decide +kernel)) (by decide +kernel), zW_tab (List.mem_of_getElem? (i := 1073) (by decide +kernel)) (by decide +kernel), zW_tab (List.mem_of_getElem? (i := 1074) (by decide +kernel)) (by decide +kernel), (by decide +kernel)⟩
theorem zl_valueTop : zMV yX11_valueTop cX11_valueTop 2 (some .long) 1 := ⟨zW_tab (List.mem_of_getElem? (i := 1083) (by decide +kernel)) (by decide +kernel), zW_tab (List.mem_of_getElem? (i := 1) (by decide +kernel)) (by decide +kernel), zW_tab (List.mem_of_getElem? (i := 1081) (by decide +kernel)) (by decide +kernel), zW_tab (List.mem_of_getElem? (i := 1082) (by decide +kernel)) (by decide +kernel), (by decide +kernel)⟩
theorem zl_valueBottom : zMV yX11_valueBottom cX11_valueBottom 2 (some .long) 1 := ⟨zW_tab (List.mem_of_getElem? (i := 1112) (by decide +kernel)) (by decide +kernel), zW_tab (List.mem_of_getElem? (i := 1) (by decide +kernel)) (by decide +kernel), zW_tab (List.mem_of_getElem? (i := 1110) (by decide +kernel)) (by decide +kernel), zW_tab (List.mem_of_getElem? (i := 1111) (by decide +kernel)) (by decide +kernel), (by decide +kernel)⟩
theorem zl_topByPoints : zMV yX11_topByPoints cX11_topByPoints 2 (some .long) 1 := ⟨zW_tab (List.mem_of_getElem? (i := 1119) (by decide +kernel)) (by decide +kernel), zW_tab (List.mem_of_getElem? (i := 1) (by decide +kernel)) (by decide +kernel), zW_tab (List.mem_of_getElem? (i := 1117) (by decide +kernel)) (by decide +kernel), zW_tab (List.mem_of_getElem? (i := 1118) (by decide +kernel)) (by decide +kernel), (by decide +kernel)⟩
theorem zl_pointTop : zMV yX11_pointTop cX11_pointTop 2 (some .long) 1 := ⟨zW_tab (List.mem_of_getElem? (i := 1170) (by decide +kernel)) (by decide +kernel), zW_tab (List.mem_of_getElem? (i := 1) (by decide +kernel)) (by decide +kernel), zW_tab (List.mem_of_getElem? (i := 1168) (by decide +kernel)) (by decide +kernel), zW_tab (List.mem_of_getElem? (i := 1169) (by decide +kernel)) (by decide +kernel), (by decide +kernel)⟩
theorem zl_pointBottom : zMV yX11_pointBottom cX11_pointBottom 2 (some .long) 1 := ⟨zW_tab (List.mem_of_getElem? (i := 1182) (by decide +kernel)) (by decide +kernel), zW_tab (List.mem_of_getElem? (i := 1) (by decide +kernel)) (by decide +kernel), zW_tab (List.mem_of_getElem? (i := 1180) (by decide +kernel)) (by decide +kernel), zW_tab (List.mem_of_getElem? (i := 1181) (by decide +kernel)) (by decide +kernel), (by decide +kernel)⟩
theorem zl_isTight : zMV yX11_isTight cX11_isTight 2 (some .boolean) 1 := ⟨zW_tab (List.mem_of_getElem? (i := 1189) (by decide +kernel)) (by decide +kernel), zW_tab (List.mem_of_getElem? (i := 1) (by decide +kernel)) (by decide +kernel), zW_tab (List.mem_of_getElem? (i := 1187) (by decide +kernel)) (by decide +kernel), zW_tab (List.mem_of_getElem? (i := 1188) (by decide +kernel)) (by decide +kernel), (by decide +kernel)⟩
theorem zl_tight : zMV yX11_tight cX11_tight 1 (some .int) 0 := ⟨zW_tab (List.mem_of_getElem? (i := 1197) (by decide +kernel)) (by decide +kernel), zW_tab (List.mem_of_getElem? (i := 1) (by decide +kernel)) (by decide +kernel), zW_tab (List.mem_of_getElem? (i := 1195) (by decide +kernel)) (by decide +kernel), zW_tab (List.mem_of_getElem? (i := 1196) (by decide +kernel)) (by decide +kernel), (by decide +kernel)⟩
theorem zl_worthTop : zMV yX11_worthTop cX11_worthTop 2 (some .long) 1 := ⟨zW_tab (List.mem_of_getElem? (i := 1212) (by decide +kernel)) (by decide +kernel), zW_tab (List.mem_of_getElem? (i := 1) (by decide +kernel)) (by decide +kernel), zW_tab (List.mem_of_getElem? (i := 1210) (by decide +kernel)) (by decide +kernel), zW_tab (List.mem_of_getElem? (i := 1211) (by decide +kernel)) (by decide +kernel), (by decide +kernel)⟩
theorem zl_worthBottom : zMV yX11_worthBottom cX11_worthBottom 2 (some .long) 1 := ⟨zW_tab (List.mem_of_getElem? (i := 1229) (by decide +kernel)) (by decide +kernel), zW_tab (List.mem_of_getElem? (i := 1) (by decide +kernel)) (by decide +kernel), zW_tab (List.mem_of_getElem? (i := 1227) (by decide +kernel)) (by decide +kernel), zW_tab (List.mem_of_getElem? (i := 1228) (by decide +kernel)) (by decide +kernel), (by decide +kernel)⟩
theorem zl_conflict : zMV yX11_conflict cX11_conflict 5 (some .int) 0 := ⟨zW_tab (List.mem_of_getElem? (i := 1236) (by decide +kernel)) (by decide +kernel), zW_tab (List.mem_of_getElem? (i := 1) (by decide +kernel)) (by decide +kernel), zW_tab (List.mem_of_getElem? (i := 1234) (by decide +kernel)) (by decide +kernel), zW_tab (List.mem_of_getElem? (i := 1235) (by decide +kernel)) (by decide +kernel), (by decide +kernel)⟩
theorem zl_wholeAt : zMV yX11_wholeAt cX11_wholeAt 2 (some .int) 1 := ⟨zW_tab (List.mem_of_getElem? (i := 1248) (by decide +kernel)) (by decide +kernel), zW_tab (List.mem_of_getElem? (i := 1) (by decide +kernel)) (by decide +kernel), zW_tab (List.mem_of_getElem? (i := 1246) (by decide +kernel)) (by decide +kernel), zW_tab (List.mem_of_getElem? (i := 1247) (by decide +kernel)) (by decide +kernel), (by decide +kernel)⟩
theorem zl_wholeValue : zMV yX11_wholeValue cX11_wholeValue 2 (some .int) 1 := ⟨zW_tab (List.mem_of_getElem? (i := 1283) (by decide +kernel)) (by decide +kernel), zW_tab (List.mem_of_getElem? (i := 1) (by decide +kernel)) (by decide +kernel), zW_tab (List.mem_of_getElem? (i := 1281) (by decide +kernel)) (by decide +kernel), zW_tab (List.mem_of_getElem? (i := 1282) (by decide +kernel)) (by decide +kernel), (by decide +kernel)⟩
theorem zl_keep : zMV yX11_keep cX11_keep 4 (some .char) 1 := ⟨zW_tab (List.mem_of_getElem? (i := 1290) (by decide +kernel)) (by decide +kernel), zW_tab (List.mem_of_getElem? (i := 1) (by decide +kernel)) (by decide +kernel), zW_tab (List.mem_of_getElem? (i := 1288) (by decide +kernel)) (by decide +kernel), zW_tab (List.mem_of_getElem? (i := 1289) (by decide +kernel)) (by decide +kernel), (by decide +kernel)⟩
theorem zl_kept : zMV yX11_kept cX11_kept 2 (some .char) 1 := ⟨zW_tab (List.mem_of_getElem? (i := 1312) (by decide +kernel)) (by decide +kernel), zW_tab (List.mem_of_getElem? (i := 1) (by decide +kernel)) (by decide +kernel), zW_tab (List.mem_of_getElem? (i := 1310) (by decide +kernel)) (by decide +kernel), zW_tab (List.mem_of_getElem? (i := 1311) (by decide +kernel)) (by decide +kernel), (by decide +kernel)⟩
theorem zl_brokenBy : zMV yX11_brokenBy cX11_brokenBy 3 (some .int) 1 := ⟨zW_tab (List.mem_of_getElem? (i := 1319) (by decide +kernel)) (by decide +kernel), zW_tab (List.mem_of_getElem? (i := 1) (by decide +kernel)) (by decide +kernel), zW_tab (List.mem_of_getElem? (i := 1317) (by decide +kernel)) (by decide +kernel), zW_tab (List.mem_of_getElem? (i := 1318) (by decide +kernel)) (by decide +kernel), (by decide +kernel)⟩
theorem zl_tightShare : zMV yX11_tightShare cX11_tightShare 1 (some .float) 0 := ⟨zW_tab (List.mem_of_getElem? (i := 1328) (by decide +kernel)) (by decide +kernel), zW_tab (List.mem_of_getElem? (i := 1) (by decide +kernel)) (by decide +kernel), zW_tab (List.mem_of_getElem? (i := 1326) (by decide +kernel)) (by decide +kernel), zW_tab (List.mem_of_getElem? (i := 1327) (by decide +kernel)) (by decide +kernel), (by decide +kernel)⟩
theorem zlk_addVariable : Cond.methodLink RL 7 yX11_addVariable ∈ zW := zW_tab (List.mem_of_getElem? (i := 749) (by decide +kernel)) (by decide +kernel)
abbrev rmL_addVariable : Room := { frames := 7, cells := 1, slots := 6, locals := 104 }
theorem metL_addVariable (l : Launch) (hst : l.stackTraces = false) (D : va_G) (T : Nat → ClassId) (aO : Nat → Nat) (aP : Nat → Nat) (aX : Nat → Nat) (aL : Nat → Nat) (aW : Nat → Nat) (aV : Nat → Nat) (aF : Nat → Nat) (aK : Nat → Nat) (aZ : Nat → Nat) (aR : Nat → Nat) (aS : Nat → Nat) (aD : Nat → Nat) (aQ : Nat → Nat) (aB : Nat → Nat) (aC : Nat → Nat) (aE : Nat → Nat) (aH : Nat → Nat) (aN : Nat → Nat) {sO : zSt} {sP : zSt} {sW : zSt} {sK : zSt} {sZ : zSt} {x1 : Int32} {x2 : Int32} {out : (String ⊕ Int32) × zSt × zSt × zSt × zSt} (hf : fX11_addVariable sO sP sW sK sZ x1 x2 = some out) (aU : Nat → Nat) {sU sU2 : zSt} {k0 : Int32} (hk : zWr (fun v : Int32 => v.toInt64) [("java/lang/IllegalArgumentException", 1), ("java/lang/IllegalStateException", 2)] out.1 sU k0 sU2) (base sz : Nat) : Met l yL_addVariable (Cond.codeWith yL_addVariable cL_addVariable 5 (some .int) [(0, 10, 13, 13), (0, 10, 17, 15)] :: zW) rmL_addVariable (zPL D T [.ref (aO 0), .int x1, .int x2, .ref (aU 0)] [wX11 T aO (aP 0) (aX 0) (aL 0) (aW 0) (aV 0) (aF 0) (aK 0) (aZ 0) (aR 0) aN sO, wX5 T aP sP, wX9 T aW (aP 0) (aS 0) (aD 0) (aQ 0) sW, wX0 T aK (aP 0) (aS 0) (aB 0) (aC 0) sK, wX10 T aZ (aP 0) (aE 0) (aH 0) sZ, wU T aU sU] [wX5 T aP sP, wX9 T aW (aP 0) (aS 0) (aD 0) (aQ 0) sW, wX0 T aK (aP 0) (aS 0) (aB 0) (aC 0) sK, wX10 T aZ (aP 0) (aE 0) (aH 0) sZ, wU T aU sU] base sz) (zQi D k0 [wX5 T aP out.2.1, wX9 T aW (aP 0) (aS 0) (aD 0) (aQ 0) out.2.2.1, wX0 T aK (aP 0) (aS 0) (aB 0) (aC 0) out.2.2.2.1, wX10 T aZ (aP 0) (aE 0) (aH 0) out.2.2.2.2, wU T aU sU2] (zA [wX5 T aP sP, wX9 T aW (aP 0) (aS 0) (aD 0) (aQ 0) sW, wX0 T aK (aP 0) (aS 0) (aB 0) (aC 0) sK, wX10 T aZ (aP 0) (aE 0) (aH 0) sZ, wU T aU sU] sz)) 1 6 (zA [wX5 T aP sP, wX9 T aW (aP 0) (aS 0) (aD 0) (aQ 0) sW, wX0 T aK (aP 0) (aS 0) (aB 0) (aC 0) sK, wX10 T aZ (aP 0) (aE 0) (aH 0) sZ, wU T aU sU] sz) := by
  refine zMetL hst (D := D) (T := T) (av := [.ref (aO 0), .int x1, .int x2, .ref (aU 0)]) (ws := fun T => [wX11 T aO (aP 0) (aX 0) (aL 0) (aW 0) (aV 0) (aF 0) (aK 0) (aZ 0) (aR 0) aN sO, wX5 T aP sP, wX9 T aW (aP 0) (aS 0) (aD 0) (aQ 0) sW, wX0 T aK (aP 0) (aS 0) (aB 0) (aC 0) sK, wX10 T aZ (aP 0) (aE 0) (aH 0) sZ, wU T aU sU]) (wm := fun T => [wX5 T aP sP, wX9 T aW (aP 0) (aS 0) (aD 0) (aQ 0) sW, wX0 T aK (aP 0) (aS 0) (aB 0) (aC 0) sK, wX10 T aZ (aP 0) (aE 0) (aH 0) sZ, wU T aU sU]) (lv0 := [(0, .ref (aO 0)), (1, .int x1), (2, .int x2), (3, .ref (aU 0))]) [1, 2, 3, 4, 5] (Qc := fun D T A => zQi D k0 [wX5 T aP out.2.1, wX9 T aW (aP 0) (aS 0) (aD 0) (aQ 0) out.2.2.1, wX0 T aK (aP 0) (aS 0) (aB 0) (aC 0) out.2.2.2.1, wX10 T aZ (aP 0) (aE 0) (aH 0) out.2.2.2.2, wU T aU sU2] A) (by decide +kernel) rfl (Nat.le_of_ble_eq_true rfl) rfl (fun C base X Y hT hQ => ?_) base sz
  refine z_aload_n X dL_addVariable_0 3 rfl ?_
  refine z_iconst (v := (0 : Int32)) X dL_addVariable_1 rfl ?_
  refine z_aload_n X dL_addVariable_2 0 rfl ?_
  refine z_iload_n X dL_addVariable_3 1 rfl ?_
  refine z_iload_n X dL_addVariable_4 2 rfl ?_
  refine z_tcallVi (st := [.int 0, .ref (aU 0)]) (ws2 := [wX11 (zcT C) aO (aP 0) (aX 0) (aL 0) (aW 0) (aV 0) (aF 0) (aK 0) (aZ 0) (aR 0) aN sO, wX5 (zcT C) aP out.2.1, wX9 (zcT C) aW (aP 0) (aS 0) (aD 0) (aQ 0) out.2.2.1, wX0 (zcT C) aK (aP 0) (aS 0) (aB 0) (aC 0) out.2.2.2.1, wX10 (zcT C) aZ (aP 0) (aE 0) (aH 0) out.2.2.2.2, wU (zcT C) aU sU]) X Y (metX11_addVariable (zcl C) Y.2.2.2.2.1 (zcD C) (zcT C) aO aP aX aL aW aV aF aK aZ aR aS aD aQ aB aC aE aH aN hf) zl_addVariable zlk_addVariable dL_addVariable_5 0 0 12 rfl rfl rfl rfl [0, 1, 2, 3, 4] rfl rfl [1, 2, 3, 4] rfl (by decide) ⟨zsX5, zsX9, zsX0, zsX10, trivial⟩ rfl rfl rfl (Nat.le_of_ble_eq_true rfl) rfl rfl ⟨Nat.le_of_ble_eq_true rfl, Nat.le_of_ble_eq_true rfl⟩ ⟨Nat.le_of_ble_eq_true rfl, Nat.le_of_ble_eq_true rfl⟩ (fun E hE => ?_) (fun r hr => ?_)
  · rcases hk with ⟨v, e, -⟩ | ⟨E2, e, hm, rfl⟩
    · exact absurd (e.symm.trans hE) (by simp)
    · have hE2 : E2 = E := Sum.inl.inj (e.symm.trans hE)
      subst hE2
      rcases List.mem_cons.mp hm with h | hm
      · injection h with h1 h2
        subst h1 h2
        refine z_catch X Y hT [] ⟨0, 10, 13, 13⟩ [⟨0, 10, 17, 15⟩] rfl (fun z hz => absurd hz List.not_mem_nil) (by decide) (by decide) zll13 zlc13 (fun q => ?_)
        refine z_astore (lv2 := [(4, .ref q), (0, .ref (aO 0)), (1, .int x1), (2, .int x2), (3, .ref (aU 0))]) X dL_addVariable_13 (by decide) rfl ?_
        refine z_iconst (v := (1 : Int32)) X dL_addVariable_15 rfl ?_
        exact z_iret X hQ dL_addVariable_16 rfl [1, 2, 3, 4, 5] rfl (Nat.le_of_ble_eq_true rfl) (Nat.le_of_ble_eq_true rfl)
      rcases List.mem_cons.mp hm with h | hm
      · injection h with h1 h2
        subst h1 h2
        refine z_catch X Y hT [⟨0, 10, 13, 13⟩] ⟨0, 10, 17, 15⟩ [] rfl (fun z hz => by
            simp only [List.mem_cons, List.not_mem_nil, or_false] at hz
            subst hz
            · exact ⟨by decide, _, zll13, by decide +kernel, by decide +kernel, by decide +kernel⟩) (by decide) (by decide) zll15 zlc15 (fun q => ?_)
        refine z_astore (lv2 := [(4, .ref q), (0, .ref (aO 0)), (1, .int x1), (2, .int x2), (3, .ref (aU 0))]) X dL_addVariable_17 (by decide) rfl ?_
        refine z_iconst (v := (2 : Int32)) X dL_addVariable_19 rfl ?_
        exact z_iret X hQ dL_addVariable_20 rfl [1, 2, 3, 4, 5] rfl (Nat.le_of_ble_eq_true rfl) (Nat.le_of_ble_eq_true rfl)
      exact absurd hm List.not_mem_nil
  · rcases hk with ⟨v, e, rfl, rfl⟩ | ⟨E2, e, -⟩
    · have hv : r = v := Sum.inr.inj (hr.symm.trans e)
      subst hv
      clear hr
      refine z_i2l X dL_addVariable_8 ?_
      refine z_last (ws2 := [wX11 (zcT C) aO (aP 0) (aX 0) (aL 0) (aW 0) (aV 0) (aF 0) (aK 0) (aZ 0) (aR 0) aN sO, wX5 (zcT C) aP out.2.1, wX9 (zcT C) aW (aP 0) (aS 0) (aD 0) (aQ 0) out.2.2.1, wX0 (zcT C) aK (aP 0) (aS 0) (aB 0) (aC 0) out.2.2.2.1, wX10 (zcT C) aZ (aP 0) (aE 0) (aH 0) out.2.2.2.2, wU (zcT C) aU (zsb sU 0 (vp_updL (zgb sU 0) ((0 : Int32)).toNatClampNeg ((fun v : Int32 => v.toInt64) r)))]) X 5 0 (by decide) dL_addVariable_9 rfl rfl (by decide) rfl rfl ?_
      refine z_goto (tgt := 21) X dL_addVariable_10 (by decide) ?_
      refine z_iconst (v := (0 : Int32)) X dL_addVariable_21 rfl ?_
      exact z_iret X hQ dL_addVariable_22 rfl [1, 2, 3, 4, 5] rfl (Nat.le_of_ble_eq_true rfl) (Nat.le_of_ble_eq_true rfl)
    · exact absurd (e.symm.trans hr) (by simp)
theorem zlk_setLeast : Cond.methodLink RL 17 yX11_setLeast ∈ zW := zW_tab (List.mem_of_getElem? (i := 854) (by decide +kernel)) (by decide +kernel)
abbrev rmL_setLeast : Room := { frames := 8, cells := 2, slots := 12, locals := 126 }
theorem metL_setLeast (l : Launch) (hst : l.stackTraces = false) (D : va_G) (T : Nat → ClassId) (aO : Nat → Nat) (aP : Nat → Nat) (aX : Nat → Nat) (aL : Nat → Nat) (aW : Nat → Nat) (aV : Nat → Nat) (aF : Nat → Nat) (aK : Nat → Nat) (aZ : Nat → Nat) (aR : Nat → Nat) (aS : Nat → Nat) (aD : Nat → Nat) (aQ : Nat → Nat) (aB : Nat → Nat) (aC : Nat → Nat) (aE : Nat → Nat) (aH : Nat → Nat) (aN : Nat → Nat) {sO : zSt} {sP : zSt} {sW : zSt} {sK : zSt} {sZ : zSt} {x1 : Int32} {x2 : Int32} {out : (String ⊕ Int32) × zSt × zSt × zSt × zSt} (hf : fX11_setLeast sO sP sW sK sZ x1 x2 = some out) (aU : Nat → Nat) {sU sU2 : zSt} {k0 : Int32} (hk : zWr (fun v : Int32 => v.toInt64) [("java/lang/IndexOutOfBoundsException", 1), ("java/lang/IllegalArgumentException", 2)] out.1 sU k0 sU2) (base sz : Nat) : Met l yL_setLeast (Cond.codeWith yL_setLeast cL_setLeast 5 (some .int) [(0, 10, 13, 20), (0, 10, 17, 13)] :: zW) rmL_setLeast (zPL D T [.ref (aO 0), .int x1, .int x2, .ref (aU 0)] [wX11 T aO (aP 0) (aX 0) (aL 0) (aW 0) (aV 0) (aF 0) (aK 0) (aZ 0) (aR 0) aN sO, wX5 T aP sP, wX9 T aW (aP 0) (aS 0) (aD 0) (aQ 0) sW, wX0 T aK (aP 0) (aS 0) (aB 0) (aC 0) sK, wX10 T aZ (aP 0) (aE 0) (aH 0) sZ, wU T aU sU] [wX5 T aP sP, wX9 T aW (aP 0) (aS 0) (aD 0) (aQ 0) sW, wX0 T aK (aP 0) (aS 0) (aB 0) (aC 0) sK, wX10 T aZ (aP 0) (aE 0) (aH 0) sZ, wU T aU sU] base sz) (zQi D k0 [wX5 T aP out.2.1, wX9 T aW (aP 0) (aS 0) (aD 0) (aQ 0) out.2.2.1, wX0 T aK (aP 0) (aS 0) (aB 0) (aC 0) out.2.2.2.1, wX10 T aZ (aP 0) (aE 0) (aH 0) out.2.2.2.2, wU T aU sU2] (zA [wX5 T aP sP, wX9 T aW (aP 0) (aS 0) (aD 0) (aQ 0) sW, wX0 T aK (aP 0) (aS 0) (aB 0) (aC 0) sK, wX10 T aZ (aP 0) (aE 0) (aH 0) sZ, wU T aU sU] sz)) 2 12 (zA [wX5 T aP sP, wX9 T aW (aP 0) (aS 0) (aD 0) (aQ 0) sW, wX0 T aK (aP 0) (aS 0) (aB 0) (aC 0) sK, wX10 T aZ (aP 0) (aE 0) (aH 0) sZ, wU T aU sU] sz) := by
  refine zMetL hst (D := D) (T := T) (av := [.ref (aO 0), .int x1, .int x2, .ref (aU 0)]) (ws := fun T => [wX11 T aO (aP 0) (aX 0) (aL 0) (aW 0) (aV 0) (aF 0) (aK 0) (aZ 0) (aR 0) aN sO, wX5 T aP sP, wX9 T aW (aP 0) (aS 0) (aD 0) (aQ 0) sW, wX0 T aK (aP 0) (aS 0) (aB 0) (aC 0) sK, wX10 T aZ (aP 0) (aE 0) (aH 0) sZ, wU T aU sU]) (wm := fun T => [wX5 T aP sP, wX9 T aW (aP 0) (aS 0) (aD 0) (aQ 0) sW, wX0 T aK (aP 0) (aS 0) (aB 0) (aC 0) sK, wX10 T aZ (aP 0) (aE 0) (aH 0) sZ, wU T aU sU]) (lv0 := [(0, .ref (aO 0)), (1, .int x1), (2, .int x2), (3, .ref (aU 0))]) [1, 2, 3, 4, 5] (Qc := fun D T A => zQi D k0 [wX5 T aP out.2.1, wX9 T aW (aP 0) (aS 0) (aD 0) (aQ 0) out.2.2.1, wX0 T aK (aP 0) (aS 0) (aB 0) (aC 0) out.2.2.2.1, wX10 T aZ (aP 0) (aE 0) (aH 0) out.2.2.2.2, wU T aU sU2] A) (by decide +kernel) rfl (Nat.le_of_ble_eq_true rfl) rfl (fun C base X Y hT hQ => ?_) base sz
  refine z_aload_n X dL_setLeast_0 3 rfl ?_
  refine z_iconst (v := (0 : Int32)) X dL_setLeast_1 rfl ?_
  refine z_aload_n X dL_setLeast_2 0 rfl ?_
  refine z_iload_n X dL_setLeast_3 1 rfl ?_
  refine z_iload_n X dL_setLeast_4 2 rfl ?_
  refine z_tcallVi (st := [.int 0, .ref (aU 0)]) (ws2 := [wX11 (zcT C) aO (aP 0) (aX 0) (aL 0) (aW 0) (aV 0) (aF 0) (aK 0) (aZ 0) (aR 0) aN sO, wX5 (zcT C) aP out.2.1, wX9 (zcT C) aW (aP 0) (aS 0) (aD 0) (aQ 0) out.2.2.1, wX0 (zcT C) aK (aP 0) (aS 0) (aB 0) (aC 0) out.2.2.2.1, wX10 (zcT C) aZ (aP 0) (aE 0) (aH 0) out.2.2.2.2, wU (zcT C) aU sU]) X Y (metX11_setLeast (zcl C) Y.2.2.2.2.1 (zcD C) (zcT C) aO aP aX aL aW aV aF aK aZ aR aS aD aQ aB aC aE aH aN hf) zl_setLeast zlk_setLeast dL_setLeast_5 0 0 12 rfl rfl rfl rfl [0, 1, 2, 3, 4] rfl rfl [1, 2, 3, 4] rfl (by decide) ⟨zsX5, zsX9, zsX0, zsX10, trivial⟩ rfl rfl rfl (Nat.le_of_ble_eq_true rfl) rfl rfl ⟨Nat.le_of_ble_eq_true rfl, Nat.le_of_ble_eq_true rfl⟩ ⟨Nat.le_of_ble_eq_true rfl, Nat.le_of_ble_eq_true rfl⟩ (fun E hE => ?_) (fun r hr => ?_)
  · rcases hk with ⟨v, e, -⟩ | ⟨E2, e, hm, rfl⟩
    · exact absurd (e.symm.trans hE) (by simp)
    · have hE2 : E2 = E := Sum.inl.inj (e.symm.trans hE)
      subst hE2
      rcases List.mem_cons.mp hm with h | hm
      · injection h with h1 h2
        subst h1 h2
        refine z_catch X Y hT [] ⟨0, 10, 13, 20⟩ [⟨0, 10, 17, 13⟩] rfl (fun z hz => absurd hz List.not_mem_nil) (by decide) (by decide) zll20 zlc20 (fun q => ?_)
        refine z_astore (lv2 := [(4, .ref q), (0, .ref (aO 0)), (1, .int x1), (2, .int x2), (3, .ref (aU 0))]) X dL_setLeast_13 (by decide) rfl ?_
        refine z_iconst (v := (1 : Int32)) X dL_setLeast_15 rfl ?_
        exact z_iret X hQ dL_setLeast_16 rfl [1, 2, 3, 4, 5] rfl (Nat.le_of_ble_eq_true rfl) (Nat.le_of_ble_eq_true rfl)
      rcases List.mem_cons.mp hm with h | hm
      · injection h with h1 h2
        subst h1 h2
        refine z_catch X Y hT [⟨0, 10, 13, 20⟩] ⟨0, 10, 17, 13⟩ [] rfl (fun z hz => by
            simp only [List.mem_cons, List.not_mem_nil, or_false] at hz
            subst hz
            · exact ⟨by decide, _, zll20, by decide +kernel, by decide +kernel, by decide +kernel⟩) (by decide) (by decide) zll13 zlc13 (fun q => ?_)
        refine z_astore (lv2 := [(4, .ref q), (0, .ref (aO 0)), (1, .int x1), (2, .int x2), (3, .ref (aU 0))]) X dL_setLeast_17 (by decide) rfl ?_
        refine z_iconst (v := (2 : Int32)) X dL_setLeast_19 rfl ?_
        exact z_iret X hQ dL_setLeast_20 rfl [1, 2, 3, 4, 5] rfl (Nat.le_of_ble_eq_true rfl) (Nat.le_of_ble_eq_true rfl)
      exact absurd hm List.not_mem_nil
  · rcases hk with ⟨v, e, rfl, rfl⟩ | ⟨E2, e, -⟩
    · have hv : r = v := Sum.inr.inj (hr.symm.trans e)
      subst hv
      clear hr
      refine z_i2l X dL_setLeast_8 ?_
      refine z_last (ws2 := [wX11 (zcT C) aO (aP 0) (aX 0) (aL 0) (aW 0) (aV 0) (aF 0) (aK 0) (aZ 0) (aR 0) aN sO, wX5 (zcT C) aP out.2.1, wX9 (zcT C) aW (aP 0) (aS 0) (aD 0) (aQ 0) out.2.2.1, wX0 (zcT C) aK (aP 0) (aS 0) (aB 0) (aC 0) out.2.2.2.1, wX10 (zcT C) aZ (aP 0) (aE 0) (aH 0) out.2.2.2.2, wU (zcT C) aU (zsb sU 0 (vp_updL (zgb sU 0) ((0 : Int32)).toNatClampNeg ((fun v : Int32 => v.toInt64) r)))]) X 5 0 (by decide) dL_setLeast_9 rfl rfl (by decide) rfl rfl ?_
      refine z_goto (tgt := 21) X dL_setLeast_10 (by decide) ?_
      refine z_iconst (v := (0 : Int32)) X dL_setLeast_21 rfl ?_
      exact z_iret X hQ dL_setLeast_22 rfl [1, 2, 3, 4, 5] rfl (Nat.le_of_ble_eq_true rfl) (Nat.le_of_ble_eq_true rfl)
    · exact absurd (e.symm.trans hr) (by simp)
theorem zlk_setGreatest : Cond.methodLink RL 22 yX11_setGreatest ∈ zW := zW_tab (List.mem_of_getElem? (i := 885) (by decide +kernel)) (by decide +kernel)
abbrev rmL_setGreatest : Room := { frames := 8, cells := 2, slots := 12, locals := 126 }
theorem metL_setGreatest (l : Launch) (hst : l.stackTraces = false) (D : va_G) (T : Nat → ClassId) (aO : Nat → Nat) (aP : Nat → Nat) (aX : Nat → Nat) (aL : Nat → Nat) (aW : Nat → Nat) (aV : Nat → Nat) (aF : Nat → Nat) (aK : Nat → Nat) (aZ : Nat → Nat) (aR : Nat → Nat) (aS : Nat → Nat) (aD : Nat → Nat) (aQ : Nat → Nat) (aB : Nat → Nat) (aC : Nat → Nat) (aE : Nat → Nat) (aH : Nat → Nat) (aN : Nat → Nat) {sO : zSt} {sP : zSt} {sW : zSt} {sK : zSt} {sZ : zSt} {x1 : Int32} {x2 : Int32} {out : (String ⊕ Int32) × zSt × zSt × zSt × zSt} (hf : fX11_setGreatest sO sP sW sK sZ x1 x2 = some out) (aU : Nat → Nat) {sU sU2 : zSt} {k0 : Int32} (hk : zWr (fun v : Int32 => v.toInt64) [("java/lang/IndexOutOfBoundsException", 1), ("java/lang/IllegalArgumentException", 2)] out.1 sU k0 sU2) (base sz : Nat) : Met l yL_setGreatest (Cond.codeWith yL_setGreatest cL_setGreatest 5 (some .int) [(0, 10, 13, 20), (0, 10, 17, 13)] :: zW) rmL_setGreatest (zPL D T [.ref (aO 0), .int x1, .int x2, .ref (aU 0)] [wX11 T aO (aP 0) (aX 0) (aL 0) (aW 0) (aV 0) (aF 0) (aK 0) (aZ 0) (aR 0) aN sO, wX5 T aP sP, wX9 T aW (aP 0) (aS 0) (aD 0) (aQ 0) sW, wX0 T aK (aP 0) (aS 0) (aB 0) (aC 0) sK, wX10 T aZ (aP 0) (aE 0) (aH 0) sZ, wU T aU sU] [wX5 T aP sP, wX9 T aW (aP 0) (aS 0) (aD 0) (aQ 0) sW, wX0 T aK (aP 0) (aS 0) (aB 0) (aC 0) sK, wX10 T aZ (aP 0) (aE 0) (aH 0) sZ, wU T aU sU] base sz) (zQi D k0 [wX5 T aP out.2.1, wX9 T aW (aP 0) (aS 0) (aD 0) (aQ 0) out.2.2.1, wX0 T aK (aP 0) (aS 0) (aB 0) (aC 0) out.2.2.2.1, wX10 T aZ (aP 0) (aE 0) (aH 0) out.2.2.2.2, wU T aU sU2] (zA [wX5 T aP sP, wX9 T aW (aP 0) (aS 0) (aD 0) (aQ 0) sW, wX0 T aK (aP 0) (aS 0) (aB 0) (aC 0) sK, wX10 T aZ (aP 0) (aE 0) (aH 0) sZ, wU T aU sU] sz)) 2 12 (zA [wX5 T aP sP, wX9 T aW (aP 0) (aS 0) (aD 0) (aQ 0) sW, wX0 T aK (aP 0) (aS 0) (aB 0) (aC 0) sK, wX10 T aZ (aP 0) (aE 0) (aH 0) sZ, wU T aU sU] sz) := by
  refine zMetL hst (D := D) (T := T) (av := [.ref (aO 0), .int x1, .int x2, .ref (aU 0)]) (ws := fun T => [wX11 T aO (aP 0) (aX 0) (aL 0) (aW 0) (aV 0) (aF 0) (aK 0) (aZ 0) (aR 0) aN sO, wX5 T aP sP, wX9 T aW (aP 0) (aS 0) (aD 0) (aQ 0) sW, wX0 T aK (aP 0) (aS 0) (aB 0) (aC 0) sK, wX10 T aZ (aP 0) (aE 0) (aH 0) sZ, wU T aU sU]) (wm := fun T => [wX5 T aP sP, wX9 T aW (aP 0) (aS 0) (aD 0) (aQ 0) sW, wX0 T aK (aP 0) (aS 0) (aB 0) (aC 0) sK, wX10 T aZ (aP 0) (aE 0) (aH 0) sZ, wU T aU sU]) (lv0 := [(0, .ref (aO 0)), (1, .int x1), (2, .int x2), (3, .ref (aU 0))]) [1, 2, 3, 4, 5] (Qc := fun D T A => zQi D k0 [wX5 T aP out.2.1, wX9 T aW (aP 0) (aS 0) (aD 0) (aQ 0) out.2.2.1, wX0 T aK (aP 0) (aS 0) (aB 0) (aC 0) out.2.2.2.1, wX10 T aZ (aP 0) (aE 0) (aH 0) out.2.2.2.2, wU T aU sU2] A) (by decide +kernel) rfl (Nat.le_of_ble_eq_true rfl) rfl (fun C base X Y hT hQ => ?_) base sz
  refine z_aload_n X dL_setGreatest_0 3 rfl ?_
  refine z_iconst (v := (0 : Int32)) X dL_setGreatest_1 rfl ?_
  refine z_aload_n X dL_setGreatest_2 0 rfl ?_
  refine z_iload_n X dL_setGreatest_3 1 rfl ?_
  refine z_iload_n X dL_setGreatest_4 2 rfl ?_
  refine z_tcallVi (st := [.int 0, .ref (aU 0)]) (ws2 := [wX11 (zcT C) aO (aP 0) (aX 0) (aL 0) (aW 0) (aV 0) (aF 0) (aK 0) (aZ 0) (aR 0) aN sO, wX5 (zcT C) aP out.2.1, wX9 (zcT C) aW (aP 0) (aS 0) (aD 0) (aQ 0) out.2.2.1, wX0 (zcT C) aK (aP 0) (aS 0) (aB 0) (aC 0) out.2.2.2.1, wX10 (zcT C) aZ (aP 0) (aE 0) (aH 0) out.2.2.2.2, wU (zcT C) aU sU]) X Y (metX11_setGreatest (zcl C) Y.2.2.2.2.1 (zcD C) (zcT C) aO aP aX aL aW aV aF aK aZ aR aS aD aQ aB aC aE aH aN hf) zl_setGreatest zlk_setGreatest dL_setGreatest_5 0 0 12 rfl rfl rfl rfl [0, 1, 2, 3, 4] rfl rfl [1, 2, 3, 4] rfl (by decide) ⟨zsX5, zsX9, zsX0, zsX10, trivial⟩ rfl rfl rfl (Nat.le_of_ble_eq_true rfl) rfl rfl ⟨Nat.le_of_ble_eq_true rfl, Nat.le_of_ble_eq_true rfl⟩ ⟨Nat.le_of_ble_eq_true rfl, Nat.le_of_ble_eq_true rfl⟩ (fun E hE => ?_) (fun r hr => ?_)
  · rcases hk with ⟨v, e, -⟩ | ⟨E2, e, hm, rfl⟩
    · exact absurd (e.symm.trans hE) (by simp)
    · have hE2 : E2 = E := Sum.inl.inj (e.symm.trans hE)
      subst hE2
      rcases List.mem_cons.mp hm with h | hm
      · injection h with h1 h2
        subst h1 h2
        refine z_catch X Y hT [] ⟨0, 10, 13, 20⟩ [⟨0, 10, 17, 13⟩] rfl (fun z hz => absurd hz List.not_mem_nil) (by decide) (by decide) zll20 zlc20 (fun q => ?_)
        refine z_astore (lv2 := [(4, .ref q), (0, .ref (aO 0)), (1, .int x1), (2, .int x2), (3, .ref (aU 0))]) X dL_setGreatest_13 (by decide) rfl ?_
        refine z_iconst (v := (1 : Int32)) X dL_setGreatest_15 rfl ?_
        exact z_iret X hQ dL_setGreatest_16 rfl [1, 2, 3, 4, 5] rfl (Nat.le_of_ble_eq_true rfl) (Nat.le_of_ble_eq_true rfl)
      rcases List.mem_cons.mp hm with h | hm
      · injection h with h1 h2
        subst h1 h2
        refine z_catch X Y hT [⟨0, 10, 13, 20⟩] ⟨0, 10, 17, 13⟩ [] rfl (fun z hz => by
            simp only [List.mem_cons, List.not_mem_nil, or_false] at hz
            subst hz
            · exact ⟨by decide, _, zll20, by decide +kernel, by decide +kernel, by decide +kernel⟩) (by decide) (by decide) zll13 zlc13 (fun q => ?_)
        refine z_astore (lv2 := [(4, .ref q), (0, .ref (aO 0)), (1, .int x1), (2, .int x2), (3, .ref (aU 0))]) X dL_setGreatest_17 (by decide) rfl ?_
        refine z_iconst (v := (2 : Int32)) X dL_setGreatest_19 rfl ?_
        exact z_iret X hQ dL_setGreatest_20 rfl [1, 2, 3, 4, 5] rfl (Nat.le_of_ble_eq_true rfl) (Nat.le_of_ble_eq_true rfl)
      exact absurd hm List.not_mem_nil
  · rcases hk with ⟨v, e, rfl, rfl⟩ | ⟨E2, e, -⟩
    · have hv : r = v := Sum.inr.inj (hr.symm.trans e)
      subst hv
      clear hr
      refine z_i2l X dL_setGreatest_8 ?_
      refine z_last (ws2 := [wX11 (zcT C) aO (aP 0) (aX 0) (aL 0) (aW 0) (aV 0) (aF 0) (aK 0) (aZ 0) (aR 0) aN sO, wX5 (zcT C) aP out.2.1, wX9 (zcT C) aW (aP 0) (aS 0) (aD 0) (aQ 0) out.2.2.1, wX0 (zcT C) aK (aP 0) (aS 0) (aB 0) (aC 0) out.2.2.2.1, wX10 (zcT C) aZ (aP 0) (aE 0) (aH 0) out.2.2.2.2, wU (zcT C) aU (zsb sU 0 (vp_updL (zgb sU 0) ((0 : Int32)).toNatClampNeg ((fun v : Int32 => v.toInt64) r)))]) X 5 0 (by decide) dL_setGreatest_9 rfl rfl (by decide) rfl rfl ?_
      refine z_goto (tgt := 21) X dL_setGreatest_10 (by decide) ?_
      refine z_iconst (v := (0 : Int32)) X dL_setGreatest_21 rfl ?_
      exact z_iret X hQ dL_setGreatest_22 rfl [1, 2, 3, 4, 5] rfl (Nat.le_of_ble_eq_true rfl) (Nat.le_of_ble_eq_true rfl)
    · exact absurd (e.symm.trans hr) (by simp)
theorem zlk_type : Cond.methodLink RL 25 yX11_type ∈ zW := zW_tab (List.mem_of_getElem? (i := 893) (by decide +kernel)) (by decide +kernel)
abbrev rmL_type : Room := { frames := 7, cells := 1, slots := 6, locals := 103 }
theorem metL_type (l : Launch) (hst : l.stackTraces = false) (D : va_G) (T : Nat → ClassId) (aO : Nat → Nat) (aP : Nat → Nat) (aX : Nat → Nat) (aL : Nat → Nat) (aW : Nat → Nat) (aV : Nat → Nat) (aF : Nat → Nat) (aK : Nat → Nat) (aZ : Nat → Nat) (aR : Nat → Nat) (aN : Nat → Nat) {sO : zSt} {sX : zSt} {x1 : Int32} {out : (String ⊕ Int32) × zSt} (hf : fX11_type sO sX x1 = some out) (aU : Nat → Nat) {sU sU2 : zSt} {k0 : Int32} (hk : zWr (fun v : Int32 => v.toInt64) [("java/lang/IllegalArgumentException", 1), ("java/lang/IllegalStateException", 2)] out.1 sU k0 sU2) (base sz : Nat) : Met l yL_type (Cond.codeWith yL_type cL_type 4 (some .int) [(0, 9, 12, 13), (0, 9, 15, 15)] :: zW) rmL_type (zPL D T [.ref (aO 0), .int x1, .ref (aU 0)] [wX11 T aO (aP 0) (aX 0) (aL 0) (aW 0) (aV 0) (aF 0) (aK 0) (aZ 0) (aR 0) aN sO, wX8 T aX sX, wU T aU sU] [wX8 T aX sX, wU T aU sU] base sz) (zQi D k0 [wX8 T aX out.2, wU T aU sU2] (zA [wX8 T aX sX, wU T aU sU] sz)) 1 6 (zA [wX8 T aX sX, wU T aU sU] sz) := by
  refine zMetL hst (D := D) (T := T) (av := [.ref (aO 0), .int x1, .ref (aU 0)]) (ws := fun T => [wX11 T aO (aP 0) (aX 0) (aL 0) (aW 0) (aV 0) (aF 0) (aK 0) (aZ 0) (aR 0) aN sO, wX8 T aX sX, wU T aU sU]) (wm := fun T => [wX8 T aX sX, wU T aU sU]) (lv0 := [(0, .ref (aO 0)), (1, .int x1), (2, .ref (aU 0))]) [1, 2] (Qc := fun D T A => zQi D k0 [wX8 T aX out.2, wU T aU sU2] A) (by decide +kernel) rfl (Nat.le_of_ble_eq_true rfl) rfl (fun C base X Y hT hQ => ?_) base sz
  refine z_aload_n X dL_type_0 2 rfl ?_
  refine z_iconst (v := (0 : Int32)) X dL_type_1 rfl ?_
  refine z_aload_n X dL_type_2 0 rfl ?_
  refine z_iload_n X dL_type_3 1 rfl ?_
  refine z_tcallVi (st := [.int 0, .ref (aU 0)]) (ws2 := [wX11 (zcT C) aO (aP 0) (aX 0) (aL 0) (aW 0) (aV 0) (aF 0) (aK 0) (aZ 0) (aR 0) aN sO, wX8 (zcT C) aX out.2, wU (zcT C) aU sU]) X Y (metX11_type (zcl C) Y.2.2.2.2.1 (zcD C) (zcT C) aO aP aX aL aW aV aF aK aZ aR aN hf) zl_type zlk_type dL_type_4 0 0 12 rfl rfl rfl rfl [0, 1] rfl rfl [1] rfl (by decide) ⟨zsX8, trivial⟩ rfl rfl rfl (Nat.le_of_ble_eq_true rfl) rfl rfl ⟨Nat.le_of_ble_eq_true rfl, Nat.le_of_ble_eq_true rfl⟩ ⟨Nat.le_of_ble_eq_true rfl, Nat.le_of_ble_eq_true rfl⟩ (fun E hE => ?_) (fun r hr => ?_)
  · rcases hk with ⟨v, e, -⟩ | ⟨E2, e, hm, rfl⟩
    · exact absurd (e.symm.trans hE) (by simp)
    · have hE2 : E2 = E := Sum.inl.inj (e.symm.trans hE)
      subst hE2
      rcases List.mem_cons.mp hm with h | hm
      · injection h with h1 h2
        subst h1 h2
        refine z_catch X Y hT [] ⟨0, 9, 12, 13⟩ [⟨0, 9, 15, 15⟩] rfl (fun z hz => absurd hz List.not_mem_nil) (by decide) (by decide) zll13 zlc13 (fun q => ?_)
        refine z_astore_n (lv2 := [(3, .ref q), (0, .ref (aO 0)), (1, .int x1), (2, .ref (aU 0))]) X dL_type_12 rfl (by decide) rfl ?_
        refine z_iconst (v := (1 : Int32)) X dL_type_13 rfl ?_
        exact z_iret X hQ dL_type_14 rfl [1, 2] rfl (Nat.le_of_ble_eq_true rfl) (Nat.le_of_ble_eq_true rfl)
      rcases List.mem_cons.mp hm with h | hm
      · injection h with h1 h2
        subst h1 h2
        refine z_catch X Y hT [⟨0, 9, 12, 13⟩] ⟨0, 9, 15, 15⟩ [] rfl (fun z hz => by
            simp only [List.mem_cons, List.not_mem_nil, or_false] at hz
            subst hz
            · exact ⟨by decide, _, zll13, by decide +kernel, by decide +kernel, by decide +kernel⟩) (by decide) (by decide) zll15 zlc15 (fun q => ?_)
        refine z_astore_n (lv2 := [(3, .ref q), (0, .ref (aO 0)), (1, .int x1), (2, .ref (aU 0))]) X dL_type_15 rfl (by decide) rfl ?_
        refine z_iconst (v := (2 : Int32)) X dL_type_16 rfl ?_
        exact z_iret X hQ dL_type_17 rfl [1, 2] rfl (Nat.le_of_ble_eq_true rfl) (Nat.le_of_ble_eq_true rfl)
      exact absurd hm List.not_mem_nil
  · rcases hk with ⟨v, e, rfl, rfl⟩ | ⟨E2, e, -⟩
    · have hv : r = v := Sum.inr.inj (hr.symm.trans e)
      subst hv
      clear hr
      refine z_i2l X dL_type_7 ?_
      refine z_last (ws2 := [wX11 (zcT C) aO (aP 0) (aX 0) (aL 0) (aW 0) (aV 0) (aF 0) (aK 0) (aZ 0) (aR 0) aN sO, wX8 (zcT C) aX out.2, wU (zcT C) aU (zsb sU 0 (vp_updL (zgb sU 0) ((0 : Int32)).toNatClampNeg ((fun v : Int32 => v.toInt64) r)))]) X 2 0 (by decide) dL_type_8 rfl rfl (by decide) rfl rfl ?_
      refine z_goto (tgt := 18) X dL_type_9 (by decide) ?_
      refine z_iconst (v := (0 : Int32)) X dL_type_18 rfl ?_
      exact z_iret X hQ dL_type_19 rfl [1, 2] rfl (Nat.le_of_ble_eq_true rfl) (Nat.le_of_ble_eq_true rfl)
    · exact absurd (e.symm.trans hr) (by simp)
theorem zlk_faultAt : Cond.methodLink RL 29 yX11_faultAt ∈ zW := zW_tab (List.mem_of_getElem? (i := 910) (by decide +kernel)) (by decide +kernel)
abbrev rmL_faultAt : Room := { frames := 7, cells := 1, slots := 6, locals := 145 }
theorem metL_faultAt (l : Launch) (hst : l.stackTraces = false) (D : va_G) (T : Nat → ClassId) (aO : Nat → Nat) (aP : Nat → Nat) (aX : Nat → Nat) (aL : Nat → Nat) (aW : Nat → Nat) (aV : Nat → Nat) (aF : Nat → Nat) (aK : Nat → Nat) (aZ : Nat → Nat) (aR : Nat → Nat) (aN : Nat → Nat) {sO : zSt} {sP : zSt} {sX : zSt} {out : (String ⊕ Int32) × zSt} (hf : fX11_faultAt sO sP sX = some out) (aU : Nat → Nat) {sU sU2 : zSt} {k0 : Int32} (hk : zWr (fun v : Int32 => v.toInt64) [("java/util/NoSuchElementException", 1)] out.1 sU k0 sU2) (base sz : Nat) : Met l yL_faultAt (Cond.codeWith yL_faultAt cL_faultAt 3 (some .int) [(0, 8, 11, 33)] :: zW) rmL_faultAt (zPL D T [.ref (aO 0), .ref (aU 0)] [wX11 T aO (aP 0) (aX 0) (aL 0) (aW 0) (aV 0) (aF 0) (aK 0) (aZ 0) (aR 0) aN sO, wX5 T aP sP, wX8 T aX sX, wU T aU sU] [wX8 T aX sX, wU T aU sU] base sz) (zQi D k0 [wX8 T aX out.2, wU T aU sU2] (zA [wX8 T aX sX, wU T aU sU] sz)) 1 6 (zA [wX8 T aX sX, wU T aU sU] sz) := by
  refine zMetL hst (D := D) (T := T) (av := [.ref (aO 0), .ref (aU 0)]) (ws := fun T => [wX11 T aO (aP 0) (aX 0) (aL 0) (aW 0) (aV 0) (aF 0) (aK 0) (aZ 0) (aR 0) aN sO, wX5 T aP sP, wX8 T aX sX, wU T aU sU]) (wm := fun T => [wX8 T aX sX, wU T aU sU]) (lv0 := [(0, .ref (aO 0)), (1, .ref (aU 0))]) [2, 3] (Qc := fun D T A => zQi D k0 [wX8 T aX out.2, wU T aU sU2] A) (by decide +kernel) rfl (Nat.le_of_ble_eq_true rfl) rfl (fun C base X Y hT hQ => ?_) base sz
  refine z_aload_n X dL_faultAt_0 1 rfl ?_
  refine z_iconst (v := (0 : Int32)) X dL_faultAt_1 rfl ?_
  refine z_aload_n X dL_faultAt_2 0 rfl ?_
  refine z_tcallVi (st := [.int 0, .ref (aU 0)]) (ws2 := [wX11 (zcT C) aO (aP 0) (aX 0) (aL 0) (aW 0) (aV 0) (aF 0) (aK 0) (aZ 0) (aR 0) aN sO, wX5 (zcT C) aP sP, wX8 (zcT C) aX out.2, wU (zcT C) aU sU]) X Y (metX11_faultAt (zcl C) Y.2.2.2.2.1 (zcD C) (zcT C) aO aP aX aL aW aV aF aK aZ aR aN hf) zl_faultAt zlk_faultAt dL_faultAt_3 0 0 12 rfl rfl rfl rfl [0, 1, 2] rfl rfl [2] rfl (by decide) ⟨zsX8, trivial⟩ rfl rfl rfl (Nat.le_of_ble_eq_true rfl) rfl rfl ⟨Nat.le_of_ble_eq_true rfl, Nat.le_of_ble_eq_true rfl⟩ ⟨Nat.le_of_ble_eq_true rfl, Nat.le_of_ble_eq_true rfl⟩ (fun E hE => ?_) (fun r hr => ?_)
  · rcases hk with ⟨v, e, -⟩ | ⟨E2, e, hm, rfl⟩
    · exact absurd (e.symm.trans hE) (by simp)
    · have hE2 : E2 = E := Sum.inl.inj (e.symm.trans hE)
      subst hE2
      rcases List.mem_cons.mp hm with h | hm
      · injection h with h1 h2
        subst h1 h2
        refine z_catch X Y hT [] ⟨0, 8, 11, 33⟩ [] rfl (fun z hz => absurd hz List.not_mem_nil) (by decide) (by decide) zll33 zlc33 (fun q => ?_)
        refine z_astore_n (lv2 := [(2, .ref q), (0, .ref (aO 0)), (1, .ref (aU 0))]) X dL_faultAt_11 rfl (by decide) rfl ?_
        refine z_iconst (v := (1 : Int32)) X dL_faultAt_12 rfl ?_
        exact z_iret X hQ dL_faultAt_13 rfl [2, 3] rfl (Nat.le_of_ble_eq_true rfl) (Nat.le_of_ble_eq_true rfl)
      exact absurd hm List.not_mem_nil
  · rcases hk with ⟨v, e, rfl, rfl⟩ | ⟨E2, e, -⟩
    · have hv : r = v := Sum.inr.inj (hr.symm.trans e)
      subst hv
      clear hr
      refine z_i2l X dL_faultAt_6 ?_
      refine z_last (ws2 := [wX11 (zcT C) aO (aP 0) (aX 0) (aL 0) (aW 0) (aV 0) (aF 0) (aK 0) (aZ 0) (aR 0) aN sO, wX5 (zcT C) aP sP, wX8 (zcT C) aX out.2, wU (zcT C) aU (zsb sU 0 (vp_updL (zgb sU 0) ((0 : Int32)).toNatClampNeg ((fun v : Int32 => v.toInt64) r)))]) X 3 0 (by decide) dL_faultAt_7 rfl rfl (by decide) rfl rfl ?_
      refine z_goto (tgt := 14) X dL_faultAt_8 (by decide) ?_
      refine z_iconst (v := (0 : Int32)) X dL_faultAt_14 rfl ?_
      exact z_iret X hQ dL_faultAt_15 rfl [2, 3] rfl (Nat.le_of_ble_eq_true rfl) (Nat.le_of_ble_eq_true rfl)
    · exact absurd (e.symm.trans hr) (by simp)
theorem zlk_tell : Cond.methodLink RL 35 yX11_tell ∈ zW := zW_tab (List.mem_of_getElem? (i := 935) (by decide +kernel)) (by decide +kernel)
abbrev rmL_tell : Room := { frames := 7, cells := 1, slots := 6, locals := 147 }
theorem metL_tell (l : Launch) (hst : l.stackTraces = false) (D : va_G) (T : Nat → ClassId) (aO : Nat → Nat) (aP : Nat → Nat) (aX : Nat → Nat) (aL : Nat → Nat) (aW : Nat → Nat) (aV : Nat → Nat) (aF : Nat → Nat) (aK : Nat → Nat) (aZ : Nat → Nat) (aR : Nat → Nat) (aS : Nat → Nat) (aD : Nat → Nat) (aQ : Nat → Nat) (aB : Nat → Nat) (aC : Nat → Nat) (aE : Nat → Nat) (aH : Nat → Nat) (aN : Nat → Nat) {sO : zSt} {sP : zSt} {sX : zSt} {sW : zSt} {sK : zSt} {sZ : zSt} {out : (String ⊕ Int32) × zSt × zSt × zSt × zSt × zSt} (hf : fX11_tell sO sP sX sW sK sZ = some out) (aU : Nat → Nat) {sU sU2 : zSt} {k0 : Int32} (hk : zWr (fun v : Int32 => v.toInt64) [("java/lang/UnsupportedOperationException", 1), ("java/lang/IllegalStateException", 2)] out.1 sU k0 sU2) (base sz : Nat) : Met l yL_tell (Cond.codeWith yL_tell cL_tell 3 (some .int) [(0, 8, 11, 38), (0, 8, 14, 15)] :: zW) rmL_tell (zPL D T [.ref (aO 0), .ref (aU 0)] [wX11 T aO (aP 0) (aX 0) (aL 0) (aW 0) (aV 0) (aF 0) (aK 0) (aZ 0) (aR 0) aN sO, wX5 T aP sP, wX8 T aX sX, wX9 T aW (aP 0) (aS 0) (aD 0) (aQ 0) sW, wX0 T aK (aP 0) (aS 0) (aB 0) (aC 0) sK, wX10 T aZ (aP 0) (aE 0) (aH 0) sZ, wU T aU sU] [wX5 T aP sP, wX8 T aX sX, wX9 T aW (aP 0) (aS 0) (aD 0) (aQ 0) sW, wX0 T aK (aP 0) (aS 0) (aB 0) (aC 0) sK, wX10 T aZ (aP 0) (aE 0) (aH 0) sZ, wU T aU sU] base sz) (zQi D k0 [wX5 T aP out.2.1, wX8 T aX out.2.2.1, wX9 T aW (aP 0) (aS 0) (aD 0) (aQ 0) out.2.2.2.1, wX0 T aK (aP 0) (aS 0) (aB 0) (aC 0) out.2.2.2.2.1, wX10 T aZ (aP 0) (aE 0) (aH 0) out.2.2.2.2.2, wU T aU sU2] (zA [wX5 T aP sP, wX8 T aX sX, wX9 T aW (aP 0) (aS 0) (aD 0) (aQ 0) sW, wX0 T aK (aP 0) (aS 0) (aB 0) (aC 0) sK, wX10 T aZ (aP 0) (aE 0) (aH 0) sZ, wU T aU sU] sz)) 1 6 (zA [wX5 T aP sP, wX8 T aX sX, wX9 T aW (aP 0) (aS 0) (aD 0) (aQ 0) sW, wX0 T aK (aP 0) (aS 0) (aB 0) (aC 0) sK, wX10 T aZ (aP 0) (aE 0) (aH 0) sZ, wU T aU sU] sz) := by
  refine zMetL hst (D := D) (T := T) (av := [.ref (aO 0), .ref (aU 0)]) (ws := fun T => [wX11 T aO (aP 0) (aX 0) (aL 0) (aW 0) (aV 0) (aF 0) (aK 0) (aZ 0) (aR 0) aN sO, wX5 T aP sP, wX8 T aX sX, wX9 T aW (aP 0) (aS 0) (aD 0) (aQ 0) sW, wX0 T aK (aP 0) (aS 0) (aB 0) (aC 0) sK, wX10 T aZ (aP 0) (aE 0) (aH 0) sZ, wU T aU sU]) (wm := fun T => [wX5 T aP sP, wX8 T aX sX, wX9 T aW (aP 0) (aS 0) (aD 0) (aQ 0) sW, wX0 T aK (aP 0) (aS 0) (aB 0) (aC 0) sK, wX10 T aZ (aP 0) (aE 0) (aH 0) sZ, wU T aU sU]) (lv0 := [(0, .ref (aO 0)), (1, .ref (aU 0))]) [1, 2, 3, 4, 5, 6] (Qc := fun D T A => zQi D k0 [wX5 T aP out.2.1, wX8 T aX out.2.2.1, wX9 T aW (aP 0) (aS 0) (aD 0) (aQ 0) out.2.2.2.1, wX0 T aK (aP 0) (aS 0) (aB 0) (aC 0) out.2.2.2.2.1, wX10 T aZ (aP 0) (aE 0) (aH 0) out.2.2.2.2.2, wU T aU sU2] A) (by decide +kernel) rfl (Nat.le_of_ble_eq_true rfl) rfl (fun C base X Y hT hQ => ?_) base sz
  refine z_aload_n X dL_tell_0 1 rfl ?_
  refine z_iconst (v := (0 : Int32)) X dL_tell_1 rfl ?_
  refine z_aload_n X dL_tell_2 0 rfl ?_
  refine z_tcallVi (st := [.int 0, .ref (aU 0)]) (ws2 := [wX11 (zcT C) aO (aP 0) (aX 0) (aL 0) (aW 0) (aV 0) (aF 0) (aK 0) (aZ 0) (aR 0) aN sO, wX5 (zcT C) aP out.2.1, wX8 (zcT C) aX out.2.2.1, wX9 (zcT C) aW (aP 0) (aS 0) (aD 0) (aQ 0) out.2.2.2.1, wX0 (zcT C) aK (aP 0) (aS 0) (aB 0) (aC 0) out.2.2.2.2.1, wX10 (zcT C) aZ (aP 0) (aE 0) (aH 0) out.2.2.2.2.2, wU (zcT C) aU sU]) X Y (metX11_tell (zcl C) Y.2.2.2.2.1 (zcD C) (zcT C) aO aP aX aL aW aV aF aK aZ aR aS aD aQ aB aC aE aH aN hf) zl_tell zlk_tell dL_tell_3 0 0 12 rfl rfl rfl rfl [0, 1, 2, 3, 4, 5] rfl rfl [1, 2, 3, 4, 5] rfl (by decide) ⟨zsX5, zsX8, zsX9, zsX0, zsX10, trivial⟩ rfl rfl rfl (Nat.le_of_ble_eq_true rfl) rfl rfl ⟨Nat.le_of_ble_eq_true rfl, Nat.le_of_ble_eq_true rfl⟩ ⟨Nat.le_of_ble_eq_true rfl, Nat.le_of_ble_eq_true rfl⟩ (fun E hE => ?_) (fun r hr => ?_)
  · rcases hk with ⟨v, e, -⟩ | ⟨E2, e, hm, rfl⟩
    · exact absurd (e.symm.trans hE) (by simp)
    · have hE2 : E2 = E := Sum.inl.inj (e.symm.trans hE)
      subst hE2
      rcases List.mem_cons.mp hm with h | hm
      · injection h with h1 h2
        subst h1 h2
        refine z_catch X Y hT [] ⟨0, 8, 11, 38⟩ [⟨0, 8, 14, 15⟩] rfl (fun z hz => absurd hz List.not_mem_nil) (by decide) (by decide) zll38 zlc38 (fun q => ?_)
        refine z_astore_n (lv2 := [(2, .ref q), (0, .ref (aO 0)), (1, .ref (aU 0))]) X dL_tell_11 rfl (by decide) rfl ?_
        refine z_iconst (v := (1 : Int32)) X dL_tell_12 rfl ?_
        exact z_iret X hQ dL_tell_13 rfl [1, 2, 3, 4, 5, 6] rfl (Nat.le_of_ble_eq_true rfl) (Nat.le_of_ble_eq_true rfl)
      rcases List.mem_cons.mp hm with h | hm
      · injection h with h1 h2
        subst h1 h2
        refine z_catch X Y hT [⟨0, 8, 11, 38⟩] ⟨0, 8, 14, 15⟩ [] rfl (fun z hz => by
            simp only [List.mem_cons, List.not_mem_nil, or_false] at hz
            subst hz
            · exact ⟨by decide, _, zll38, by decide +kernel, by decide +kernel, by decide +kernel⟩) (by decide) (by decide) zll15 zlc15 (fun q => ?_)
        refine z_astore_n (lv2 := [(2, .ref q), (0, .ref (aO 0)), (1, .ref (aU 0))]) X dL_tell_14 rfl (by decide) rfl ?_
        refine z_iconst (v := (2 : Int32)) X dL_tell_15 rfl ?_
        exact z_iret X hQ dL_tell_16 rfl [1, 2, 3, 4, 5, 6] rfl (Nat.le_of_ble_eq_true rfl) (Nat.le_of_ble_eq_true rfl)
      exact absurd hm List.not_mem_nil
  · rcases hk with ⟨v, e, rfl, rfl⟩ | ⟨E2, e, -⟩
    · have hv : r = v := Sum.inr.inj (hr.symm.trans e)
      subst hv
      clear hr
      refine z_i2l X dL_tell_6 ?_
      refine z_last (ws2 := [wX11 (zcT C) aO (aP 0) (aX 0) (aL 0) (aW 0) (aV 0) (aF 0) (aK 0) (aZ 0) (aR 0) aN sO, wX5 (zcT C) aP out.2.1, wX8 (zcT C) aX out.2.2.1, wX9 (zcT C) aW (aP 0) (aS 0) (aD 0) (aQ 0) out.2.2.2.1, wX0 (zcT C) aK (aP 0) (aS 0) (aB 0) (aC 0) out.2.2.2.2.1, wX10 (zcT C) aZ (aP 0) (aE 0) (aH 0) out.2.2.2.2.2, wU (zcT C) aU (zsb sU 0 (vp_updL (zgb sU 0) ((0 : Int32)).toNatClampNeg ((fun v : Int32 => v.toInt64) r)))]) X 6 0 (by decide) dL_tell_7 rfl rfl (by decide) rfl rfl ?_
      refine z_goto (tgt := 17) X dL_tell_8 (by decide) ?_
      refine z_iconst (v := (0 : Int32)) X dL_tell_17 rfl ?_
      exact z_iret X hQ dL_tell_18 rfl [1, 2, 3, 4, 5, 6] rfl (Nat.le_of_ble_eq_true rfl) (Nat.le_of_ble_eq_true rfl)
    · exact absurd (e.symm.trans hr) (by simp)
theorem zlk_dropRow : Cond.methodLink RL 40 yX11_dropRow ∈ zW := zW_tab (List.mem_of_getElem? (i := 986) (by decide +kernel)) (by decide +kernel)
abbrev rmL_dropRow : Room := { frames := 9, cells := 2, slots := 12, locals := 145 }
theorem metL_dropRow (l : Launch) (hst : l.stackTraces = false) (D : va_G) (T : Nat → ClassId) (aO : Nat → Nat) (aP : Nat → Nat) (aX : Nat → Nat) (aL : Nat → Nat) (aW : Nat → Nat) (aV : Nat → Nat) (aF : Nat → Nat) (aK : Nat → Nat) (aZ : Nat → Nat) (aR : Nat → Nat) (aS : Nat → Nat) (aD : Nat → Nat) (aQ : Nat → Nat) (aB : Nat → Nat) (aC : Nat → Nat) (aE : Nat → Nat) (aH : Nat → Nat) (aN : Nat → Nat) {sO : zSt} {sP : zSt} {sW : zSt} {sK : zSt} {sZ : zSt} {x1 : Int32} {out : (String ⊕ Int32) × zSt × zSt × zSt × zSt} (hf : fX11_dropRow sO sP sW sK sZ x1 = some out) (aU : Nat → Nat) {sU sU2 : zSt} {k0 : Int32} (hk : zWr (fun v : Int32 => v.toInt64) [("java/lang/IndexOutOfBoundsException", 1), ("java/lang/IllegalStateException", 2)] out.1 sU k0 sU2) (base sz : Nat) : Met l yL_dropRow (Cond.codeWith yL_dropRow cL_dropRow 4 (some .int) [(0, 9, 12, 20), (0, 9, 15, 15)] :: zW) rmL_dropRow (zPL D T [.ref (aO 0), .int x1, .ref (aU 0)] [wX11 T aO (aP 0) (aX 0) (aL 0) (aW 0) (aV 0) (aF 0) (aK 0) (aZ 0) (aR 0) aN sO, wX5 T aP sP, wX9 T aW (aP 0) (aS 0) (aD 0) (aQ 0) sW, wX0 T aK (aP 0) (aS 0) (aB 0) (aC 0) sK, wX10 T aZ (aP 0) (aE 0) (aH 0) sZ, wU T aU sU] [wX5 T aP sP, wX9 T aW (aP 0) (aS 0) (aD 0) (aQ 0) sW, wX0 T aK (aP 0) (aS 0) (aB 0) (aC 0) sK, wX10 T aZ (aP 0) (aE 0) (aH 0) sZ, wU T aU sU] base sz) (zQi D k0 [wX5 T aP out.2.1, wX9 T aW (aP 0) (aS 0) (aD 0) (aQ 0) out.2.2.1, wX0 T aK (aP 0) (aS 0) (aB 0) (aC 0) out.2.2.2.1, wX10 T aZ (aP 0) (aE 0) (aH 0) out.2.2.2.2, wU T aU sU2] (zA [wX5 T aP sP, wX9 T aW (aP 0) (aS 0) (aD 0) (aQ 0) sW, wX0 T aK (aP 0) (aS 0) (aB 0) (aC 0) sK, wX10 T aZ (aP 0) (aE 0) (aH 0) sZ, wU T aU sU] sz)) 2 12 (zA [wX5 T aP sP, wX9 T aW (aP 0) (aS 0) (aD 0) (aQ 0) sW, wX0 T aK (aP 0) (aS 0) (aB 0) (aC 0) sK, wX10 T aZ (aP 0) (aE 0) (aH 0) sZ, wU T aU sU] sz) := by
  refine zMetL hst (D := D) (T := T) (av := [.ref (aO 0), .int x1, .ref (aU 0)]) (ws := fun T => [wX11 T aO (aP 0) (aX 0) (aL 0) (aW 0) (aV 0) (aF 0) (aK 0) (aZ 0) (aR 0) aN sO, wX5 T aP sP, wX9 T aW (aP 0) (aS 0) (aD 0) (aQ 0) sW, wX0 T aK (aP 0) (aS 0) (aB 0) (aC 0) sK, wX10 T aZ (aP 0) (aE 0) (aH 0) sZ, wU T aU sU]) (wm := fun T => [wX5 T aP sP, wX9 T aW (aP 0) (aS 0) (aD 0) (aQ 0) sW, wX0 T aK (aP 0) (aS 0) (aB 0) (aC 0) sK, wX10 T aZ (aP 0) (aE 0) (aH 0) sZ, wU T aU sU]) (lv0 := [(0, .ref (aO 0)), (1, .int x1), (2, .ref (aU 0))]) [1, 2, 3, 4, 5] (Qc := fun D T A => zQi D k0 [wX5 T aP out.2.1, wX9 T aW (aP 0) (aS 0) (aD 0) (aQ 0) out.2.2.1, wX0 T aK (aP 0) (aS 0) (aB 0) (aC 0) out.2.2.2.1, wX10 T aZ (aP 0) (aE 0) (aH 0) out.2.2.2.2, wU T aU sU2] A) (by decide +kernel) rfl (Nat.le_of_ble_eq_true rfl) rfl (fun C base X Y hT hQ => ?_) base sz
  refine z_aload_n X dL_dropRow_0 2 rfl ?_
  refine z_iconst (v := (0 : Int32)) X dL_dropRow_1 rfl ?_
  refine z_aload_n X dL_dropRow_2 0 rfl ?_
  refine z_iload_n X dL_dropRow_3 1 rfl ?_
  refine z_tcallVi (st := [.int 0, .ref (aU 0)]) (ws2 := [wX11 (zcT C) aO (aP 0) (aX 0) (aL 0) (aW 0) (aV 0) (aF 0) (aK 0) (aZ 0) (aR 0) aN sO, wX5 (zcT C) aP out.2.1, wX9 (zcT C) aW (aP 0) (aS 0) (aD 0) (aQ 0) out.2.2.1, wX0 (zcT C) aK (aP 0) (aS 0) (aB 0) (aC 0) out.2.2.2.1, wX10 (zcT C) aZ (aP 0) (aE 0) (aH 0) out.2.2.2.2, wU (zcT C) aU sU]) X Y (metX11_dropRow (zcl C) Y.2.2.2.2.1 (zcD C) (zcT C) aO aP aX aL aW aV aF aK aZ aR aS aD aQ aB aC aE aH aN hf) zl_dropRow zlk_dropRow dL_dropRow_4 0 0 12 rfl rfl rfl rfl [0, 1, 2, 3, 4] rfl rfl [1, 2, 3, 4] rfl (by decide) ⟨zsX5, zsX9, zsX0, zsX10, trivial⟩ rfl rfl rfl (Nat.le_of_ble_eq_true rfl) rfl rfl ⟨Nat.le_of_ble_eq_true rfl, Nat.le_of_ble_eq_true rfl⟩ ⟨Nat.le_of_ble_eq_true rfl, Nat.le_of_ble_eq_true rfl⟩ (fun E hE => ?_) (fun r hr => ?_)
  · rcases hk with ⟨v, e, -⟩ | ⟨E2, e, hm, rfl⟩
    · exact absurd (e.symm.trans hE) (by simp)
    · have hE2 : E2 = E := Sum.inl.inj (e.symm.trans hE)
      subst hE2
      rcases List.mem_cons.mp hm with h | hm
      · injection h with h1 h2
        subst h1 h2
        refine z_catch X Y hT [] ⟨0, 9, 12, 20⟩ [⟨0, 9, 15, 15⟩] rfl (fun z hz => absurd hz List.not_mem_nil) (by decide) (by decide) zll20 zlc20 (fun q => ?_)
        refine z_astore_n (lv2 := [(3, .ref q), (0, .ref (aO 0)), (1, .int x1), (2, .ref (aU 0))]) X dL_dropRow_12 rfl (by decide) rfl ?_
        refine z_iconst (v := (1 : Int32)) X dL_dropRow_13 rfl ?_
        exact z_iret X hQ dL_dropRow_14 rfl [1, 2, 3, 4, 5] rfl (Nat.le_of_ble_eq_true rfl) (Nat.le_of_ble_eq_true rfl)
      rcases List.mem_cons.mp hm with h | hm
      · injection h with h1 h2
        subst h1 h2
        refine z_catch X Y hT [⟨0, 9, 12, 20⟩] ⟨0, 9, 15, 15⟩ [] rfl (fun z hz => by
            simp only [List.mem_cons, List.not_mem_nil, or_false] at hz
            subst hz
            · exact ⟨by decide, _, zll20, by decide +kernel, by decide +kernel, by decide +kernel⟩) (by decide) (by decide) zll15 zlc15 (fun q => ?_)
        refine z_astore_n (lv2 := [(3, .ref q), (0, .ref (aO 0)), (1, .int x1), (2, .ref (aU 0))]) X dL_dropRow_15 rfl (by decide) rfl ?_
        refine z_iconst (v := (2 : Int32)) X dL_dropRow_16 rfl ?_
        exact z_iret X hQ dL_dropRow_17 rfl [1, 2, 3, 4, 5] rfl (Nat.le_of_ble_eq_true rfl) (Nat.le_of_ble_eq_true rfl)
      exact absurd hm List.not_mem_nil
  · rcases hk with ⟨v, e, rfl, rfl⟩ | ⟨E2, e, -⟩
    · have hv : r = v := Sum.inr.inj (hr.symm.trans e)
      subst hv
      clear hr
      refine z_i2l X dL_dropRow_7 ?_
      refine z_last (ws2 := [wX11 (zcT C) aO (aP 0) (aX 0) (aL 0) (aW 0) (aV 0) (aF 0) (aK 0) (aZ 0) (aR 0) aN sO, wX5 (zcT C) aP out.2.1, wX9 (zcT C) aW (aP 0) (aS 0) (aD 0) (aQ 0) out.2.2.1, wX0 (zcT C) aK (aP 0) (aS 0) (aB 0) (aC 0) out.2.2.2.1, wX10 (zcT C) aZ (aP 0) (aE 0) (aH 0) out.2.2.2.2, wU (zcT C) aU (zsb sU 0 (vp_updL (zgb sU 0) ((0 : Int32)).toNatClampNeg ((fun v : Int32 => v.toInt64) r)))]) X 5 0 (by decide) dL_dropRow_8 rfl rfl (by decide) rfl rfl ?_
      refine z_goto (tgt := 18) X dL_dropRow_9 (by decide) ?_
      refine z_iconst (v := (0 : Int32)) X dL_dropRow_18 rfl ?_
      exact z_iret X hQ dL_dropRow_19 rfl [1, 2, 3, 4, 5] rfl (Nat.le_of_ble_eq_true rfl) (Nat.le_of_ble_eq_true rfl)
    · exact absurd (e.symm.trans hr) (by simp)
theorem zlk_setNumber : Cond.methodLink RL 44 yX11_setNumber ∈ zW := zW_tab (List.mem_of_getElem? (i := 1008) (by decide +kernel)) (by decide +kernel)
abbrev rmL_setNumber : Room := { frames := 9, cells := 3, slots := 18, locals := 147 }
theorem metL_setNumber (l : Launch) (hst : l.stackTraces = false) (D : va_G) (T : Nat → ClassId) (aO : Nat → Nat) (aP : Nat → Nat) (aX : Nat → Nat) (aL : Nat → Nat) (aW : Nat → Nat) (aV : Nat → Nat) (aF : Nat → Nat) (aK : Nat → Nat) (aZ : Nat → Nat) (aR : Nat → Nat) (aS : Nat → Nat) (aD : Nat → Nat) (aQ : Nat → Nat) (aB : Nat → Nat) (aC : Nat → Nat) (aE : Nat → Nat) (aH : Nat → Nat) (aN : Nat → Nat) {sO : zSt} {sP : zSt} {sW : zSt} {sK : zSt} {sZ : zSt} {x1 : Int32} {x2 : Int32} {out : (String ⊕ Int32) × zSt × zSt × zSt × zSt} (hf : fX11_setNumber sO sP sW sK sZ x1 x2 = some out) (aU : Nat → Nat) {sU sU2 : zSt} {k0 : Int32} (hk : zWr (fun v : Int32 => v.toInt64) [("java/lang/IndexOutOfBoundsException", 1), ("java/lang/IllegalArgumentException", 2), ("java/lang/IllegalStateException", 3)] out.1 sU k0 sU2) (base sz : Nat) : Met l yL_setNumber (Cond.codeWith yL_setNumber cL_setNumber 5 (some .int) [(0, 10, 13, 20), (0, 10, 17, 13), (0, 10, 21, 15)] :: zW) rmL_setNumber (zPL D T [.ref (aO 0), .int x1, .int x2, .ref (aU 0)] [wX11 T aO (aP 0) (aX 0) (aL 0) (aW 0) (aV 0) (aF 0) (aK 0) (aZ 0) (aR 0) aN sO, wX5 T aP sP, wX9 T aW (aP 0) (aS 0) (aD 0) (aQ 0) sW, wX0 T aK (aP 0) (aS 0) (aB 0) (aC 0) sK, wX10 T aZ (aP 0) (aE 0) (aH 0) sZ, wU T aU sU] [wX5 T aP sP, wX9 T aW (aP 0) (aS 0) (aD 0) (aQ 0) sW, wX0 T aK (aP 0) (aS 0) (aB 0) (aC 0) sK, wX10 T aZ (aP 0) (aE 0) (aH 0) sZ, wU T aU sU] base sz) (zQi D k0 [wX5 T aP out.2.1, wX9 T aW (aP 0) (aS 0) (aD 0) (aQ 0) out.2.2.1, wX0 T aK (aP 0) (aS 0) (aB 0) (aC 0) out.2.2.2.1, wX10 T aZ (aP 0) (aE 0) (aH 0) out.2.2.2.2, wU T aU sU2] (zA [wX5 T aP sP, wX9 T aW (aP 0) (aS 0) (aD 0) (aQ 0) sW, wX0 T aK (aP 0) (aS 0) (aB 0) (aC 0) sK, wX10 T aZ (aP 0) (aE 0) (aH 0) sZ, wU T aU sU] sz)) 3 18 (zA [wX5 T aP sP, wX9 T aW (aP 0) (aS 0) (aD 0) (aQ 0) sW, wX0 T aK (aP 0) (aS 0) (aB 0) (aC 0) sK, wX10 T aZ (aP 0) (aE 0) (aH 0) sZ, wU T aU sU] sz) := by
  refine zMetL hst (D := D) (T := T) (av := [.ref (aO 0), .int x1, .int x2, .ref (aU 0)]) (ws := fun T => [wX11 T aO (aP 0) (aX 0) (aL 0) (aW 0) (aV 0) (aF 0) (aK 0) (aZ 0) (aR 0) aN sO, wX5 T aP sP, wX9 T aW (aP 0) (aS 0) (aD 0) (aQ 0) sW, wX0 T aK (aP 0) (aS 0) (aB 0) (aC 0) sK, wX10 T aZ (aP 0) (aE 0) (aH 0) sZ, wU T aU sU]) (wm := fun T => [wX5 T aP sP, wX9 T aW (aP 0) (aS 0) (aD 0) (aQ 0) sW, wX0 T aK (aP 0) (aS 0) (aB 0) (aC 0) sK, wX10 T aZ (aP 0) (aE 0) (aH 0) sZ, wU T aU sU]) (lv0 := [(0, .ref (aO 0)), (1, .int x1), (2, .int x2), (3, .ref (aU 0))]) [1, 2, 3, 4, 5] (Qc := fun D T A => zQi D k0 [wX5 T aP out.2.1, wX9 T aW (aP 0) (aS 0) (aD 0) (aQ 0) out.2.2.1, wX0 T aK (aP 0) (aS 0) (aB 0) (aC 0) out.2.2.2.1, wX10 T aZ (aP 0) (aE 0) (aH 0) out.2.2.2.2, wU T aU sU2] A) (by decide +kernel) rfl (Nat.le_of_ble_eq_true rfl) rfl (fun C base X Y hT hQ => ?_) base sz
  refine z_aload_n X dL_setNumber_0 3 rfl ?_
  refine z_iconst (v := (0 : Int32)) X dL_setNumber_1 rfl ?_
  refine z_aload_n X dL_setNumber_2 0 rfl ?_
  refine z_iload_n X dL_setNumber_3 1 rfl ?_
  refine z_iload_n X dL_setNumber_4 2 rfl ?_
  refine z_tcallVi (st := [.int 0, .ref (aU 0)]) (ws2 := [wX11 (zcT C) aO (aP 0) (aX 0) (aL 0) (aW 0) (aV 0) (aF 0) (aK 0) (aZ 0) (aR 0) aN sO, wX5 (zcT C) aP out.2.1, wX9 (zcT C) aW (aP 0) (aS 0) (aD 0) (aQ 0) out.2.2.1, wX0 (zcT C) aK (aP 0) (aS 0) (aB 0) (aC 0) out.2.2.2.1, wX10 (zcT C) aZ (aP 0) (aE 0) (aH 0) out.2.2.2.2, wU (zcT C) aU sU]) X Y (metX11_setNumber (zcl C) Y.2.2.2.2.1 (zcD C) (zcT C) aO aP aX aL aW aV aF aK aZ aR aS aD aQ aB aC aE aH aN hf) zl_setNumber zlk_setNumber dL_setNumber_5 0 0 12 rfl rfl rfl rfl [0, 1, 2, 3, 4] rfl rfl [1, 2, 3, 4] rfl (by decide) ⟨zsX5, zsX9, zsX0, zsX10, trivial⟩ rfl rfl rfl (Nat.le_of_ble_eq_true rfl) rfl rfl ⟨Nat.le_of_ble_eq_true rfl, Nat.le_of_ble_eq_true rfl⟩ ⟨Nat.le_of_ble_eq_true rfl, Nat.le_of_ble_eq_true rfl⟩ (fun E hE => ?_) (fun r hr => ?_)
  · rcases hk with ⟨v, e, -⟩ | ⟨E2, e, hm, rfl⟩
    · exact absurd (e.symm.trans hE) (by simp)
    · have hE2 : E2 = E := Sum.inl.inj (e.symm.trans hE)
      subst hE2
      rcases List.mem_cons.mp hm with h | hm
      · injection h with h1 h2
        subst h1 h2
        refine z_catch X Y hT [] ⟨0, 10, 13, 20⟩ [⟨0, 10, 17, 13⟩, ⟨0, 10, 21, 15⟩] rfl (fun z hz => absurd hz List.not_mem_nil) (by decide) (by decide) zll20 zlc20 (fun q => ?_)
        refine z_astore (lv2 := [(4, .ref q), (0, .ref (aO 0)), (1, .int x1), (2, .int x2), (3, .ref (aU 0))]) X dL_setNumber_13 (by decide) rfl ?_
        refine z_iconst (v := (1 : Int32)) X dL_setNumber_15 rfl ?_
        exact z_iret X hQ dL_setNumber_16 rfl [1, 2, 3, 4, 5] rfl (Nat.le_of_ble_eq_true rfl) (Nat.le_of_ble_eq_true rfl)
      rcases List.mem_cons.mp hm with h | hm
      · injection h with h1 h2
        subst h1 h2
        refine z_catch X Y hT [⟨0, 10, 13, 20⟩] ⟨0, 10, 17, 13⟩ [⟨0, 10, 21, 15⟩] rfl (fun z hz => by
            simp only [List.mem_cons, List.not_mem_nil, or_false] at hz
            subst hz
            · exact ⟨by decide, _, zll20, by decide +kernel, by decide +kernel, by decide +kernel⟩) (by decide) (by decide) zll13 zlc13 (fun q => ?_)
        refine z_astore (lv2 := [(4, .ref q), (0, .ref (aO 0)), (1, .int x1), (2, .int x2), (3, .ref (aU 0))]) X dL_setNumber_17 (by decide) rfl ?_
        refine z_iconst (v := (2 : Int32)) X dL_setNumber_19 rfl ?_
        exact z_iret X hQ dL_setNumber_20 rfl [1, 2, 3, 4, 5] rfl (Nat.le_of_ble_eq_true rfl) (Nat.le_of_ble_eq_true rfl)
      rcases List.mem_cons.mp hm with h | hm
      · injection h with h1 h2
        subst h1 h2
        refine z_catch X Y hT [⟨0, 10, 13, 20⟩, ⟨0, 10, 17, 13⟩] ⟨0, 10, 21, 15⟩ [] rfl (fun z hz => by
            simp only [List.mem_cons, List.not_mem_nil, or_false] at hz
            rcases hz with rfl | rfl
            · exact ⟨by decide, _, zll20, by decide +kernel, by decide +kernel, by decide +kernel⟩
            · exact ⟨by decide, _, zll13, by decide +kernel, by decide +kernel, by decide +kernel⟩) (by decide) (by decide) zll15 zlc15 (fun q => ?_)
        refine z_astore (lv2 := [(4, .ref q), (0, .ref (aO 0)), (1, .int x1), (2, .int x2), (3, .ref (aU 0))]) X dL_setNumber_21 (by decide) rfl ?_
        refine z_iconst (v := (3 : Int32)) X dL_setNumber_23 rfl ?_
        exact z_iret X hQ dL_setNumber_24 rfl [1, 2, 3, 4, 5] rfl (Nat.le_of_ble_eq_true rfl) (Nat.le_of_ble_eq_true rfl)
      exact absurd hm List.not_mem_nil
  · rcases hk with ⟨v, e, rfl, rfl⟩ | ⟨E2, e, -⟩
    · have hv : r = v := Sum.inr.inj (hr.symm.trans e)
      subst hv
      clear hr
      refine z_i2l X dL_setNumber_8 ?_
      refine z_last (ws2 := [wX11 (zcT C) aO (aP 0) (aX 0) (aL 0) (aW 0) (aV 0) (aF 0) (aK 0) (aZ 0) (aR 0) aN sO, wX5 (zcT C) aP out.2.1, wX9 (zcT C) aW (aP 0) (aS 0) (aD 0) (aQ 0) out.2.2.1, wX0 (zcT C) aK (aP 0) (aS 0) (aB 0) (aC 0) out.2.2.2.1, wX10 (zcT C) aZ (aP 0) (aE 0) (aH 0) out.2.2.2.2, wU (zcT C) aU (zsb sU 0 (vp_updL (zgb sU 0) ((0 : Int32)).toNatClampNeg ((fun v : Int32 => v.toInt64) r)))]) X 5 0 (by decide) dL_setNumber_9 rfl rfl (by decide) rfl rfl ?_
      refine z_goto (tgt := 25) X dL_setNumber_10 (by decide) ?_
      refine z_iconst (v := (0 : Int32)) X dL_setNumber_25 rfl ?_
      exact z_iret X hQ dL_setNumber_26 rfl [1, 2, 3, 4, 5] rfl (Nat.le_of_ble_eq_true rfl) (Nat.le_of_ble_eq_true rfl)
    · exact absurd (e.symm.trans hr) (by simp)
theorem zlk_coefficient : Cond.methodLink RL 47 yX11_coefficient ∈ zW := zW_tab (List.mem_of_getElem? (i := 1018) (by decide +kernel)) (by decide +kernel)
abbrev rmL_coefficient : Room := { frames := 8, cells := 2, slots := 12, locals := 125 }
theorem metL_coefficient (l : Launch) (hst : l.stackTraces = false) (D : va_G) (T : Nat → ClassId) (aO : Nat → Nat) (aP : Nat → Nat) (aX : Nat → Nat) (aL : Nat → Nat) (aW : Nat → Nat) (aV : Nat → Nat) (aF : Nat → Nat) (aK : Nat → Nat) (aZ : Nat → Nat) (aR : Nat → Nat) (aN : Nat → Nat) {sO : zSt} {sP : zSt} {x1 : Int32} {x2 : Int32} {out : (String ⊕ Int32)} (hf : fX11_coefficient sO sP x1 x2 = some out) (aU : Nat → Nat) {sU sU2 : zSt} {k0 : Int32} (hk : zWr (fun v : Int32 => v.toInt64) [("java/lang/IndexOutOfBoundsException", 1)] out sU k0 sU2) (base sz : Nat) : Met l yL_coefficient (Cond.codeWith yL_coefficient cL_coefficient 5 (some .int) [(0, 10, 13, 20)] :: zW) rmL_coefficient (zPL D T [.ref (aO 0), .int x1, .int x2, .ref (aU 0)] [wX11 T aO (aP 0) (aX 0) (aL 0) (aW 0) (aV 0) (aF 0) (aK 0) (aZ 0) (aR 0) aN sO, wX5 T aP sP, wU T aU sU] [wU T aU sU] base sz) (zQi D k0 [wU T aU sU2] (zA [wU T aU sU] sz)) 2 12 (zA [wU T aU sU] sz) := by
  refine zMetL hst (D := D) (T := T) (av := [.ref (aO 0), .int x1, .int x2, .ref (aU 0)]) (ws := fun T => [wX11 T aO (aP 0) (aX 0) (aL 0) (aW 0) (aV 0) (aF 0) (aK 0) (aZ 0) (aR 0) aN sO, wX5 T aP sP, wU T aU sU]) (wm := fun T => [wU T aU sU]) (lv0 := [(0, .ref (aO 0)), (1, .int x1), (2, .int x2), (3, .ref (aU 0))]) [2] (Qc := fun D T A => zQi D k0 [wU T aU sU2] A) (by decide +kernel) rfl (Nat.le_of_ble_eq_true rfl) rfl (fun C base X Y hT hQ => ?_) base sz
  refine z_aload_n X dL_coefficient_0 3 rfl ?_
  refine z_iconst (v := (0 : Int32)) X dL_coefficient_1 rfl ?_
  refine z_aload_n X dL_coefficient_2 0 rfl ?_
  refine z_iload_n X dL_coefficient_3 1 rfl ?_
  refine z_iload_n X dL_coefficient_4 2 rfl ?_
  refine z_tcallVi (st := [.int 0, .ref (aU 0)]) (ws2 := [wX11 (zcT C) aO (aP 0) (aX 0) (aL 0) (aW 0) (aV 0) (aF 0) (aK 0) (aZ 0) (aR 0) aN sO, wX5 (zcT C) aP sP, wU (zcT C) aU sU]) X Y (metX11_coefficient (zcl C) Y.2.2.2.2.1 (zcD C) (zcT C) aO aP aX aL aW aV aF aK aZ aR aN hf) zl_coefficient zlk_coefficient dL_coefficient_5 0 0 12 rfl rfl rfl rfl [0, 1] rfl rfl [] rfl (by decide) trivial rfl rfl rfl (Nat.le_of_ble_eq_true rfl) rfl rfl ⟨Nat.le_of_ble_eq_true rfl, Nat.le_of_ble_eq_true rfl⟩ ⟨Nat.le_of_ble_eq_true rfl, Nat.le_of_ble_eq_true rfl⟩ (fun E hE => ?_) (fun r hr => ?_)
  · rcases hk with ⟨v, e, -⟩ | ⟨E2, e, hm, rfl⟩
    · exact absurd (e.symm.trans hE) (by simp)
    · have hE2 : E2 = E := Sum.inl.inj (e.symm.trans hE)
      subst hE2
      rcases List.mem_cons.mp hm with h | hm
      · injection h with h1 h2
        subst h1 h2
        refine z_catch X Y hT [] ⟨0, 10, 13, 20⟩ [] rfl (fun z hz => absurd hz List.not_mem_nil) (by decide) (by decide) zll20 zlc20 (fun q => ?_)
        refine z_astore (lv2 := [(4, .ref q), (0, .ref (aO 0)), (1, .int x1), (2, .int x2), (3, .ref (aU 0))]) X dL_coefficient_13 (by decide) rfl ?_
        refine z_iconst (v := (1 : Int32)) X dL_coefficient_15 rfl ?_
        exact z_iret X hQ dL_coefficient_16 rfl [2] rfl (Nat.le_of_ble_eq_true rfl) (Nat.le_of_ble_eq_true rfl)
      exact absurd hm List.not_mem_nil
  · rcases hk with ⟨v, e, rfl, rfl⟩ | ⟨E2, e, -⟩
    · have hv : r = v := Sum.inr.inj (hr.symm.trans e)
      subst hv
      clear hr
      refine z_i2l X dL_coefficient_8 ?_
      refine z_last (ws2 := [wX11 (zcT C) aO (aP 0) (aX 0) (aL 0) (aW 0) (aV 0) (aF 0) (aK 0) (aZ 0) (aR 0) aN sO, wX5 (zcT C) aP sP, wU (zcT C) aU (zsb sU 0 (vp_updL (zgb sU 0) ((0 : Int32)).toNatClampNeg ((fun v : Int32 => v.toInt64) r)))]) X 2 0 (by decide) dL_coefficient_9 rfl rfl (by decide) rfl rfl ?_
      refine z_goto (tgt := 17) X dL_coefficient_10 (by decide) ?_
      refine z_iconst (v := (0 : Int32)) X dL_coefficient_17 rfl ?_
      exact z_iret X hQ dL_coefficient_18 rfl [2] rfl (Nat.le_of_ble_eq_true rfl) (Nat.le_of_ble_eq_true rfl)
    · exact absurd (e.symm.trans hr) (by simp)
theorem zlk_relation : Cond.methodLink RL 50 yX11_relation ∈ zW := zW_tab (List.mem_of_getElem? (i := 1026) (by decide +kernel)) (by decide +kernel)
abbrev rmL_relation : Room := { frames := 8, cells := 1, slots := 6, locals := 124 }
theorem metL_relation (l : Launch) (hst : l.stackTraces = false) (D : va_G) (T : Nat → ClassId) (aO : Nat → Nat) (aP : Nat → Nat) (aX : Nat → Nat) (aL : Nat → Nat) (aW : Nat → Nat) (aV : Nat → Nat) (aF : Nat → Nat) (aK : Nat → Nat) (aZ : Nat → Nat) (aR : Nat → Nat) (aN : Nat → Nat) {sO : zSt} {sP : zSt} {x1 : Int32} {out : (String ⊕ Int32)} (hf : fX11_relation sO sP x1 = some out) (aU : Nat → Nat) {sU sU2 : zSt} {k0 : Int32} (hk : zWr (fun v : Int32 => v.toInt64) [("java/lang/IndexOutOfBoundsException", 1)] out sU k0 sU2) (base sz : Nat) : Met l yL_relation (Cond.codeWith yL_relation cL_relation 4 (some .int) [(0, 9, 12, 20)] :: zW) rmL_relation (zPL D T [.ref (aO 0), .int x1, .ref (aU 0)] [wX11 T aO (aP 0) (aX 0) (aL 0) (aW 0) (aV 0) (aF 0) (aK 0) (aZ 0) (aR 0) aN sO, wX5 T aP sP, wU T aU sU] [wU T aU sU] base sz) (zQi D k0 [wU T aU sU2] (zA [wU T aU sU] sz)) 1 6 (zA [wU T aU sU] sz) := by
  refine zMetL hst (D := D) (T := T) (av := [.ref (aO 0), .int x1, .ref (aU 0)]) (ws := fun T => [wX11 T aO (aP 0) (aX 0) (aL 0) (aW 0) (aV 0) (aF 0) (aK 0) (aZ 0) (aR 0) aN sO, wX5 T aP sP, wU T aU sU]) (wm := fun T => [wU T aU sU]) (lv0 := [(0, .ref (aO 0)), (1, .int x1), (2, .ref (aU 0))]) [2] (Qc := fun D T A => zQi D k0 [wU T aU sU2] A) (by decide +kernel) rfl (Nat.le_of_ble_eq_true rfl) rfl (fun C base X Y hT hQ => ?_) base sz
  refine z_aload_n X dL_relation_0 2 rfl ?_
  refine z_iconst (v := (0 : Int32)) X dL_relation_1 rfl ?_
  refine z_aload_n X dL_relation_2 0 rfl ?_
  refine z_iload_n X dL_relation_3 1 rfl ?_
  refine z_tcallVi (st := [.int 0, .ref (aU 0)]) (ws2 := [wX11 (zcT C) aO (aP 0) (aX 0) (aL 0) (aW 0) (aV 0) (aF 0) (aK 0) (aZ 0) (aR 0) aN sO, wX5 (zcT C) aP sP, wU (zcT C) aU sU]) X Y (metX11_relation (zcl C) Y.2.2.2.2.1 (zcD C) (zcT C) aO aP aX aL aW aV aF aK aZ aR aN hf) zl_relation zlk_relation dL_relation_4 0 0 12 rfl rfl rfl rfl [0, 1] rfl rfl [] rfl (by decide) trivial rfl rfl rfl (Nat.le_of_ble_eq_true rfl) rfl rfl ⟨Nat.le_of_ble_eq_true rfl, Nat.le_of_ble_eq_true rfl⟩ ⟨Nat.le_of_ble_eq_true rfl, Nat.le_of_ble_eq_true rfl⟩ (fun E hE => ?_) (fun r hr => ?_)
  · rcases hk with ⟨v, e, -⟩ | ⟨E2, e, hm, rfl⟩
    · exact absurd (e.symm.trans hE) (by simp)
    · have hE2 : E2 = E := Sum.inl.inj (e.symm.trans hE)
      subst hE2
      rcases List.mem_cons.mp hm with h | hm
      · injection h with h1 h2
        subst h1 h2
        refine z_catch X Y hT [] ⟨0, 9, 12, 20⟩ [] rfl (fun z hz => absurd hz List.not_mem_nil) (by decide) (by decide) zll20 zlc20 (fun q => ?_)
        refine z_astore_n (lv2 := [(3, .ref q), (0, .ref (aO 0)), (1, .int x1), (2, .ref (aU 0))]) X dL_relation_12 rfl (by decide) rfl ?_
        refine z_iconst (v := (1 : Int32)) X dL_relation_13 rfl ?_
        exact z_iret X hQ dL_relation_14 rfl [2] rfl (Nat.le_of_ble_eq_true rfl) (Nat.le_of_ble_eq_true rfl)
      exact absurd hm List.not_mem_nil
  · rcases hk with ⟨v, e, rfl, rfl⟩ | ⟨E2, e, -⟩
    · have hv : r = v := Sum.inr.inj (hr.symm.trans e)
      subst hv
      clear hr
      refine z_i2l X dL_relation_7 ?_
      refine z_last (ws2 := [wX11 (zcT C) aO (aP 0) (aX 0) (aL 0) (aW 0) (aV 0) (aF 0) (aK 0) (aZ 0) (aR 0) aN sO, wX5 (zcT C) aP sP, wU (zcT C) aU (zsb sU 0 (vp_updL (zgb sU 0) ((0 : Int32)).toNatClampNeg ((fun v : Int32 => v.toInt64) r)))]) X 2 0 (by decide) dL_relation_8 rfl rfl (by decide) rfl rfl ?_
      refine z_goto (tgt := 15) X dL_relation_9 (by decide) ?_
      refine z_iconst (v := (0 : Int32)) X dL_relation_15 rfl ?_
      exact z_iret X hQ dL_relation_16 rfl [2] rfl (Nat.le_of_ble_eq_true rfl) (Nat.le_of_ble_eq_true rfl)
    · exact absurd (e.symm.trans hr) (by simp)
theorem zlk_lineLength : Cond.methodLink RL 54 yX11_lineLength ∈ zW := zW_tab (List.mem_of_getElem? (i := 1034) (by decide +kernel)) (by decide +kernel)
abbrev rmL_lineLength : Room := { frames := 8, cells := 1, slots := 6, locals := 124 }
theorem metL_lineLength (l : Launch) (hst : l.stackTraces = false) (D : va_G) (T : Nat → ClassId) (aO : Nat → Nat) (aP : Nat → Nat) (aX : Nat → Nat) (aL : Nat → Nat) (aW : Nat → Nat) (aV : Nat → Nat) (aF : Nat → Nat) (aK : Nat → Nat) (aZ : Nat → Nat) (aR : Nat → Nat) (aN : Nat → Nat) {sO : zSt} {sP : zSt} {sL : zSt} {x1 : Int32} {out : (String ⊕ Int32) × zSt} (hf : fX11_lineLength sO sP sL x1 = some out) (aU : Nat → Nat) {sU sU2 : zSt} {k0 : Int32} (hk : zWr (fun v : Int32 => v.toInt64) [("java/lang/IndexOutOfBoundsException", 1)] out.1 sU k0 sU2) (base sz : Nat) : Met l yL_lineLength (Cond.codeWith yL_lineLength cL_lineLength 4 (some .int) [(0, 9, 12, 20)] :: zW) rmL_lineLength (zPL D T [.ref (aO 0), .int x1, .ref (aU 0)] [wX11 T aO (aP 0) (aX 0) (aL 0) (aW 0) (aV 0) (aF 0) (aK 0) (aZ 0) (aR 0) aN sO, wX5 T aP sP, wX3 T aL sL, wU T aU sU] [wX3 T aL sL, wU T aU sU] base sz) (zQi D k0 [wX3 T aL out.2, wU T aU sU2] (zA [wX3 T aL sL, wU T aU sU] sz)) 1 6 (zA [wX3 T aL sL, wU T aU sU] sz) := by
  refine zMetL hst (D := D) (T := T) (av := [.ref (aO 0), .int x1, .ref (aU 0)]) (ws := fun T => [wX11 T aO (aP 0) (aX 0) (aL 0) (aW 0) (aV 0) (aF 0) (aK 0) (aZ 0) (aR 0) aN sO, wX5 T aP sP, wX3 T aL sL, wU T aU sU]) (wm := fun T => [wX3 T aL sL, wU T aU sU]) (lv0 := [(0, .ref (aO 0)), (1, .int x1), (2, .ref (aU 0))]) [2, 3] (Qc := fun D T A => zQi D k0 [wX3 T aL out.2, wU T aU sU2] A) (by decide +kernel) rfl (Nat.le_of_ble_eq_true rfl) rfl (fun C base X Y hT hQ => ?_) base sz
  refine z_aload_n X dL_lineLength_0 2 rfl ?_
  refine z_iconst (v := (0 : Int32)) X dL_lineLength_1 rfl ?_
  refine z_aload_n X dL_lineLength_2 0 rfl ?_
  refine z_iload_n X dL_lineLength_3 1 rfl ?_
  refine z_tcallVi (st := [.int 0, .ref (aU 0)]) (ws2 := [wX11 (zcT C) aO (aP 0) (aX 0) (aL 0) (aW 0) (aV 0) (aF 0) (aK 0) (aZ 0) (aR 0) aN sO, wX5 (zcT C) aP sP, wX3 (zcT C) aL out.2, wU (zcT C) aU sU]) X Y (metX11_lineLength (zcl C) Y.2.2.2.2.1 (zcD C) (zcT C) aO aP aX aL aW aV aF aK aZ aR aN hf) zl_lineLength zlk_lineLength dL_lineLength_4 0 0 12 rfl rfl rfl rfl [0, 1, 2] rfl rfl [2] rfl (by decide) ⟨zsX3, trivial⟩ rfl rfl rfl (Nat.le_of_ble_eq_true rfl) rfl rfl ⟨Nat.le_of_ble_eq_true rfl, Nat.le_of_ble_eq_true rfl⟩ ⟨Nat.le_of_ble_eq_true rfl, Nat.le_of_ble_eq_true rfl⟩ (fun E hE => ?_) (fun r hr => ?_)
  · rcases hk with ⟨v, e, -⟩ | ⟨E2, e, hm, rfl⟩
    · exact absurd (e.symm.trans hE) (by simp)
    · have hE2 : E2 = E := Sum.inl.inj (e.symm.trans hE)
      subst hE2
      rcases List.mem_cons.mp hm with h | hm
      · injection h with h1 h2
        subst h1 h2
        refine z_catch X Y hT [] ⟨0, 9, 12, 20⟩ [] rfl (fun z hz => absurd hz List.not_mem_nil) (by decide) (by decide) zll20 zlc20 (fun q => ?_)
        refine z_astore_n (lv2 := [(3, .ref q), (0, .ref (aO 0)), (1, .int x1), (2, .ref (aU 0))]) X dL_lineLength_12 rfl (by decide) rfl ?_
        refine z_iconst (v := (1 : Int32)) X dL_lineLength_13 rfl ?_
        exact z_iret X hQ dL_lineLength_14 rfl [2, 3] rfl (Nat.le_of_ble_eq_true rfl) (Nat.le_of_ble_eq_true rfl)
      exact absurd hm List.not_mem_nil
  · rcases hk with ⟨v, e, rfl, rfl⟩ | ⟨E2, e, -⟩
    · have hv : r = v := Sum.inr.inj (hr.symm.trans e)
      subst hv
      clear hr
      refine z_i2l X dL_lineLength_7 ?_
      refine z_last (ws2 := [wX11 (zcT C) aO (aP 0) (aX 0) (aL 0) (aW 0) (aV 0) (aF 0) (aK 0) (aZ 0) (aR 0) aN sO, wX5 (zcT C) aP sP, wX3 (zcT C) aL out.2, wU (zcT C) aU (zsb sU 0 (vp_updL (zgb sU 0) ((0 : Int32)).toNatClampNeg ((fun v : Int32 => v.toInt64) r)))]) X 3 0 (by decide) dL_lineLength_8 rfl rfl (by decide) rfl rfl ?_
      refine z_goto (tgt := 15) X dL_lineLength_9 (by decide) ?_
      refine z_iconst (v := (0 : Int32)) X dL_lineLength_15 rfl ?_
      exact z_iret X hQ dL_lineLength_16 rfl [2, 3] rfl (Nat.le_of_ble_eq_true rfl) (Nat.le_of_ble_eq_true rfl)
    · exact absurd (e.symm.trans hr) (by simp)
theorem zlk_lineAt : Cond.methodLink RL 57 yX11_lineAt ∈ zW := zW_tab (List.mem_of_getElem? (i := 1060) (by decide +kernel)) (by decide +kernel)
abbrev rmL_lineAt : Room := { frames := 8, cells := 2, slots := 12, locals := 125 }
theorem metL_lineAt (l : Launch) (hst : l.stackTraces = false) (D : va_G) (T : Nat → ClassId) (aO : Nat → Nat) (aP : Nat → Nat) (aX : Nat → Nat) (aL : Nat → Nat) (aW : Nat → Nat) (aV : Nat → Nat) (aF : Nat → Nat) (aK : Nat → Nat) (aZ : Nat → Nat) (aR : Nat → Nat) (aN : Nat → Nat) {sO : zSt} {sP : zSt} {sL : zSt} {x1 : Int32} {x2 : Int32} {out : (String ⊕ Int32) × zSt} (hf : fX11_lineAt sO sP sL x1 x2 = some out) (aU : Nat → Nat) {sU sU2 : zSt} {k0 : Int32} (hk : zWr (fun v : Int32 => v.toInt64) [("java/lang/IndexOutOfBoundsException", 1)] out.1 sU k0 sU2) (base sz : Nat) : Met l yL_lineAt (Cond.codeWith yL_lineAt cL_lineAt 5 (some .int) [(0, 10, 13, 20)] :: zW) rmL_lineAt (zPL D T [.ref (aO 0), .int x1, .int x2, .ref (aU 0)] [wX11 T aO (aP 0) (aX 0) (aL 0) (aW 0) (aV 0) (aF 0) (aK 0) (aZ 0) (aR 0) aN sO, wX5 T aP sP, wX3 T aL sL, wU T aU sU] [wX3 T aL sL, wU T aU sU] base sz) (zQi D k0 [wX3 T aL out.2, wU T aU sU2] (zA [wX3 T aL sL, wU T aU sU] sz)) 2 12 (zA [wX3 T aL sL, wU T aU sU] sz) := by
  refine zMetL hst (D := D) (T := T) (av := [.ref (aO 0), .int x1, .int x2, .ref (aU 0)]) (ws := fun T => [wX11 T aO (aP 0) (aX 0) (aL 0) (aW 0) (aV 0) (aF 0) (aK 0) (aZ 0) (aR 0) aN sO, wX5 T aP sP, wX3 T aL sL, wU T aU sU]) (wm := fun T => [wX3 T aL sL, wU T aU sU]) (lv0 := [(0, .ref (aO 0)), (1, .int x1), (2, .int x2), (3, .ref (aU 0))]) [2, 3] (Qc := fun D T A => zQi D k0 [wX3 T aL out.2, wU T aU sU2] A) (by decide +kernel) rfl (Nat.le_of_ble_eq_true rfl) rfl (fun C base X Y hT hQ => ?_) base sz
  refine z_aload_n X dL_lineAt_0 3 rfl ?_
  refine z_iconst (v := (0 : Int32)) X dL_lineAt_1 rfl ?_
  refine z_aload_n X dL_lineAt_2 0 rfl ?_
  refine z_iload_n X dL_lineAt_3 1 rfl ?_
  refine z_iload_n X dL_lineAt_4 2 rfl ?_
  refine z_tcallVi (st := [.int 0, .ref (aU 0)]) (ws2 := [wX11 (zcT C) aO (aP 0) (aX 0) (aL 0) (aW 0) (aV 0) (aF 0) (aK 0) (aZ 0) (aR 0) aN sO, wX5 (zcT C) aP sP, wX3 (zcT C) aL out.2, wU (zcT C) aU sU]) X Y (metX11_lineAt (zcl C) Y.2.2.2.2.1 (zcD C) (zcT C) aO aP aX aL aW aV aF aK aZ aR aN hf) zl_lineAt zlk_lineAt dL_lineAt_5 0 0 12 rfl rfl rfl rfl [0, 1, 2] rfl rfl [2] rfl (by decide) ⟨zsX3, trivial⟩ rfl rfl rfl (Nat.le_of_ble_eq_true rfl) rfl rfl ⟨Nat.le_of_ble_eq_true rfl, Nat.le_of_ble_eq_true rfl⟩ ⟨Nat.le_of_ble_eq_true rfl, Nat.le_of_ble_eq_true rfl⟩ (fun E hE => ?_) (fun r hr => ?_)
  · rcases hk with ⟨v, e, -⟩ | ⟨E2, e, hm, rfl⟩
    · exact absurd (e.symm.trans hE) (by simp)
    · have hE2 : E2 = E := Sum.inl.inj (e.symm.trans hE)
      subst hE2
      rcases List.mem_cons.mp hm with h | hm
      · injection h with h1 h2
        subst h1 h2
        refine z_catch X Y hT [] ⟨0, 10, 13, 20⟩ [] rfl (fun z hz => absurd hz List.not_mem_nil) (by decide) (by decide) zll20 zlc20 (fun q => ?_)
        refine z_astore (lv2 := [(4, .ref q), (0, .ref (aO 0)), (1, .int x1), (2, .int x2), (3, .ref (aU 0))]) X dL_lineAt_13 (by decide) rfl ?_
        refine z_iconst (v := (1 : Int32)) X dL_lineAt_15 rfl ?_
        exact z_iret X hQ dL_lineAt_16 rfl [2, 3] rfl (Nat.le_of_ble_eq_true rfl) (Nat.le_of_ble_eq_true rfl)
      exact absurd hm List.not_mem_nil
  · rcases hk with ⟨v, e, rfl, rfl⟩ | ⟨E2, e, -⟩
    · have hv : r = v := Sum.inr.inj (hr.symm.trans e)
      subst hv
      clear hr
      refine z_i2l X dL_lineAt_8 ?_
      refine z_last (ws2 := [wX11 (zcT C) aO (aP 0) (aX 0) (aL 0) (aW 0) (aV 0) (aF 0) (aK 0) (aZ 0) (aR 0) aN sO, wX5 (zcT C) aP sP, wX3 (zcT C) aL out.2, wU (zcT C) aU (zsb sU 0 (vp_updL (zgb sU 0) ((0 : Int32)).toNatClampNeg ((fun v : Int32 => v.toInt64) r)))]) X 3 0 (by decide) dL_lineAt_9 rfl rfl (by decide) rfl rfl ?_
      refine z_goto (tgt := 17) X dL_lineAt_10 (by decide) ?_
      refine z_iconst (v := (0 : Int32)) X dL_lineAt_17 rfl ?_
      exact z_iret X hQ dL_lineAt_18 rfl [2, 3] rfl (Nat.le_of_ble_eq_true rfl) (Nat.le_of_ble_eq_true rfl)
    · exact absurd (e.symm.trans hr) (by simp)
theorem zlk_open : Cond.methodLink RL 61 yX11_open ∈ zW := zW_tab (List.mem_of_getElem? (i := 1072) (by decide +kernel)) (by decide +kernel)
abbrev rmL_open : Room := { frames := 7, cells := 1, slots := 6, locals := 147 }
theorem metL_open (l : Launch) (hst : l.stackTraces = false) (D : va_G) (T : Nat → ClassId) (aO : Nat → Nat) (aP : Nat → Nat) (aX : Nat → Nat) (aL : Nat → Nat) (aW : Nat → Nat) (aV : Nat → Nat) (aF : Nat → Nat) (aK : Nat → Nat) (aZ : Nat → Nat) (aR : Nat → Nat) (aS : Nat → Nat) (aD : Nat → Nat) (aQ : Nat → Nat) (aN : Nat → Nat) {sO : zSt} {sP : zSt} {sW : zSt} {sS : zSt} {sD : zSt} {sQ : zSt} {out : (String ⊕ Int32) × zSt × zSt × zSt × zSt} (hf : fX11_open sO sP sW sS sD sQ = some out) (aU : Nat → Nat) {sU sU2 : zSt} {k0 : Int32} (hk : zWr (fun v : Int32 => v.toInt64) [("java/util/NoSuchElementException", 1)] out.1 sU k0 sU2) (base sz : Nat) : Met l yL_open (Cond.codeWith yL_open cL_open 3 (some .int) [(0, 8, 11, 33)] :: zW) rmL_open (zPL D T [.ref (aO 0), .ref (aU 0)] [wX11 T aO (aP 0) (aX 0) (aL 0) (aW 0) (aV 0) (aF 0) (aK 0) (aZ 0) (aR 0) aN sO, wX5 T aP sP, wX9 T aW (aP 0) (aS 0) (aD 0) (aQ 0) sW, wX7 T aS sS, wX1 T aD sD, wX4 T aQ sQ, wU T aU sU] [wX9 T aW (aP 0) (aS 0) (aD 0) (aQ 0) sW, wX7 T aS sS, wX1 T aD sD, wX4 T aQ sQ, wU T aU sU] base sz) (zQi D k0 [wX9 T aW (aP 0) (aS 0) (aD 0) (aQ 0) out.2.1, wX7 T aS out.2.2.1, wX1 T aD out.2.2.2.1, wX4 T aQ out.2.2.2.2, wU T aU sU2] (zA [wX9 T aW (aP 0) (aS 0) (aD 0) (aQ 0) sW, wX7 T aS sS, wX1 T aD sD, wX4 T aQ sQ, wU T aU sU] sz)) 1 6 (zA [wX9 T aW (aP 0) (aS 0) (aD 0) (aQ 0) sW, wX7 T aS sS, wX1 T aD sD, wX4 T aQ sQ, wU T aU sU] sz) := by
  refine zMetL hst (D := D) (T := T) (av := [.ref (aO 0), .ref (aU 0)]) (ws := fun T => [wX11 T aO (aP 0) (aX 0) (aL 0) (aW 0) (aV 0) (aF 0) (aK 0) (aZ 0) (aR 0) aN sO, wX5 T aP sP, wX9 T aW (aP 0) (aS 0) (aD 0) (aQ 0) sW, wX7 T aS sS, wX1 T aD sD, wX4 T aQ sQ, wU T aU sU]) (wm := fun T => [wX9 T aW (aP 0) (aS 0) (aD 0) (aQ 0) sW, wX7 T aS sS, wX1 T aD sD, wX4 T aQ sQ, wU T aU sU]) (lv0 := [(0, .ref (aO 0)), (1, .ref (aU 0))]) [2, 3, 4, 5, 6] (Qc := fun D T A => zQi D k0 [wX9 T aW (aP 0) (aS 0) (aD 0) (aQ 0) out.2.1, wX7 T aS out.2.2.1, wX1 T aD out.2.2.2.1, wX4 T aQ out.2.2.2.2, wU T aU sU2] A) (by decide +kernel) rfl (Nat.le_of_ble_eq_true rfl) rfl (fun C base X Y hT hQ => ?_) base sz
  refine z_aload_n X dL_open_0 1 rfl ?_
  refine z_iconst (v := (0 : Int32)) X dL_open_1 rfl ?_
  refine z_aload_n X dL_open_2 0 rfl ?_
  refine z_tcallVi (st := [.int 0, .ref (aU 0)]) (ws2 := [wX11 (zcT C) aO (aP 0) (aX 0) (aL 0) (aW 0) (aV 0) (aF 0) (aK 0) (aZ 0) (aR 0) aN sO, wX5 (zcT C) aP sP, wX9 (zcT C) aW (aP 0) (aS 0) (aD 0) (aQ 0) out.2.1, wX7 (zcT C) aS out.2.2.1, wX1 (zcT C) aD out.2.2.2.1, wX4 (zcT C) aQ out.2.2.2.2, wU (zcT C) aU sU]) X Y (metX11_open (zcl C) Y.2.2.2.2.1 (zcD C) (zcT C) aO aP aX aL aW aV aF aK aZ aR aS aD aQ aN hf) zl_open zlk_open dL_open_3 0 0 12 rfl rfl rfl rfl [0, 1, 2, 3, 4, 5] rfl rfl [2, 3, 4, 5] rfl (by decide) ⟨zsX9, zsX7, zsX1, zsX4, trivial⟩ rfl rfl rfl (Nat.le_of_ble_eq_true rfl) rfl rfl ⟨Nat.le_of_ble_eq_true rfl, Nat.le_of_ble_eq_true rfl⟩ ⟨Nat.le_of_ble_eq_true rfl, Nat.le_of_ble_eq_true rfl⟩ (fun E hE => ?_) (fun r hr => ?_)
  · rcases hk with ⟨v, e, -⟩ | ⟨E2, e, hm, rfl⟩
    · exact absurd (e.symm.trans hE) (by simp)
    · have hE2 : E2 = E := Sum.inl.inj (e.symm.trans hE)
      subst hE2
      rcases List.mem_cons.mp hm with h | hm
      · injection h with h1 h2
        subst h1 h2
        refine z_catch X Y hT [] ⟨0, 8, 11, 33⟩ [] rfl (fun z hz => absurd hz List.not_mem_nil) (by decide) (by decide) zll33 zlc33 (fun q => ?_)
        refine z_astore_n (lv2 := [(2, .ref q), (0, .ref (aO 0)), (1, .ref (aU 0))]) X dL_open_11 rfl (by decide) rfl ?_
        refine z_iconst (v := (1 : Int32)) X dL_open_12 rfl ?_
        exact z_iret X hQ dL_open_13 rfl [2, 3, 4, 5, 6] rfl (Nat.le_of_ble_eq_true rfl) (Nat.le_of_ble_eq_true rfl)
      exact absurd hm List.not_mem_nil
  · rcases hk with ⟨v, e, rfl, rfl⟩ | ⟨E2, e, -⟩
    · have hv : r = v := Sum.inr.inj (hr.symm.trans e)
      subst hv
      clear hr
      refine z_i2l X dL_open_6 ?_
      refine z_last (ws2 := [wX11 (zcT C) aO (aP 0) (aX 0) (aL 0) (aW 0) (aV 0) (aF 0) (aK 0) (aZ 0) (aR 0) aN sO, wX5 (zcT C) aP sP, wX9 (zcT C) aW (aP 0) (aS 0) (aD 0) (aQ 0) out.2.1, wX7 (zcT C) aS out.2.2.1, wX1 (zcT C) aD out.2.2.2.1, wX4 (zcT C) aQ out.2.2.2.2, wU (zcT C) aU (zsb sU 0 (vp_updL (zgb sU 0) ((0 : Int32)).toNatClampNeg ((fun v : Int32 => v.toInt64) r)))]) X 6 0 (by decide) dL_open_7 rfl rfl (by decide) rfl rfl ?_
      refine z_goto (tgt := 14) X dL_open_8 (by decide) ?_
      refine z_iconst (v := (0 : Int32)) X dL_open_14 rfl ?_
      exact z_iret X hQ dL_open_15 rfl [2, 3, 4, 5, 6] rfl (Nat.le_of_ble_eq_true rfl) (Nat.le_of_ble_eq_true rfl)
    · exact absurd (e.symm.trans hr) (by simp)
theorem zlk_valueTop : Cond.methodLink RL 64 yX11_valueTop ∈ zW := zW_tab (List.mem_of_getElem? (i := 1080) (by decide +kernel)) (by decide +kernel)
abbrev rmL_valueTop : Room := { frames := 9, cells := 2, slots := 12, locals := 169 }
theorem metL_valueTop (l : Launch) (hst : l.stackTraces = false) (D : va_G) (T : Nat → ClassId) (aO : Nat → Nat) (aP : Nat → Nat) (aX : Nat → Nat) (aL : Nat → Nat) (aW : Nat → Nat) (aV : Nat → Nat) (aF : Nat → Nat) (aK : Nat → Nat) (aZ : Nat → Nat) (aR : Nat → Nat) (aS : Nat → Nat) (aD : Nat → Nat) (aQ : Nat → Nat) (aN : Nat → Nat) {sO : zSt} {sP : zSt} {sW : zSt} {sS : zSt} {sD : zSt} {sQ : zSt} {sR : zSt} {x1 : Int32} {out : (String ⊕ Int64) × zSt × zSt × zSt × zSt × zSt} (hf : fX11_valueTop sO sP sW sS sD sQ sR x1 = some out) (aU : Nat → Nat) {sU sU2 : zSt} {k0 : Int32} (hk : zWr (fun v : Int64 => v) [("java/lang/IndexOutOfBoundsException", 1), ("java/util/NoSuchElementException", 2)] out.1 sU k0 sU2) (base sz : Nat) : Met l yL_valueTop (Cond.codeWith yL_valueTop cL_valueTop 4 (some .int) [(0, 8, 11, 20), (0, 8, 14, 33)] :: zW) rmL_valueTop (zPL D T [.ref (aO 0), .int x1, .ref (aU 0)] [wX11 T aO (aP 0) (aX 0) (aL 0) (aW 0) (aV 0) (aF 0) (aK 0) (aZ 0) (aR 0) aN sO, wX5 T aP sP, wX9 T aW (aP 0) (aS 0) (aD 0) (aQ 0) sW, wX7 T aS sS, wX1 T aD sD, wX4 T aQ sQ, wX2 T aR sR, wU T aU sU] [wX9 T aW (aP 0) (aS 0) (aD 0) (aQ 0) sW, wX7 T aS sS, wX1 T aD sD, wX4 T aQ sQ, wX2 T aR sR, wU T aU sU] base sz) (zQi D k0 [wX9 T aW (aP 0) (aS 0) (aD 0) (aQ 0) out.2.1, wX7 T aS out.2.2.1, wX1 T aD out.2.2.2.1, wX4 T aQ out.2.2.2.2.1, wX2 T aR out.2.2.2.2.2, wU T aU sU2] (zA [wX9 T aW (aP 0) (aS 0) (aD 0) (aQ 0) sW, wX7 T aS sS, wX1 T aD sD, wX4 T aQ sQ, wX2 T aR sR, wU T aU sU] sz)) 2 12 (zA [wX9 T aW (aP 0) (aS 0) (aD 0) (aQ 0) sW, wX7 T aS sS, wX1 T aD sD, wX4 T aQ sQ, wX2 T aR sR, wU T aU sU] sz) := by
  refine zMetL hst (D := D) (T := T) (av := [.ref (aO 0), .int x1, .ref (aU 0)]) (ws := fun T => [wX11 T aO (aP 0) (aX 0) (aL 0) (aW 0) (aV 0) (aF 0) (aK 0) (aZ 0) (aR 0) aN sO, wX5 T aP sP, wX9 T aW (aP 0) (aS 0) (aD 0) (aQ 0) sW, wX7 T aS sS, wX1 T aD sD, wX4 T aQ sQ, wX2 T aR sR, wU T aU sU]) (wm := fun T => [wX9 T aW (aP 0) (aS 0) (aD 0) (aQ 0) sW, wX7 T aS sS, wX1 T aD sD, wX4 T aQ sQ, wX2 T aR sR, wU T aU sU]) (lv0 := [(0, .ref (aO 0)), (1, .int x1), (2, .ref (aU 0))]) [2, 3, 4, 5, 6, 7] (Qc := fun D T A => zQi D k0 [wX9 T aW (aP 0) (aS 0) (aD 0) (aQ 0) out.2.1, wX7 T aS out.2.2.1, wX1 T aD out.2.2.2.1, wX4 T aQ out.2.2.2.2.1, wX2 T aR out.2.2.2.2.2, wU T aU sU2] A) (by decide +kernel) rfl (Nat.le_of_ble_eq_true rfl) rfl (fun C base X Y hT hQ => ?_) base sz
  refine z_aload_n X dL_valueTop_0 2 rfl ?_
  refine z_iconst (v := (0 : Int32)) X dL_valueTop_1 rfl ?_
  refine z_aload_n X dL_valueTop_2 0 rfl ?_
  refine z_iload_n X dL_valueTop_3 1 rfl ?_
  refine z_tcallVl (st := [.int 0, .ref (aU 0)]) (ws2 := [wX11 (zcT C) aO (aP 0) (aX 0) (aL 0) (aW 0) (aV 0) (aF 0) (aK 0) (aZ 0) (aR 0) aN sO, wX5 (zcT C) aP sP, wX9 (zcT C) aW (aP 0) (aS 0) (aD 0) (aQ 0) out.2.1, wX7 (zcT C) aS out.2.2.1, wX1 (zcT C) aD out.2.2.2.1, wX4 (zcT C) aQ out.2.2.2.2.1, wX2 (zcT C) aR out.2.2.2.2.2, wU (zcT C) aU sU]) X Y (metX11_valueTop (zcl C) Y.2.2.2.2.1 (zcD C) (zcT C) aO aP aX aL aW aV aF aK aZ aR aS aD aQ aN hf) zl_valueTop zlk_valueTop dL_valueTop_4 0 0 12 rfl rfl rfl rfl [0, 1, 2, 3, 4, 5, 6] rfl rfl [2, 3, 4, 5, 6] rfl (by decide) ⟨zsX9, zsX7, zsX1, zsX4, zsX2, trivial⟩ rfl rfl rfl (Nat.le_of_ble_eq_true rfl) rfl rfl ⟨Nat.le_of_ble_eq_true rfl, Nat.le_of_ble_eq_true rfl⟩ ⟨Nat.le_of_ble_eq_true rfl, Nat.le_of_ble_eq_true rfl⟩ (fun E hE => ?_) (fun r hr => ?_)
  · rcases hk with ⟨v, e, -⟩ | ⟨E2, e, hm, rfl⟩
    · exact absurd (e.symm.trans hE) (by simp)
    · have hE2 : E2 = E := Sum.inl.inj (e.symm.trans hE)
      subst hE2
      rcases List.mem_cons.mp hm with h | hm
      · injection h with h1 h2
        subst h1 h2
        refine z_catch X Y hT [] ⟨0, 8, 11, 20⟩ [⟨0, 8, 14, 33⟩] rfl (fun z hz => absurd hz List.not_mem_nil) (by decide) (by decide) zll20 zlc20 (fun q => ?_)
        refine z_astore_n (lv2 := [(3, .ref q), (0, .ref (aO 0)), (1, .int x1), (2, .ref (aU 0))]) X dL_valueTop_11 rfl (by decide) rfl ?_
        refine z_iconst (v := (1 : Int32)) X dL_valueTop_12 rfl ?_
        exact z_iret X hQ dL_valueTop_13 rfl [2, 3, 4, 5, 6, 7] rfl (Nat.le_of_ble_eq_true rfl) (Nat.le_of_ble_eq_true rfl)
      rcases List.mem_cons.mp hm with h | hm
      · injection h with h1 h2
        subst h1 h2
        refine z_catch X Y hT [⟨0, 8, 11, 20⟩] ⟨0, 8, 14, 33⟩ [] rfl (fun z hz => by
            simp only [List.mem_cons, List.not_mem_nil, or_false] at hz
            subst hz
            · exact ⟨by decide, _, zll20, by decide +kernel, by decide +kernel, by decide +kernel⟩) (by decide) (by decide) zll33 zlc33 (fun q => ?_)
        refine z_astore_n (lv2 := [(3, .ref q), (0, .ref (aO 0)), (1, .int x1), (2, .ref (aU 0))]) X dL_valueTop_14 rfl (by decide) rfl ?_
        refine z_iconst (v := (2 : Int32)) X dL_valueTop_15 rfl ?_
        exact z_iret X hQ dL_valueTop_16 rfl [2, 3, 4, 5, 6, 7] rfl (Nat.le_of_ble_eq_true rfl) (Nat.le_of_ble_eq_true rfl)
      exact absurd hm List.not_mem_nil
  · rcases hk with ⟨v, e, rfl, rfl⟩ | ⟨E2, e, -⟩
    · have hv : r = v := Sum.inr.inj (hr.symm.trans e)
      subst hv
      clear hr
      refine z_last (ws2 := [wX11 (zcT C) aO (aP 0) (aX 0) (aL 0) (aW 0) (aV 0) (aF 0) (aK 0) (aZ 0) (aR 0) aN sO, wX5 (zcT C) aP sP, wX9 (zcT C) aW (aP 0) (aS 0) (aD 0) (aQ 0) out.2.1, wX7 (zcT C) aS out.2.2.1, wX1 (zcT C) aD out.2.2.2.1, wX4 (zcT C) aQ out.2.2.2.2.1, wX2 (zcT C) aR out.2.2.2.2.2, wU (zcT C) aU (zsb sU 0 (vp_updL (zgb sU 0) ((0 : Int32)).toNatClampNeg ((fun v : Int64 => v) r)))]) X 7 0 (by decide) dL_valueTop_7 rfl rfl (by decide) rfl rfl ?_
      refine z_goto (tgt := 17) X dL_valueTop_8 (by decide) ?_
      refine z_iconst (v := (0 : Int32)) X dL_valueTop_17 rfl ?_
      exact z_iret X hQ dL_valueTop_18 rfl [2, 3, 4, 5, 6, 7] rfl (Nat.le_of_ble_eq_true rfl) (Nat.le_of_ble_eq_true rfl)
    · exact absurd (e.symm.trans hr) (by simp)
theorem zlk_valueBottom : Cond.methodLink RL 68 yX11_valueBottom ∈ zW := zW_tab (List.mem_of_getElem? (i := 1109) (by decide +kernel)) (by decide +kernel)
abbrev rmL_valueBottom : Room := { frames := 9, cells := 2, slots := 12, locals := 169 }
theorem metL_valueBottom (l : Launch) (hst : l.stackTraces = false) (D : va_G) (T : Nat → ClassId) (aO : Nat → Nat) (aP : Nat → Nat) (aX : Nat → Nat) (aL : Nat → Nat) (aW : Nat → Nat) (aV : Nat → Nat) (aF : Nat → Nat) (aK : Nat → Nat) (aZ : Nat → Nat) (aR : Nat → Nat) (aS : Nat → Nat) (aD : Nat → Nat) (aQ : Nat → Nat) (aN : Nat → Nat) {sO : zSt} {sP : zSt} {sW : zSt} {sS : zSt} {sD : zSt} {sQ : zSt} {sR : zSt} {x1 : Int32} {out : (String ⊕ Int64) × zSt × zSt × zSt × zSt × zSt} (hf : fX11_valueBottom sO sP sW sS sD sQ sR x1 = some out) (aU : Nat → Nat) {sU sU2 : zSt} {k0 : Int32} (hk : zWr (fun v : Int64 => v) [("java/lang/IndexOutOfBoundsException", 1), ("java/util/NoSuchElementException", 2)] out.1 sU k0 sU2) (base sz : Nat) : Met l yL_valueBottom (Cond.codeWith yL_valueBottom cL_valueBottom 4 (some .int) [(0, 8, 11, 20), (0, 8, 14, 33)] :: zW) rmL_valueBottom (zPL D T [.ref (aO 0), .int x1, .ref (aU 0)] [wX11 T aO (aP 0) (aX 0) (aL 0) (aW 0) (aV 0) (aF 0) (aK 0) (aZ 0) (aR 0) aN sO, wX5 T aP sP, wX9 T aW (aP 0) (aS 0) (aD 0) (aQ 0) sW, wX7 T aS sS, wX1 T aD sD, wX4 T aQ sQ, wX2 T aR sR, wU T aU sU] [wX9 T aW (aP 0) (aS 0) (aD 0) (aQ 0) sW, wX7 T aS sS, wX1 T aD sD, wX4 T aQ sQ, wX2 T aR sR, wU T aU sU] base sz) (zQi D k0 [wX9 T aW (aP 0) (aS 0) (aD 0) (aQ 0) out.2.1, wX7 T aS out.2.2.1, wX1 T aD out.2.2.2.1, wX4 T aQ out.2.2.2.2.1, wX2 T aR out.2.2.2.2.2, wU T aU sU2] (zA [wX9 T aW (aP 0) (aS 0) (aD 0) (aQ 0) sW, wX7 T aS sS, wX1 T aD sD, wX4 T aQ sQ, wX2 T aR sR, wU T aU sU] sz)) 2 12 (zA [wX9 T aW (aP 0) (aS 0) (aD 0) (aQ 0) sW, wX7 T aS sS, wX1 T aD sD, wX4 T aQ sQ, wX2 T aR sR, wU T aU sU] sz) := by
  refine zMetL hst (D := D) (T := T) (av := [.ref (aO 0), .int x1, .ref (aU 0)]) (ws := fun T => [wX11 T aO (aP 0) (aX 0) (aL 0) (aW 0) (aV 0) (aF 0) (aK 0) (aZ 0) (aR 0) aN sO, wX5 T aP sP, wX9 T aW (aP 0) (aS 0) (aD 0) (aQ 0) sW, wX7 T aS sS, wX1 T aD sD, wX4 T aQ sQ, wX2 T aR sR, wU T aU sU]) (wm := fun T => [wX9 T aW (aP 0) (aS 0) (aD 0) (aQ 0) sW, wX7 T aS sS, wX1 T aD sD, wX4 T aQ sQ, wX2 T aR sR, wU T aU sU]) (lv0 := [(0, .ref (aO 0)), (1, .int x1), (2, .ref (aU 0))]) [2, 3, 4, 5, 6, 7] (Qc := fun D T A => zQi D k0 [wX9 T aW (aP 0) (aS 0) (aD 0) (aQ 0) out.2.1, wX7 T aS out.2.2.1, wX1 T aD out.2.2.2.1, wX4 T aQ out.2.2.2.2.1, wX2 T aR out.2.2.2.2.2, wU T aU sU2] A) (by decide +kernel) rfl (Nat.le_of_ble_eq_true rfl) rfl (fun C base X Y hT hQ => ?_) base sz
  refine z_aload_n X dL_valueBottom_0 2 rfl ?_
  refine z_iconst (v := (0 : Int32)) X dL_valueBottom_1 rfl ?_
  refine z_aload_n X dL_valueBottom_2 0 rfl ?_
  refine z_iload_n X dL_valueBottom_3 1 rfl ?_
  refine z_tcallVl (st := [.int 0, .ref (aU 0)]) (ws2 := [wX11 (zcT C) aO (aP 0) (aX 0) (aL 0) (aW 0) (aV 0) (aF 0) (aK 0) (aZ 0) (aR 0) aN sO, wX5 (zcT C) aP sP, wX9 (zcT C) aW (aP 0) (aS 0) (aD 0) (aQ 0) out.2.1, wX7 (zcT C) aS out.2.2.1, wX1 (zcT C) aD out.2.2.2.1, wX4 (zcT C) aQ out.2.2.2.2.1, wX2 (zcT C) aR out.2.2.2.2.2, wU (zcT C) aU sU]) X Y (metX11_valueBottom (zcl C) Y.2.2.2.2.1 (zcD C) (zcT C) aO aP aX aL aW aV aF aK aZ aR aS aD aQ aN hf) zl_valueBottom zlk_valueBottom dL_valueBottom_4 0 0 12 rfl rfl rfl rfl [0, 1, 2, 3, 4, 5, 6] rfl rfl [2, 3, 4, 5, 6] rfl (by decide) ⟨zsX9, zsX7, zsX1, zsX4, zsX2, trivial⟩ rfl rfl rfl (Nat.le_of_ble_eq_true rfl) rfl rfl ⟨Nat.le_of_ble_eq_true rfl, Nat.le_of_ble_eq_true rfl⟩ ⟨Nat.le_of_ble_eq_true rfl, Nat.le_of_ble_eq_true rfl⟩ (fun E hE => ?_) (fun r hr => ?_)
  · rcases hk with ⟨v, e, -⟩ | ⟨E2, e, hm, rfl⟩
    · exact absurd (e.symm.trans hE) (by simp)
    · have hE2 : E2 = E := Sum.inl.inj (e.symm.trans hE)
      subst hE2
      rcases List.mem_cons.mp hm with h | hm
      · injection h with h1 h2
        subst h1 h2
        refine z_catch X Y hT [] ⟨0, 8, 11, 20⟩ [⟨0, 8, 14, 33⟩] rfl (fun z hz => absurd hz List.not_mem_nil) (by decide) (by decide) zll20 zlc20 (fun q => ?_)
        refine z_astore_n (lv2 := [(3, .ref q), (0, .ref (aO 0)), (1, .int x1), (2, .ref (aU 0))]) X dL_valueBottom_11 rfl (by decide) rfl ?_
        refine z_iconst (v := (1 : Int32)) X dL_valueBottom_12 rfl ?_
        exact z_iret X hQ dL_valueBottom_13 rfl [2, 3, 4, 5, 6, 7] rfl (Nat.le_of_ble_eq_true rfl) (Nat.le_of_ble_eq_true rfl)
      rcases List.mem_cons.mp hm with h | hm
      · injection h with h1 h2
        subst h1 h2
        refine z_catch X Y hT [⟨0, 8, 11, 20⟩] ⟨0, 8, 14, 33⟩ [] rfl (fun z hz => by
            simp only [List.mem_cons, List.not_mem_nil, or_false] at hz
            subst hz
            · exact ⟨by decide, _, zll20, by decide +kernel, by decide +kernel, by decide +kernel⟩) (by decide) (by decide) zll33 zlc33 (fun q => ?_)
        refine z_astore_n (lv2 := [(3, .ref q), (0, .ref (aO 0)), (1, .int x1), (2, .ref (aU 0))]) X dL_valueBottom_14 rfl (by decide) rfl ?_
        refine z_iconst (v := (2 : Int32)) X dL_valueBottom_15 rfl ?_
        exact z_iret X hQ dL_valueBottom_16 rfl [2, 3, 4, 5, 6, 7] rfl (Nat.le_of_ble_eq_true rfl) (Nat.le_of_ble_eq_true rfl)
      exact absurd hm List.not_mem_nil
  · rcases hk with ⟨v, e, rfl, rfl⟩ | ⟨E2, e, -⟩
    · have hv : r = v := Sum.inr.inj (hr.symm.trans e)
      subst hv
      clear hr
      refine z_last (ws2 := [wX11 (zcT C) aO (aP 0) (aX 0) (aL 0) (aW 0) (aV 0) (aF 0) (aK 0) (aZ 0) (aR 0) aN sO, wX5 (zcT C) aP sP, wX9 (zcT C) aW (aP 0) (aS 0) (aD 0) (aQ 0) out.2.1, wX7 (zcT C) aS out.2.2.1, wX1 (zcT C) aD out.2.2.2.1, wX4 (zcT C) aQ out.2.2.2.2.1, wX2 (zcT C) aR out.2.2.2.2.2, wU (zcT C) aU (zsb sU 0 (vp_updL (zgb sU 0) ((0 : Int32)).toNatClampNeg ((fun v : Int64 => v) r)))]) X 7 0 (by decide) dL_valueBottom_7 rfl rfl (by decide) rfl rfl ?_
      refine z_goto (tgt := 17) X dL_valueBottom_8 (by decide) ?_
      refine z_iconst (v := (0 : Int32)) X dL_valueBottom_17 rfl ?_
      exact z_iret X hQ dL_valueBottom_18 rfl [2, 3, 4, 5, 6, 7] rfl (Nat.le_of_ble_eq_true rfl) (Nat.le_of_ble_eq_true rfl)
    · exact absurd (e.symm.trans hr) (by simp)
theorem zlk_topByPoints : Cond.methodLink RL 71 yX11_topByPoints ∈ zW := zW_tab (List.mem_of_getElem? (i := 1116) (by decide +kernel)) (by decide +kernel)
abbrev rmL_topByPoints : Room := { frames := 8, cells := 2, slots := 12, locals := 177 }
theorem metL_topByPoints (l : Launch) (hst : l.stackTraces = false) (D : va_G) (T : Nat → ClassId) (aO : Nat → Nat) (aP : Nat → Nat) (aX : Nat → Nat) (aL : Nat → Nat) (aW : Nat → Nat) (aV : Nat → Nat) (aF : Nat → Nat) (aK : Nat → Nat) (aZ : Nat → Nat) (aR : Nat → Nat) (aS : Nat → Nat) (aD : Nat → Nat) (aQ : Nat → Nat) (aB : Nat → Nat) (aC : Nat → Nat) (aN : Nat → Nat) {sO : zSt} {sP : zSt} {sW : zSt} {sS : zSt} {sD : zSt} {sQ : zSt} {sK : zSt} {sB : zSt} {sC : zSt} {sR : zSt} {x1 : Int32} {out : (String ⊕ Int64) × zSt × zSt × zSt × zSt × zSt × zSt × zSt × zSt} (hf : fX11_topByPoints sO sP sW sS sD sQ sK sB sC sR x1 = some out) (aU : Nat → Nat) {sU sU2 : zSt} {k0 : Int32} (hk : zWr (fun v : Int64 => v) [("java/lang/IndexOutOfBoundsException", 1), ("java/util/NoSuchElementException", 2)] out.1 sU k0 sU2) (base sz : Nat) : Met l yL_topByPoints (Cond.codeWith yL_topByPoints cL_topByPoints 4 (some .int) [(0, 8, 11, 20), (0, 8, 14, 33)] :: zW) rmL_topByPoints (zPL D T [.ref (aO 0), .int x1, .ref (aU 0)] [wX11 T aO (aP 0) (aX 0) (aL 0) (aW 0) (aV 0) (aF 0) (aK 0) (aZ 0) (aR 0) aN sO, wX5 T aP sP, wX9 T aW (aP 0) (aS 0) (aD 0) (aQ 0) sW, wX7 T aS sS, wX1 T aD sD, wX4 T aQ sQ, wX0 T aK (aP 0) (aS 0) (aB 0) (aC 0) sK, wX4 T aB sB, wX4 T aC sC, wX2 T aR sR, wU T aU sU] [wX9 T aW (aP 0) (aS 0) (aD 0) (aQ 0) sW, wX7 T aS sS, wX1 T aD sD, wX4 T aQ sQ, wX0 T aK (aP 0) (aS 0) (aB 0) (aC 0) sK, wX4 T aB sB, wX4 T aC sC, wX2 T aR sR, wU T aU sU] base sz) (zQi D k0 [wX9 T aW (aP 0) (aS 0) (aD 0) (aQ 0) out.2.1, wX7 T aS out.2.2.1, wX1 T aD out.2.2.2.1, wX4 T aQ out.2.2.2.2.1, wX0 T aK (aP 0) (aS 0) (aB 0) (aC 0) out.2.2.2.2.2.1, wX4 T aB out.2.2.2.2.2.2.1, wX4 T aC out.2.2.2.2.2.2.2.1, wX2 T aR out.2.2.2.2.2.2.2.2, wU T aU sU2] (zA [wX9 T aW (aP 0) (aS 0) (aD 0) (aQ 0) sW, wX7 T aS sS, wX1 T aD sD, wX4 T aQ sQ, wX0 T aK (aP 0) (aS 0) (aB 0) (aC 0) sK, wX4 T aB sB, wX4 T aC sC, wX2 T aR sR, wU T aU sU] sz)) 2 12 (zA [wX9 T aW (aP 0) (aS 0) (aD 0) (aQ 0) sW, wX7 T aS sS, wX1 T aD sD, wX4 T aQ sQ, wX0 T aK (aP 0) (aS 0) (aB 0) (aC 0) sK, wX4 T aB sB, wX4 T aC sC, wX2 T aR sR, wU T aU sU] sz) := by
  refine zMetL hst (D := D) (T := T) (av := [.ref (aO 0), .int x1, .ref (aU 0)]) (ws := fun T => [wX11 T aO (aP 0) (aX 0) (aL 0) (aW 0) (aV 0) (aF 0) (aK 0) (aZ 0) (aR 0) aN sO, wX5 T aP sP, wX9 T aW (aP 0) (aS 0) (aD 0) (aQ 0) sW, wX7 T aS sS, wX1 T aD sD, wX4 T aQ sQ, wX0 T aK (aP 0) (aS 0) (aB 0) (aC 0) sK, wX4 T aB sB, wX4 T aC sC, wX2 T aR sR, wU T aU sU]) (wm := fun T => [wX9 T aW (aP 0) (aS 0) (aD 0) (aQ 0) sW, wX7 T aS sS, wX1 T aD sD, wX4 T aQ sQ, wX0 T aK (aP 0) (aS 0) (aB 0) (aC 0) sK, wX4 T aB sB, wX4 T aC sC, wX2 T aR sR, wU T aU sU]) (lv0 := [(0, .ref (aO 0)), (1, .int x1), (2, .ref (aU 0))]) [2, 3, 4, 5, 6, 7, 8, 9, 10] (Qc := fun D T A => zQi D k0 [wX9 T aW (aP 0) (aS 0) (aD 0) (aQ 0) out.2.1, wX7 T aS out.2.2.1, wX1 T aD out.2.2.2.1, wX4 T aQ out.2.2.2.2.1, wX0 T aK (aP 0) (aS 0) (aB 0) (aC 0) out.2.2.2.2.2.1, wX4 T aB out.2.2.2.2.2.2.1, wX4 T aC out.2.2.2.2.2.2.2.1, wX2 T aR out.2.2.2.2.2.2.2.2, wU T aU sU2] A) (by decide +kernel) rfl (Nat.le_of_ble_eq_true rfl) rfl (fun C base X Y hT hQ => ?_) base sz
  refine z_aload_n X dL_topByPoints_0 2 rfl ?_
  refine z_iconst (v := (0 : Int32)) X dL_topByPoints_1 rfl ?_
  refine z_aload_n X dL_topByPoints_2 0 rfl ?_
  refine z_iload_n X dL_topByPoints_3 1 rfl ?_
  refine z_tcallVl (st := [.int 0, .ref (aU 0)]) (ws2 := [wX11 (zcT C) aO (aP 0) (aX 0) (aL 0) (aW 0) (aV 0) (aF 0) (aK 0) (aZ 0) (aR 0) aN sO, wX5 (zcT C) aP sP, wX9 (zcT C) aW (aP 0) (aS 0) (aD 0) (aQ 0) out.2.1, wX7 (zcT C) aS out.2.2.1, wX1 (zcT C) aD out.2.2.2.1, wX4 (zcT C) aQ out.2.2.2.2.1, wX0 (zcT C) aK (aP 0) (aS 0) (aB 0) (aC 0) out.2.2.2.2.2.1, wX4 (zcT C) aB out.2.2.2.2.2.2.1, wX4 (zcT C) aC out.2.2.2.2.2.2.2.1, wX2 (zcT C) aR out.2.2.2.2.2.2.2.2, wU (zcT C) aU sU]) X Y (metX11_topByPoints (zcl C) Y.2.2.2.2.1 (zcD C) (zcT C) aO aP aX aL aW aV aF aK aZ aR aS aD aQ aB aC aN hf) zl_topByPoints zlk_topByPoints dL_topByPoints_4 0 0 12 rfl rfl rfl rfl [0, 1, 2, 3, 4, 5, 6, 7, 8, 9] rfl rfl [2, 3, 4, 5, 6, 7, 8, 9] rfl (by decide) ⟨zsX9, zsX7, zsX1, zsX4, zsX0, zsX4, zsX4, zsX2, trivial⟩ rfl rfl rfl (Nat.le_of_ble_eq_true rfl) rfl rfl ⟨Nat.le_of_ble_eq_true rfl, Nat.le_of_ble_eq_true rfl⟩ ⟨Nat.le_of_ble_eq_true rfl, Nat.le_of_ble_eq_true rfl⟩ (fun E hE => ?_) (fun r hr => ?_)
  · rcases hk with ⟨v, e, -⟩ | ⟨E2, e, hm, rfl⟩
    · exact absurd (e.symm.trans hE) (by simp)
    · have hE2 : E2 = E := Sum.inl.inj (e.symm.trans hE)
      subst hE2
      rcases List.mem_cons.mp hm with h | hm
      · injection h with h1 h2
        subst h1 h2
        refine z_catch X Y hT [] ⟨0, 8, 11, 20⟩ [⟨0, 8, 14, 33⟩] rfl (fun z hz => absurd hz List.not_mem_nil) (by decide) (by decide) zll20 zlc20 (fun q => ?_)
        refine z_astore_n (lv2 := [(3, .ref q), (0, .ref (aO 0)), (1, .int x1), (2, .ref (aU 0))]) X dL_topByPoints_11 rfl (by decide) rfl ?_
        refine z_iconst (v := (1 : Int32)) X dL_topByPoints_12 rfl ?_
        exact z_iret X hQ dL_topByPoints_13 rfl [2, 3, 4, 5, 6, 7, 8, 9, 10] rfl (Nat.le_of_ble_eq_true rfl) (Nat.le_of_ble_eq_true rfl)
      rcases List.mem_cons.mp hm with h | hm
      · injection h with h1 h2
        subst h1 h2
        refine z_catch X Y hT [⟨0, 8, 11, 20⟩] ⟨0, 8, 14, 33⟩ [] rfl (fun z hz => by
            simp only [List.mem_cons, List.not_mem_nil, or_false] at hz
            subst hz
            · exact ⟨by decide, _, zll20, by decide +kernel, by decide +kernel, by decide +kernel⟩) (by decide) (by decide) zll33 zlc33 (fun q => ?_)
        refine z_astore_n (lv2 := [(3, .ref q), (0, .ref (aO 0)), (1, .int x1), (2, .ref (aU 0))]) X dL_topByPoints_14 rfl (by decide) rfl ?_
        refine z_iconst (v := (2 : Int32)) X dL_topByPoints_15 rfl ?_
        exact z_iret X hQ dL_topByPoints_16 rfl [2, 3, 4, 5, 6, 7, 8, 9, 10] rfl (Nat.le_of_ble_eq_true rfl) (Nat.le_of_ble_eq_true rfl)
      exact absurd hm List.not_mem_nil
  · rcases hk with ⟨v, e, rfl, rfl⟩ | ⟨E2, e, -⟩
    · have hv : r = v := Sum.inr.inj (hr.symm.trans e)
      subst hv
      clear hr
      refine z_last (ws2 := [wX11 (zcT C) aO (aP 0) (aX 0) (aL 0) (aW 0) (aV 0) (aF 0) (aK 0) (aZ 0) (aR 0) aN sO, wX5 (zcT C) aP sP, wX9 (zcT C) aW (aP 0) (aS 0) (aD 0) (aQ 0) out.2.1, wX7 (zcT C) aS out.2.2.1, wX1 (zcT C) aD out.2.2.2.1, wX4 (zcT C) aQ out.2.2.2.2.1, wX0 (zcT C) aK (aP 0) (aS 0) (aB 0) (aC 0) out.2.2.2.2.2.1, wX4 (zcT C) aB out.2.2.2.2.2.2.1, wX4 (zcT C) aC out.2.2.2.2.2.2.2.1, wX2 (zcT C) aR out.2.2.2.2.2.2.2.2, wU (zcT C) aU (zsb sU 0 (vp_updL (zgb sU 0) ((0 : Int32)).toNatClampNeg ((fun v : Int64 => v) r)))]) X 10 0 (by decide) dL_topByPoints_7 rfl rfl (by decide) rfl rfl ?_
      refine z_goto (tgt := 17) X dL_topByPoints_8 (by decide) ?_
      refine z_iconst (v := (0 : Int32)) X dL_topByPoints_17 rfl ?_
      exact z_iret X hQ dL_topByPoints_18 rfl [2, 3, 4, 5, 6, 7, 8, 9, 10] rfl (Nat.le_of_ble_eq_true rfl) (Nat.le_of_ble_eq_true rfl)
    · exact absurd (e.symm.trans hr) (by simp)
theorem zlk_pointTop : Cond.methodLink RL 74 yX11_pointTop ∈ zW := zW_tab (List.mem_of_getElem? (i := 1167) (by decide +kernel)) (by decide +kernel)
abbrev rmL_pointTop : Room := { frames := 9, cells := 2, slots := 12, locals := 189 }
theorem metL_pointTop (l : Launch) (hst : l.stackTraces = false) (D : va_G) (T : Nat → ClassId) (aO : Nat → Nat) (aP : Nat → Nat) (aX : Nat → Nat) (aL : Nat → Nat) (aW : Nat → Nat) (aV : Nat → Nat) (aF : Nat → Nat) (aK : Nat → Nat) (aZ : Nat → Nat) (aR : Nat → Nat) (aS : Nat → Nat) (aD : Nat → Nat) (aQ : Nat → Nat) (aN : Nat → Nat) {sO : zSt} {sP : zSt} {sW : zSt} {sS : zSt} {sD : zSt} {sQ : zSt} {sR : zSt} {x1 : Int32} {out : (String ⊕ Int64) × zSt × zSt × zSt × zSt × zSt} (hf : fX11_pointTop sO sP sW sS sD sQ sR x1 = some out) (aU : Nat → Nat) {sU sU2 : zSt} {k0 : Int32} (hk : zWr (fun v : Int64 => v) [("java/lang/IndexOutOfBoundsException", 1), ("java/util/NoSuchElementException", 2)] out.1 sU k0 sU2) (base sz : Nat) : Met l yL_pointTop (Cond.codeWith yL_pointTop cL_pointTop 4 (some .int) [(0, 8, 11, 20), (0, 8, 14, 33)] :: zW) rmL_pointTop (zPL D T [.ref (aO 0), .int x1, .ref (aU 0)] [wX11 T aO (aP 0) (aX 0) (aL 0) (aW 0) (aV 0) (aF 0) (aK 0) (aZ 0) (aR 0) aN sO, wX5 T aP sP, wX9 T aW (aP 0) (aS 0) (aD 0) (aQ 0) sW, wX7 T aS sS, wX1 T aD sD, wX4 T aQ sQ, wX2 T aR sR, wU T aU sU] [wX9 T aW (aP 0) (aS 0) (aD 0) (aQ 0) sW, wX7 T aS sS, wX1 T aD sD, wX4 T aQ sQ, wX2 T aR sR, wU T aU sU] base sz) (zQi D k0 [wX9 T aW (aP 0) (aS 0) (aD 0) (aQ 0) out.2.1, wX7 T aS out.2.2.1, wX1 T aD out.2.2.2.1, wX4 T aQ out.2.2.2.2.1, wX2 T aR out.2.2.2.2.2, wU T aU sU2] (zA [wX9 T aW (aP 0) (aS 0) (aD 0) (aQ 0) sW, wX7 T aS sS, wX1 T aD sD, wX4 T aQ sQ, wX2 T aR sR, wU T aU sU] sz)) 2 12 (zA [wX9 T aW (aP 0) (aS 0) (aD 0) (aQ 0) sW, wX7 T aS sS, wX1 T aD sD, wX4 T aQ sQ, wX2 T aR sR, wU T aU sU] sz) := by
  refine zMetL hst (D := D) (T := T) (av := [.ref (aO 0), .int x1, .ref (aU 0)]) (ws := fun T => [wX11 T aO (aP 0) (aX 0) (aL 0) (aW 0) (aV 0) (aF 0) (aK 0) (aZ 0) (aR 0) aN sO, wX5 T aP sP, wX9 T aW (aP 0) (aS 0) (aD 0) (aQ 0) sW, wX7 T aS sS, wX1 T aD sD, wX4 T aQ sQ, wX2 T aR sR, wU T aU sU]) (wm := fun T => [wX9 T aW (aP 0) (aS 0) (aD 0) (aQ 0) sW, wX7 T aS sS, wX1 T aD sD, wX4 T aQ sQ, wX2 T aR sR, wU T aU sU]) (lv0 := [(0, .ref (aO 0)), (1, .int x1), (2, .ref (aU 0))]) [2, 3, 4, 5, 6, 7] (Qc := fun D T A => zQi D k0 [wX9 T aW (aP 0) (aS 0) (aD 0) (aQ 0) out.2.1, wX7 T aS out.2.2.1, wX1 T aD out.2.2.2.1, wX4 T aQ out.2.2.2.2.1, wX2 T aR out.2.2.2.2.2, wU T aU sU2] A) (by decide +kernel) rfl (Nat.le_of_ble_eq_true rfl) rfl (fun C base X Y hT hQ => ?_) base sz
  refine z_aload_n X dL_pointTop_0 2 rfl ?_
  refine z_iconst (v := (0 : Int32)) X dL_pointTop_1 rfl ?_
  refine z_aload_n X dL_pointTop_2 0 rfl ?_
  refine z_iload_n X dL_pointTop_3 1 rfl ?_
  refine z_tcallVl (st := [.int 0, .ref (aU 0)]) (ws2 := [wX11 (zcT C) aO (aP 0) (aX 0) (aL 0) (aW 0) (aV 0) (aF 0) (aK 0) (aZ 0) (aR 0) aN sO, wX5 (zcT C) aP sP, wX9 (zcT C) aW (aP 0) (aS 0) (aD 0) (aQ 0) out.2.1, wX7 (zcT C) aS out.2.2.1, wX1 (zcT C) aD out.2.2.2.1, wX4 (zcT C) aQ out.2.2.2.2.1, wX2 (zcT C) aR out.2.2.2.2.2, wU (zcT C) aU sU]) X Y (metX11_pointTop (zcl C) Y.2.2.2.2.1 (zcD C) (zcT C) aO aP aX aL aW aV aF aK aZ aR aS aD aQ aN hf) zl_pointTop zlk_pointTop dL_pointTop_4 0 0 12 rfl rfl rfl rfl [0, 1, 2, 3, 4, 5, 6] rfl rfl [2, 3, 4, 5, 6] rfl (by decide) ⟨zsX9, zsX7, zsX1, zsX4, zsX2, trivial⟩ rfl rfl rfl (Nat.le_of_ble_eq_true rfl) rfl rfl ⟨Nat.le_of_ble_eq_true rfl, Nat.le_of_ble_eq_true rfl⟩ ⟨Nat.le_of_ble_eq_true rfl, Nat.le_of_ble_eq_true rfl⟩ (fun E hE => ?_) (fun r hr => ?_)
  · rcases hk with ⟨v, e, -⟩ | ⟨E2, e, hm, rfl⟩
    · exact absurd (e.symm.trans hE) (by simp)
    · have hE2 : E2 = E := Sum.inl.inj (e.symm.trans hE)
      subst hE2
      rcases List.mem_cons.mp hm with h | hm
      · injection h with h1 h2
        subst h1 h2
        refine z_catch X Y hT [] ⟨0, 8, 11, 20⟩ [⟨0, 8, 14, 33⟩] rfl (fun z hz => absurd hz List.not_mem_nil) (by decide) (by decide) zll20 zlc20 (fun q => ?_)
        refine z_astore_n (lv2 := [(3, .ref q), (0, .ref (aO 0)), (1, .int x1), (2, .ref (aU 0))]) X dL_pointTop_11 rfl (by decide) rfl ?_
        refine z_iconst (v := (1 : Int32)) X dL_pointTop_12 rfl ?_
        exact z_iret X hQ dL_pointTop_13 rfl [2, 3, 4, 5, 6, 7] rfl (Nat.le_of_ble_eq_true rfl) (Nat.le_of_ble_eq_true rfl)
      rcases List.mem_cons.mp hm with h | hm
      · injection h with h1 h2
        subst h1 h2
        refine z_catch X Y hT [⟨0, 8, 11, 20⟩] ⟨0, 8, 14, 33⟩ [] rfl (fun z hz => by
            simp only [List.mem_cons, List.not_mem_nil, or_false] at hz
            subst hz
            · exact ⟨by decide, _, zll20, by decide +kernel, by decide +kernel, by decide +kernel⟩) (by decide) (by decide) zll33 zlc33 (fun q => ?_)
        refine z_astore_n (lv2 := [(3, .ref q), (0, .ref (aO 0)), (1, .int x1), (2, .ref (aU 0))]) X dL_pointTop_14 rfl (by decide) rfl ?_
        refine z_iconst (v := (2 : Int32)) X dL_pointTop_15 rfl ?_
        exact z_iret X hQ dL_pointTop_16 rfl [2, 3, 4, 5, 6, 7] rfl (Nat.le_of_ble_eq_true rfl) (Nat.le_of_ble_eq_true rfl)
      exact absurd hm List.not_mem_nil
  · rcases hk with ⟨v, e, rfl, rfl⟩ | ⟨E2, e, -⟩
    · have hv : r = v := Sum.inr.inj (hr.symm.trans e)
      subst hv
      clear hr
      refine z_last (ws2 := [wX11 (zcT C) aO (aP 0) (aX 0) (aL 0) (aW 0) (aV 0) (aF 0) (aK 0) (aZ 0) (aR 0) aN sO, wX5 (zcT C) aP sP, wX9 (zcT C) aW (aP 0) (aS 0) (aD 0) (aQ 0) out.2.1, wX7 (zcT C) aS out.2.2.1, wX1 (zcT C) aD out.2.2.2.1, wX4 (zcT C) aQ out.2.2.2.2.1, wX2 (zcT C) aR out.2.2.2.2.2, wU (zcT C) aU (zsb sU 0 (vp_updL (zgb sU 0) ((0 : Int32)).toNatClampNeg ((fun v : Int64 => v) r)))]) X 7 0 (by decide) dL_pointTop_7 rfl rfl (by decide) rfl rfl ?_
      refine z_goto (tgt := 17) X dL_pointTop_8 (by decide) ?_
      refine z_iconst (v := (0 : Int32)) X dL_pointTop_17 rfl ?_
      exact z_iret X hQ dL_pointTop_18 rfl [2, 3, 4, 5, 6, 7] rfl (Nat.le_of_ble_eq_true rfl) (Nat.le_of_ble_eq_true rfl)
    · exact absurd (e.symm.trans hr) (by simp)
theorem zlk_pointBottom : Cond.methodLink RL 77 yX11_pointBottom ∈ zW := zW_tab (List.mem_of_getElem? (i := 1179) (by decide +kernel)) (by decide +kernel)
abbrev rmL_pointBottom : Room := { frames := 9, cells := 2, slots := 12, locals := 189 }
theorem metL_pointBottom (l : Launch) (hst : l.stackTraces = false) (D : va_G) (T : Nat → ClassId) (aO : Nat → Nat) (aP : Nat → Nat) (aX : Nat → Nat) (aL : Nat → Nat) (aW : Nat → Nat) (aV : Nat → Nat) (aF : Nat → Nat) (aK : Nat → Nat) (aZ : Nat → Nat) (aR : Nat → Nat) (aS : Nat → Nat) (aD : Nat → Nat) (aQ : Nat → Nat) (aN : Nat → Nat) {sO : zSt} {sP : zSt} {sW : zSt} {sS : zSt} {sD : zSt} {sQ : zSt} {sR : zSt} {x1 : Int32} {out : (String ⊕ Int64) × zSt × zSt × zSt × zSt × zSt} (hf : fX11_pointBottom sO sP sW sS sD sQ sR x1 = some out) (aU : Nat → Nat) {sU sU2 : zSt} {k0 : Int32} (hk : zWr (fun v : Int64 => v) [("java/lang/IndexOutOfBoundsException", 1), ("java/util/NoSuchElementException", 2)] out.1 sU k0 sU2) (base sz : Nat) : Met l yL_pointBottom (Cond.codeWith yL_pointBottom cL_pointBottom 4 (some .int) [(0, 8, 11, 20), (0, 8, 14, 33)] :: zW) rmL_pointBottom (zPL D T [.ref (aO 0), .int x1, .ref (aU 0)] [wX11 T aO (aP 0) (aX 0) (aL 0) (aW 0) (aV 0) (aF 0) (aK 0) (aZ 0) (aR 0) aN sO, wX5 T aP sP, wX9 T aW (aP 0) (aS 0) (aD 0) (aQ 0) sW, wX7 T aS sS, wX1 T aD sD, wX4 T aQ sQ, wX2 T aR sR, wU T aU sU] [wX9 T aW (aP 0) (aS 0) (aD 0) (aQ 0) sW, wX7 T aS sS, wX1 T aD sD, wX4 T aQ sQ, wX2 T aR sR, wU T aU sU] base sz) (zQi D k0 [wX9 T aW (aP 0) (aS 0) (aD 0) (aQ 0) out.2.1, wX7 T aS out.2.2.1, wX1 T aD out.2.2.2.1, wX4 T aQ out.2.2.2.2.1, wX2 T aR out.2.2.2.2.2, wU T aU sU2] (zA [wX9 T aW (aP 0) (aS 0) (aD 0) (aQ 0) sW, wX7 T aS sS, wX1 T aD sD, wX4 T aQ sQ, wX2 T aR sR, wU T aU sU] sz)) 2 12 (zA [wX9 T aW (aP 0) (aS 0) (aD 0) (aQ 0) sW, wX7 T aS sS, wX1 T aD sD, wX4 T aQ sQ, wX2 T aR sR, wU T aU sU] sz) := by
  refine zMetL hst (D := D) (T := T) (av := [.ref (aO 0), .int x1, .ref (aU 0)]) (ws := fun T => [wX11 T aO (aP 0) (aX 0) (aL 0) (aW 0) (aV 0) (aF 0) (aK 0) (aZ 0) (aR 0) aN sO, wX5 T aP sP, wX9 T aW (aP 0) (aS 0) (aD 0) (aQ 0) sW, wX7 T aS sS, wX1 T aD sD, wX4 T aQ sQ, wX2 T aR sR, wU T aU sU]) (wm := fun T => [wX9 T aW (aP 0) (aS 0) (aD 0) (aQ 0) sW, wX7 T aS sS, wX1 T aD sD, wX4 T aQ sQ, wX2 T aR sR, wU T aU sU]) (lv0 := [(0, .ref (aO 0)), (1, .int x1), (2, .ref (aU 0))]) [2, 3, 4, 5, 6, 7] (Qc := fun D T A => zQi D k0 [wX9 T aW (aP 0) (aS 0) (aD 0) (aQ 0) out.2.1, wX7 T aS out.2.2.1, wX1 T aD out.2.2.2.1, wX4 T aQ out.2.2.2.2.1, wX2 T aR out.2.2.2.2.2, wU T aU sU2] A) (by decide +kernel) rfl (Nat.le_of_ble_eq_true rfl) rfl (fun C base X Y hT hQ => ?_) base sz
  refine z_aload_n X dL_pointBottom_0 2 rfl ?_
  refine z_iconst (v := (0 : Int32)) X dL_pointBottom_1 rfl ?_
  refine z_aload_n X dL_pointBottom_2 0 rfl ?_
  refine z_iload_n X dL_pointBottom_3 1 rfl ?_
  refine z_tcallVl (st := [.int 0, .ref (aU 0)]) (ws2 := [wX11 (zcT C) aO (aP 0) (aX 0) (aL 0) (aW 0) (aV 0) (aF 0) (aK 0) (aZ 0) (aR 0) aN sO, wX5 (zcT C) aP sP, wX9 (zcT C) aW (aP 0) (aS 0) (aD 0) (aQ 0) out.2.1, wX7 (zcT C) aS out.2.2.1, wX1 (zcT C) aD out.2.2.2.1, wX4 (zcT C) aQ out.2.2.2.2.1, wX2 (zcT C) aR out.2.2.2.2.2, wU (zcT C) aU sU]) X Y (metX11_pointBottom (zcl C) Y.2.2.2.2.1 (zcD C) (zcT C) aO aP aX aL aW aV aF aK aZ aR aS aD aQ aN hf) zl_pointBottom zlk_pointBottom dL_pointBottom_4 0 0 12 rfl rfl rfl rfl [0, 1, 2, 3, 4, 5, 6] rfl rfl [2, 3, 4, 5, 6] rfl (by decide) ⟨zsX9, zsX7, zsX1, zsX4, zsX2, trivial⟩ rfl rfl rfl (Nat.le_of_ble_eq_true rfl) rfl rfl ⟨Nat.le_of_ble_eq_true rfl, Nat.le_of_ble_eq_true rfl⟩ ⟨Nat.le_of_ble_eq_true rfl, Nat.le_of_ble_eq_true rfl⟩ (fun E hE => ?_) (fun r hr => ?_)
  · rcases hk with ⟨v, e, -⟩ | ⟨E2, e, hm, rfl⟩
    · exact absurd (e.symm.trans hE) (by simp)
    · have hE2 : E2 = E := Sum.inl.inj (e.symm.trans hE)
      subst hE2
      rcases List.mem_cons.mp hm with h | hm
      · injection h with h1 h2
        subst h1 h2
        refine z_catch X Y hT [] ⟨0, 8, 11, 20⟩ [⟨0, 8, 14, 33⟩] rfl (fun z hz => absurd hz List.not_mem_nil) (by decide) (by decide) zll20 zlc20 (fun q => ?_)
        refine z_astore_n (lv2 := [(3, .ref q), (0, .ref (aO 0)), (1, .int x1), (2, .ref (aU 0))]) X dL_pointBottom_11 rfl (by decide) rfl ?_
        refine z_iconst (v := (1 : Int32)) X dL_pointBottom_12 rfl ?_
        exact z_iret X hQ dL_pointBottom_13 rfl [2, 3, 4, 5, 6, 7] rfl (Nat.le_of_ble_eq_true rfl) (Nat.le_of_ble_eq_true rfl)
      rcases List.mem_cons.mp hm with h | hm
      · injection h with h1 h2
        subst h1 h2
        refine z_catch X Y hT [⟨0, 8, 11, 20⟩] ⟨0, 8, 14, 33⟩ [] rfl (fun z hz => by
            simp only [List.mem_cons, List.not_mem_nil, or_false] at hz
            subst hz
            · exact ⟨by decide, _, zll20, by decide +kernel, by decide +kernel, by decide +kernel⟩) (by decide) (by decide) zll33 zlc33 (fun q => ?_)
        refine z_astore_n (lv2 := [(3, .ref q), (0, .ref (aO 0)), (1, .int x1), (2, .ref (aU 0))]) X dL_pointBottom_14 rfl (by decide) rfl ?_
        refine z_iconst (v := (2 : Int32)) X dL_pointBottom_15 rfl ?_
        exact z_iret X hQ dL_pointBottom_16 rfl [2, 3, 4, 5, 6, 7] rfl (Nat.le_of_ble_eq_true rfl) (Nat.le_of_ble_eq_true rfl)
      exact absurd hm List.not_mem_nil
  · rcases hk with ⟨v, e, rfl, rfl⟩ | ⟨E2, e, -⟩
    · have hv : r = v := Sum.inr.inj (hr.symm.trans e)
      subst hv
      clear hr
      refine z_last (ws2 := [wX11 (zcT C) aO (aP 0) (aX 0) (aL 0) (aW 0) (aV 0) (aF 0) (aK 0) (aZ 0) (aR 0) aN sO, wX5 (zcT C) aP sP, wX9 (zcT C) aW (aP 0) (aS 0) (aD 0) (aQ 0) out.2.1, wX7 (zcT C) aS out.2.2.1, wX1 (zcT C) aD out.2.2.2.1, wX4 (zcT C) aQ out.2.2.2.2.1, wX2 (zcT C) aR out.2.2.2.2.2, wU (zcT C) aU (zsb sU 0 (vp_updL (zgb sU 0) ((0 : Int32)).toNatClampNeg ((fun v : Int64 => v) r)))]) X 7 0 (by decide) dL_pointBottom_7 rfl rfl (by decide) rfl rfl ?_
      refine z_goto (tgt := 17) X dL_pointBottom_8 (by decide) ?_
      refine z_iconst (v := (0 : Int32)) X dL_pointBottom_17 rfl ?_
      exact z_iret X hQ dL_pointBottom_18 rfl [2, 3, 4, 5, 6, 7] rfl (Nat.le_of_ble_eq_true rfl) (Nat.le_of_ble_eq_true rfl)
    · exact absurd (e.symm.trans hr) (by simp)
theorem zlk_isTight : Cond.methodLink RL 80 yX11_isTight ∈ zW := zW_tab (List.mem_of_getElem? (i := 1186) (by decide +kernel)) (by decide +kernel)
abbrev rmL_isTight : Room := { frames := 9, cells := 3, slots := 18, locals := 168 }
theorem metL_isTight (l : Launch) (hst : l.stackTraces = false) (D : va_G) (T : Nat → ClassId) (aO : Nat → Nat) (aP : Nat → Nat) (aX : Nat → Nat) (aL : Nat → Nat) (aW : Nat → Nat) (aV : Nat → Nat) (aF : Nat → Nat) (aK : Nat → Nat) (aZ : Nat → Nat) (aR : Nat → Nat) (aS : Nat → Nat) (aD : Nat → Nat) (aQ : Nat → Nat) (aN : Nat → Nat) {sO : zSt} {sP : zSt} {sW : zSt} {sS : zSt} {sD : zSt} {sQ : zSt} {x1 : Int32} {out : (String ⊕ Int32) × zSt × zSt × zSt × zSt} (hf : fX11_isTight sO sP sW sS sD sQ x1 = some out) (aU : Nat → Nat) {sU sU2 : zSt} {k0 : Int32} (hk : zWr (fun v : Int32 => if v = 0 then (0 : Int64) else 1) [("java/lang/IndexOutOfBoundsException", 1), ("java/lang/IllegalStateException", 2), ("java/util/NoSuchElementException", 3)] out.1 sU k0 sU2) (base sz : Nat) : Met l yL_isTight (Cond.codeWith yL_isTight cL_isTight 4 (some .int) [(0, 16, 19, 20), (0, 16, 22, 15), (0, 16, 25, 33)] :: zW) rmL_isTight (zPL D T [.ref (aO 0), .int x1, .ref (aU 0)] [wX11 T aO (aP 0) (aX 0) (aL 0) (aW 0) (aV 0) (aF 0) (aK 0) (aZ 0) (aR 0) aN sO, wX5 T aP sP, wX9 T aW (aP 0) (aS 0) (aD 0) (aQ 0) sW, wX7 T aS sS, wX1 T aD sD, wX4 T aQ sQ, wU T aU sU] [wX9 T aW (aP 0) (aS 0) (aD 0) (aQ 0) sW, wX7 T aS sS, wX1 T aD sD, wX4 T aQ sQ, wU T aU sU] base sz) (zQi D k0 [wX9 T aW (aP 0) (aS 0) (aD 0) (aQ 0) out.2.1, wX7 T aS out.2.2.1, wX1 T aD out.2.2.2.1, wX4 T aQ out.2.2.2.2, wU T aU sU2] (zA [wX9 T aW (aP 0) (aS 0) (aD 0) (aQ 0) sW, wX7 T aS sS, wX1 T aD sD, wX4 T aQ sQ, wU T aU sU] sz)) 3 18 (zA [wX9 T aW (aP 0) (aS 0) (aD 0) (aQ 0) sW, wX7 T aS sS, wX1 T aD sD, wX4 T aQ sQ, wU T aU sU] sz) := by
  refine zMetL hst (D := D) (T := T) (av := [.ref (aO 0), .int x1, .ref (aU 0)]) (ws := fun T => [wX11 T aO (aP 0) (aX 0) (aL 0) (aW 0) (aV 0) (aF 0) (aK 0) (aZ 0) (aR 0) aN sO, wX5 T aP sP, wX9 T aW (aP 0) (aS 0) (aD 0) (aQ 0) sW, wX7 T aS sS, wX1 T aD sD, wX4 T aQ sQ, wU T aU sU]) (wm := fun T => [wX9 T aW (aP 0) (aS 0) (aD 0) (aQ 0) sW, wX7 T aS sS, wX1 T aD sD, wX4 T aQ sQ, wU T aU sU]) (lv0 := [(0, .ref (aO 0)), (1, .int x1), (2, .ref (aU 0))]) [2, 3, 4, 5, 6] (Qc := fun D T A => zQi D k0 [wX9 T aW (aP 0) (aS 0) (aD 0) (aQ 0) out.2.1, wX7 T aS out.2.2.1, wX1 T aD out.2.2.2.1, wX4 T aQ out.2.2.2.2, wU T aU sU2] A) (by decide +kernel) rfl (Nat.le_of_ble_eq_true rfl) rfl (fun C base X Y hT hQ => ?_) base sz
  refine z_aload_n X dL_isTight_0 2 rfl ?_
  refine z_iconst (v := (0 : Int32)) X dL_isTight_1 rfl ?_
  refine z_aload_n X dL_isTight_2 0 rfl ?_
  refine z_iload_n X dL_isTight_3 1 rfl ?_
  refine z_tcallVi (st := [.int 0, .ref (aU 0)]) (ws2 := [wX11 (zcT C) aO (aP 0) (aX 0) (aL 0) (aW 0) (aV 0) (aF 0) (aK 0) (aZ 0) (aR 0) aN sO, wX5 (zcT C) aP sP, wX9 (zcT C) aW (aP 0) (aS 0) (aD 0) (aQ 0) out.2.1, wX7 (zcT C) aS out.2.2.1, wX1 (zcT C) aD out.2.2.2.1, wX4 (zcT C) aQ out.2.2.2.2, wU (zcT C) aU sU]) X Y (metX11_isTight (zcl C) Y.2.2.2.2.1 (zcD C) (zcT C) aO aP aX aL aW aV aF aK aZ aR aS aD aQ aN hf) zl_isTight zlk_isTight dL_isTight_4 0 0 12 rfl rfl rfl rfl [0, 1, 2, 3, 4, 5] rfl rfl [2, 3, 4, 5] rfl (by decide) ⟨zsX9, zsX7, zsX1, zsX4, trivial⟩ rfl rfl rfl (Nat.le_of_ble_eq_true rfl) rfl rfl ⟨Nat.le_of_ble_eq_true rfl, Nat.le_of_ble_eq_true rfl⟩ ⟨Nat.le_of_ble_eq_true rfl, Nat.le_of_ble_eq_true rfl⟩ (fun E hE => ?_) (fun r hr => ?_)
  · rcases hk with ⟨v, e, -⟩ | ⟨E2, e, hm, rfl⟩
    · exact absurd (e.symm.trans hE) (by simp)
    · have hE2 : E2 = E := Sum.inl.inj (e.symm.trans hE)
      subst hE2
      rcases List.mem_cons.mp hm with h | hm
      · injection h with h1 h2
        subst h1 h2
        refine z_catch X Y hT [] ⟨0, 16, 19, 20⟩ [⟨0, 16, 22, 15⟩, ⟨0, 16, 25, 33⟩] rfl (fun z hz => absurd hz List.not_mem_nil) (by decide) (by decide) zll20 zlc20 (fun q => ?_)
        refine z_astore_n (lv2 := [(3, .ref q), (0, .ref (aO 0)), (1, .int x1), (2, .ref (aU 0))]) X dL_isTight_19 rfl (by decide) rfl ?_
        refine z_iconst (v := (1 : Int32)) X dL_isTight_20 rfl ?_
        exact z_iret X hQ dL_isTight_21 rfl [2, 3, 4, 5, 6] rfl (Nat.le_of_ble_eq_true rfl) (Nat.le_of_ble_eq_true rfl)
      rcases List.mem_cons.mp hm with h | hm
      · injection h with h1 h2
        subst h1 h2
        refine z_catch X Y hT [⟨0, 16, 19, 20⟩] ⟨0, 16, 22, 15⟩ [⟨0, 16, 25, 33⟩] rfl (fun z hz => by
            simp only [List.mem_cons, List.not_mem_nil, or_false] at hz
            subst hz
            · exact ⟨by decide, _, zll20, by decide +kernel, by decide +kernel, by decide +kernel⟩) (by decide) (by decide) zll15 zlc15 (fun q => ?_)
        refine z_astore_n (lv2 := [(3, .ref q), (0, .ref (aO 0)), (1, .int x1), (2, .ref (aU 0))]) X dL_isTight_22 rfl (by decide) rfl ?_
        refine z_iconst (v := (2 : Int32)) X dL_isTight_23 rfl ?_
        exact z_iret X hQ dL_isTight_24 rfl [2, 3, 4, 5, 6] rfl (Nat.le_of_ble_eq_true rfl) (Nat.le_of_ble_eq_true rfl)
      rcases List.mem_cons.mp hm with h | hm
      · injection h with h1 h2
        subst h1 h2
        refine z_catch X Y hT [⟨0, 16, 19, 20⟩, ⟨0, 16, 22, 15⟩] ⟨0, 16, 25, 33⟩ [] rfl (fun z hz => by
            simp only [List.mem_cons, List.not_mem_nil, or_false] at hz
            rcases hz with rfl | rfl
            · exact ⟨by decide, _, zll20, by decide +kernel, by decide +kernel, by decide +kernel⟩
            · exact ⟨by decide, _, zll15, by decide +kernel, by decide +kernel, by decide +kernel⟩) (by decide) (by decide) zll33 zlc33 (fun q => ?_)
        refine z_astore_n (lv2 := [(3, .ref q), (0, .ref (aO 0)), (1, .int x1), (2, .ref (aU 0))]) X dL_isTight_25 rfl (by decide) rfl ?_
        refine z_iconst (v := (3 : Int32)) X dL_isTight_26 rfl ?_
        exact z_iret X hQ dL_isTight_27 rfl [2, 3, 4, 5, 6] rfl (Nat.le_of_ble_eq_true rfl) (Nat.le_of_ble_eq_true rfl)
      exact absurd hm List.not_mem_nil
  · rcases hk with ⟨v, e, rfl, rfl⟩ | ⟨E2, e, -⟩
    · have hv : r = v := Sum.inr.inj (hr.symm.trans e)
      subst hv
      clear hr
      refine z_if_eq (tgt := 14) X dL_isTight_7 (by decide) (fun c => ?_) (fun c => ?_)
      · refine z_lconst (v := (0 : Int64)) X dL_isTight_14 rfl ?_
        have ez : (0 : Int64) = (fun v : Int32 => if v = 0 then (0 : Int64) else 1) r := (if_pos c).symm
        rw [ez]
        refine z_last (ws2 := [wX11 (zcT C) aO (aP 0) (aX 0) (aL 0) (aW 0) (aV 0) (aF 0) (aK 0) (aZ 0) (aR 0) aN sO, wX5 (zcT C) aP sP, wX9 (zcT C) aW (aP 0) (aS 0) (aD 0) (aQ 0) out.2.1, wX7 (zcT C) aS out.2.2.1, wX1 (zcT C) aD out.2.2.2.1, wX4 (zcT C) aQ out.2.2.2.2, wU (zcT C) aU (zsb sU 0 (vp_updL (zgb sU 0) ((0 : Int32)).toNatClampNeg ((fun v : Int32 => if v = 0 then (0 : Int64) else 1) r)))]) X 6 0 (by decide) dL_isTight_15 rfl rfl (by decide) rfl rfl ?_
        refine z_goto (tgt := 28) X dL_isTight_16 (by decide) ?_
        refine z_iconst (v := (0 : Int32)) X dL_isTight_28 rfl ?_
        exact z_iret X hQ dL_isTight_29 rfl [2, 3, 4, 5, 6] rfl (Nat.le_of_ble_eq_true rfl) (Nat.le_of_ble_eq_true rfl)
      · refine z_lconst (v := (1 : Int64)) X dL_isTight_10 rfl ?_
        refine z_goto (tgt := 15) X dL_isTight_11 (by decide) ?_
        have ez : (1 : Int64) = (fun v : Int32 => if v = 0 then (0 : Int64) else 1) r := (if_neg c).symm
        rw [ez]
        refine z_last (ws2 := [wX11 (zcT C) aO (aP 0) (aX 0) (aL 0) (aW 0) (aV 0) (aF 0) (aK 0) (aZ 0) (aR 0) aN sO, wX5 (zcT C) aP sP, wX9 (zcT C) aW (aP 0) (aS 0) (aD 0) (aQ 0) out.2.1, wX7 (zcT C) aS out.2.2.1, wX1 (zcT C) aD out.2.2.2.1, wX4 (zcT C) aQ out.2.2.2.2, wU (zcT C) aU (zsb sU 0 (vp_updL (zgb sU 0) ((0 : Int32)).toNatClampNeg ((fun v : Int32 => if v = 0 then (0 : Int64) else 1) r)))]) X 6 0 (by decide) dL_isTight_15 rfl rfl (by decide) rfl rfl ?_
        refine z_goto (tgt := 28) X dL_isTight_16 (by decide) ?_
        refine z_iconst (v := (0 : Int32)) X dL_isTight_28 rfl ?_
        exact z_iret X hQ dL_isTight_29 rfl [2, 3, 4, 5, 6] rfl (Nat.le_of_ble_eq_true rfl) (Nat.le_of_ble_eq_true rfl)
    · exact absurd (e.symm.trans hr) (by simp)
theorem zlk_tight : Cond.methodLink RL 84 yX11_tight ∈ zW := zW_tab (List.mem_of_getElem? (i := 1194) (by decide +kernel)) (by decide +kernel)
abbrev rmL_tight : Room := { frames := 8, cells := 1, slots := 6, locals := 167 }
theorem metL_tight (l : Launch) (hst : l.stackTraces = false) (D : va_G) (T : Nat → ClassId) (aO : Nat → Nat) (aP : Nat → Nat) (aX : Nat → Nat) (aL : Nat → Nat) (aW : Nat → Nat) (aV : Nat → Nat) (aF : Nat → Nat) (aK : Nat → Nat) (aZ : Nat → Nat) (aR : Nat → Nat) (aS : Nat → Nat) (aD : Nat → Nat) (aQ : Nat → Nat) (aN : Nat → Nat) {sO : zSt} {sP : zSt} {sW : zSt} {sS : zSt} {sD : zSt} {sQ : zSt} {out : (String ⊕ Int32) × zSt × zSt × zSt × zSt} (hf : fX11_tight sO sP sW sS sD sQ = some out) (aU : Nat → Nat) {sU sU2 : zSt} {k0 : Int32} (hk : zWr (fun v : Int32 => v.toInt64) [("java/util/NoSuchElementException", 1)] out.1 sU k0 sU2) (base sz : Nat) : Met l yL_tight (Cond.codeWith yL_tight cL_tight 3 (some .int) [(0, 8, 11, 33)] :: zW) rmL_tight (zPL D T [.ref (aO 0), .ref (aU 0)] [wX11 T aO (aP 0) (aX 0) (aL 0) (aW 0) (aV 0) (aF 0) (aK 0) (aZ 0) (aR 0) aN sO, wX5 T aP sP, wX9 T aW (aP 0) (aS 0) (aD 0) (aQ 0) sW, wX7 T aS sS, wX1 T aD sD, wX4 T aQ sQ, wU T aU sU] [wX9 T aW (aP 0) (aS 0) (aD 0) (aQ 0) sW, wX7 T aS sS, wX1 T aD sD, wX4 T aQ sQ, wU T aU sU] base sz) (zQi D k0 [wX9 T aW (aP 0) (aS 0) (aD 0) (aQ 0) out.2.1, wX7 T aS out.2.2.1, wX1 T aD out.2.2.2.1, wX4 T aQ out.2.2.2.2, wU T aU sU2] (zA [wX9 T aW (aP 0) (aS 0) (aD 0) (aQ 0) sW, wX7 T aS sS, wX1 T aD sD, wX4 T aQ sQ, wU T aU sU] sz)) 1 6 (zA [wX9 T aW (aP 0) (aS 0) (aD 0) (aQ 0) sW, wX7 T aS sS, wX1 T aD sD, wX4 T aQ sQ, wU T aU sU] sz) := by
  refine zMetL hst (D := D) (T := T) (av := [.ref (aO 0), .ref (aU 0)]) (ws := fun T => [wX11 T aO (aP 0) (aX 0) (aL 0) (aW 0) (aV 0) (aF 0) (aK 0) (aZ 0) (aR 0) aN sO, wX5 T aP sP, wX9 T aW (aP 0) (aS 0) (aD 0) (aQ 0) sW, wX7 T aS sS, wX1 T aD sD, wX4 T aQ sQ, wU T aU sU]) (wm := fun T => [wX9 T aW (aP 0) (aS 0) (aD 0) (aQ 0) sW, wX7 T aS sS, wX1 T aD sD, wX4 T aQ sQ, wU T aU sU]) (lv0 := [(0, .ref (aO 0)), (1, .ref (aU 0))]) [2, 3, 4, 5, 6] (Qc := fun D T A => zQi D k0 [wX9 T aW (aP 0) (aS 0) (aD 0) (aQ 0) out.2.1, wX7 T aS out.2.2.1, wX1 T aD out.2.2.2.1, wX4 T aQ out.2.2.2.2, wU T aU sU2] A) (by decide +kernel) rfl (Nat.le_of_ble_eq_true rfl) rfl (fun C base X Y hT hQ => ?_) base sz
  refine z_aload_n X dL_tight_0 1 rfl ?_
  refine z_iconst (v := (0 : Int32)) X dL_tight_1 rfl ?_
  refine z_aload_n X dL_tight_2 0 rfl ?_
  refine z_tcallVi (st := [.int 0, .ref (aU 0)]) (ws2 := [wX11 (zcT C) aO (aP 0) (aX 0) (aL 0) (aW 0) (aV 0) (aF 0) (aK 0) (aZ 0) (aR 0) aN sO, wX5 (zcT C) aP sP, wX9 (zcT C) aW (aP 0) (aS 0) (aD 0) (aQ 0) out.2.1, wX7 (zcT C) aS out.2.2.1, wX1 (zcT C) aD out.2.2.2.1, wX4 (zcT C) aQ out.2.2.2.2, wU (zcT C) aU sU]) X Y (metX11_tight (zcl C) Y.2.2.2.2.1 (zcD C) (zcT C) aO aP aX aL aW aV aF aK aZ aR aS aD aQ aN hf) zl_tight zlk_tight dL_tight_3 0 0 12 rfl rfl rfl rfl [0, 1, 2, 3, 4, 5] rfl rfl [2, 3, 4, 5] rfl (by decide) ⟨zsX9, zsX7, zsX1, zsX4, trivial⟩ rfl rfl rfl (Nat.le_of_ble_eq_true rfl) rfl rfl ⟨Nat.le_of_ble_eq_true rfl, Nat.le_of_ble_eq_true rfl⟩ ⟨Nat.le_of_ble_eq_true rfl, Nat.le_of_ble_eq_true rfl⟩ (fun E hE => ?_) (fun r hr => ?_)
  · rcases hk with ⟨v, e, -⟩ | ⟨E2, e, hm, rfl⟩
    · exact absurd (e.symm.trans hE) (by simp)
    · have hE2 : E2 = E := Sum.inl.inj (e.symm.trans hE)
      subst hE2
      rcases List.mem_cons.mp hm with h | hm
      · injection h with h1 h2
        subst h1 h2
        refine z_catch X Y hT [] ⟨0, 8, 11, 33⟩ [] rfl (fun z hz => absurd hz List.not_mem_nil) (by decide) (by decide) zll33 zlc33 (fun q => ?_)
        refine z_astore_n (lv2 := [(2, .ref q), (0, .ref (aO 0)), (1, .ref (aU 0))]) X dL_tight_11 rfl (by decide) rfl ?_
        refine z_iconst (v := (1 : Int32)) X dL_tight_12 rfl ?_
        exact z_iret X hQ dL_tight_13 rfl [2, 3, 4, 5, 6] rfl (Nat.le_of_ble_eq_true rfl) (Nat.le_of_ble_eq_true rfl)
      exact absurd hm List.not_mem_nil
  · rcases hk with ⟨v, e, rfl, rfl⟩ | ⟨E2, e, -⟩
    · have hv : r = v := Sum.inr.inj (hr.symm.trans e)
      subst hv
      clear hr
      refine z_i2l X dL_tight_6 ?_
      refine z_last (ws2 := [wX11 (zcT C) aO (aP 0) (aX 0) (aL 0) (aW 0) (aV 0) (aF 0) (aK 0) (aZ 0) (aR 0) aN sO, wX5 (zcT C) aP sP, wX9 (zcT C) aW (aP 0) (aS 0) (aD 0) (aQ 0) out.2.1, wX7 (zcT C) aS out.2.2.1, wX1 (zcT C) aD out.2.2.2.1, wX4 (zcT C) aQ out.2.2.2.2, wU (zcT C) aU (zsb sU 0 (vp_updL (zgb sU 0) ((0 : Int32)).toNatClampNeg ((fun v : Int32 => v.toInt64) r)))]) X 6 0 (by decide) dL_tight_7 rfl rfl (by decide) rfl rfl ?_
      refine z_goto (tgt := 14) X dL_tight_8 (by decide) ?_
      refine z_iconst (v := (0 : Int32)) X dL_tight_14 rfl ?_
      exact z_iret X hQ dL_tight_15 rfl [2, 3, 4, 5, 6] rfl (Nat.le_of_ble_eq_true rfl) (Nat.le_of_ble_eq_true rfl)
    · exact absurd (e.symm.trans hr) (by simp)
theorem zlk_worthTop : Cond.methodLink RL 87 yX11_worthTop ∈ zW := zW_tab (List.mem_of_getElem? (i := 1209) (by decide +kernel)) (by decide +kernel)
abbrev rmL_worthTop : Room := { frames := 10, cells := 3, slots := 18, locals := 172 }
theorem metL_worthTop (l : Launch) (hst : l.stackTraces = false) (D : va_G) (T : Nat → ClassId) (aO : Nat → Nat) (aP : Nat → Nat) (aX : Nat → Nat) (aL : Nat → Nat) (aW : Nat → Nat) (aV : Nat → Nat) (aF : Nat → Nat) (aK : Nat → Nat) (aZ : Nat → Nat) (aR : Nat → Nat) (aS : Nat → Nat) (aD : Nat → Nat) (aQ : Nat → Nat) (aSv : Nat → Nat) (aDv : Nat → Nat) (aQv : Nat → Nat) (aN : Nat → Nat) {sO : zSt} {sP : zSt} {sW : zSt} {sS : zSt} {sD : zSt} {sQ : zSt} {sV : zSt} {sSv : zSt} {sDv : zSt} {sQv : zSt} {sR : zSt} {x1 : Int32} {out : (String ⊕ Int64) × zSt × zSt × zSt × zSt × zSt × zSt × zSt × zSt × zSt} (hf : fX11_worthTop sO sP sW sS sD sQ sV sSv sDv sQv sR x1 = some out) (aU : Nat → Nat) {sU sU2 : zSt} {k0 : Int32} (hk : zWr (fun v : Int64 => v) [("java/lang/IndexOutOfBoundsException", 1), ("java/lang/IllegalStateException", 2), ("java/util/NoSuchElementException", 3)] out.1 sU k0 sU2) (base sz : Nat) : Met l yL_worthTop (Cond.codeWith yL_worthTop cL_worthTop 4 (some .int) [(0, 8, 11, 20), (0, 8, 14, 15), (0, 8, 17, 33)] :: zW) rmL_worthTop (zPL D T [.ref (aO 0), .int x1, .ref (aU 0)] [wX11 T aO (aP 0) (aX 0) (aL 0) (aW 0) (aV 0) (aF 0) (aK 0) (aZ 0) (aR 0) aN sO, wX5 T aP sP, wX9 T aW (aP 0) (aS 0) (aD 0) (aQ 0) sW, wX7 T aS sS, wX1 T aD sD, wX4 T aQ sQ, wX9 T aV (aP 0) (aSv 0) (aDv 0) (aQv 0) sV, wX7 T aSv sSv, wX1 T aDv sDv, wX4 T aQv sQv, wX2 T aR sR, wU T aU sU] [wX9 T aW (aP 0) (aS 0) (aD 0) (aQ 0) sW, wX7 T aS sS, wX1 T aD sD, wX4 T aQ sQ, wX9 T aV (aP 0) (aSv 0) (aDv 0) (aQv 0) sV, wX7 T aSv sSv, wX1 T aDv sDv, wX4 T aQv sQv, wX2 T aR sR, wU T aU sU] base sz) (zQi D k0 [wX9 T aW (aP 0) (aS 0) (aD 0) (aQ 0) out.2.1, wX7 T aS out.2.2.1, wX1 T aD out.2.2.2.1, wX4 T aQ out.2.2.2.2.1, wX9 T aV (aP 0) (aSv 0) (aDv 0) (aQv 0) out.2.2.2.2.2.1, wX7 T aSv out.2.2.2.2.2.2.1, wX1 T aDv out.2.2.2.2.2.2.2.1, wX4 T aQv out.2.2.2.2.2.2.2.2.1, wX2 T aR out.2.2.2.2.2.2.2.2.2, wU T aU sU2] (zA [wX9 T aW (aP 0) (aS 0) (aD 0) (aQ 0) sW, wX7 T aS sS, wX1 T aD sD, wX4 T aQ sQ, wX9 T aV (aP 0) (aSv 0) (aDv 0) (aQv 0) sV, wX7 T aSv sSv, wX1 T aDv sDv, wX4 T aQv sQv, wX2 T aR sR, wU T aU sU] sz)) 3 18 (zA [wX9 T aW (aP 0) (aS 0) (aD 0) (aQ 0) sW, wX7 T aS sS, wX1 T aD sD, wX4 T aQ sQ, wX9 T aV (aP 0) (aSv 0) (aDv 0) (aQv 0) sV, wX7 T aSv sSv, wX1 T aDv sDv, wX4 T aQv sQv, wX2 T aR sR, wU T aU sU] sz) := by
  refine zMetL hst (D := D) (T := T) (av := [.ref (aO 0), .int x1, .ref (aU 0)]) (ws := fun T => [wX11 T aO (aP 0) (aX 0) (aL 0) (aW 0) (aV 0) (aF 0) (aK 0) (aZ 0) (aR 0) aN sO, wX5 T aP sP, wX9 T aW (aP 0) (aS 0) (aD 0) (aQ 0) sW, wX7 T aS sS, wX1 T aD sD, wX4 T aQ sQ, wX9 T aV (aP 0) (aSv 0) (aDv 0) (aQv 0) sV, wX7 T aSv sSv, wX1 T aDv sDv, wX4 T aQv sQv, wX2 T aR sR, wU T aU sU]) (wm := fun T => [wX9 T aW (aP 0) (aS 0) (aD 0) (aQ 0) sW, wX7 T aS sS, wX1 T aD sD, wX4 T aQ sQ, wX9 T aV (aP 0) (aSv 0) (aDv 0) (aQv 0) sV, wX7 T aSv sSv, wX1 T aDv sDv, wX4 T aQv sQv, wX2 T aR sR, wU T aU sU]) (lv0 := [(0, .ref (aO 0)), (1, .int x1), (2, .ref (aU 0))]) [2, 3, 4, 5, 6, 7, 8, 9, 10, 11] (Qc := fun D T A => zQi D k0 [wX9 T aW (aP 0) (aS 0) (aD 0) (aQ 0) out.2.1, wX7 T aS out.2.2.1, wX1 T aD out.2.2.2.1, wX4 T aQ out.2.2.2.2.1, wX9 T aV (aP 0) (aSv 0) (aDv 0) (aQv 0) out.2.2.2.2.2.1, wX7 T aSv out.2.2.2.2.2.2.1, wX1 T aDv out.2.2.2.2.2.2.2.1, wX4 T aQv out.2.2.2.2.2.2.2.2.1, wX2 T aR out.2.2.2.2.2.2.2.2.2, wU T aU sU2] A) (by decide +kernel) rfl (Nat.le_of_ble_eq_true rfl) rfl (fun C base X Y hT hQ => ?_) base sz
  refine z_aload_n X dL_worthTop_0 2 rfl ?_
  refine z_iconst (v := (0 : Int32)) X dL_worthTop_1 rfl ?_
  refine z_aload_n X dL_worthTop_2 0 rfl ?_
  refine z_iload_n X dL_worthTop_3 1 rfl ?_
  refine z_tcallVl (st := [.int 0, .ref (aU 0)]) (ws2 := [wX11 (zcT C) aO (aP 0) (aX 0) (aL 0) (aW 0) (aV 0) (aF 0) (aK 0) (aZ 0) (aR 0) aN sO, wX5 (zcT C) aP sP, wX9 (zcT C) aW (aP 0) (aS 0) (aD 0) (aQ 0) out.2.1, wX7 (zcT C) aS out.2.2.1, wX1 (zcT C) aD out.2.2.2.1, wX4 (zcT C) aQ out.2.2.2.2.1, wX9 (zcT C) aV (aP 0) (aSv 0) (aDv 0) (aQv 0) out.2.2.2.2.2.1, wX7 (zcT C) aSv out.2.2.2.2.2.2.1, wX1 (zcT C) aDv out.2.2.2.2.2.2.2.1, wX4 (zcT C) aQv out.2.2.2.2.2.2.2.2.1, wX2 (zcT C) aR out.2.2.2.2.2.2.2.2.2, wU (zcT C) aU sU]) X Y (metX11_worthTop (zcl C) Y.2.2.2.2.1 (zcD C) (zcT C) aO aP aX aL aW aV aF aK aZ aR aS aD aQ aSv aDv aQv aN hf) zl_worthTop zlk_worthTop dL_worthTop_4 0 0 12 rfl rfl rfl rfl [0, 1, 2, 3, 4, 5, 6, 7, 8, 9, 10] rfl rfl [2, 3, 4, 5, 6, 7, 8, 9, 10] rfl (by decide) ⟨zsX9, zsX7, zsX1, zsX4, zsX9, zsX7, zsX1, zsX4, zsX2, trivial⟩ rfl rfl rfl (Nat.le_of_ble_eq_true rfl) rfl rfl ⟨Nat.le_of_ble_eq_true rfl, Nat.le_of_ble_eq_true rfl⟩ ⟨Nat.le_of_ble_eq_true rfl, Nat.le_of_ble_eq_true rfl⟩ (fun E hE => ?_) (fun r hr => ?_)
  · rcases hk with ⟨v, e, -⟩ | ⟨E2, e, hm, rfl⟩
    · exact absurd (e.symm.trans hE) (by simp)
    · have hE2 : E2 = E := Sum.inl.inj (e.symm.trans hE)
      subst hE2
      rcases List.mem_cons.mp hm with h | hm
      · injection h with h1 h2
        subst h1 h2
        refine z_catch X Y hT [] ⟨0, 8, 11, 20⟩ [⟨0, 8, 14, 15⟩, ⟨0, 8, 17, 33⟩] rfl (fun z hz => absurd hz List.not_mem_nil) (by decide) (by decide) zll20 zlc20 (fun q => ?_)
        refine z_astore_n (lv2 := [(3, .ref q), (0, .ref (aO 0)), (1, .int x1), (2, .ref (aU 0))]) X dL_worthTop_11 rfl (by decide) rfl ?_
        refine z_iconst (v := (1 : Int32)) X dL_worthTop_12 rfl ?_
        exact z_iret X hQ dL_worthTop_13 rfl [2, 3, 4, 5, 6, 7, 8, 9, 10, 11] rfl (Nat.le_of_ble_eq_true rfl) (Nat.le_of_ble_eq_true rfl)
      rcases List.mem_cons.mp hm with h | hm
      · injection h with h1 h2
        subst h1 h2
        refine z_catch X Y hT [⟨0, 8, 11, 20⟩] ⟨0, 8, 14, 15⟩ [⟨0, 8, 17, 33⟩] rfl (fun z hz => by
            simp only [List.mem_cons, List.not_mem_nil, or_false] at hz
            subst hz
            · exact ⟨by decide, _, zll20, by decide +kernel, by decide +kernel, by decide +kernel⟩) (by decide) (by decide) zll15 zlc15 (fun q => ?_)
        refine z_astore_n (lv2 := [(3, .ref q), (0, .ref (aO 0)), (1, .int x1), (2, .ref (aU 0))]) X dL_worthTop_14 rfl (by decide) rfl ?_
        refine z_iconst (v := (2 : Int32)) X dL_worthTop_15 rfl ?_
        exact z_iret X hQ dL_worthTop_16 rfl [2, 3, 4, 5, 6, 7, 8, 9, 10, 11] rfl (Nat.le_of_ble_eq_true rfl) (Nat.le_of_ble_eq_true rfl)
      rcases List.mem_cons.mp hm with h | hm
      · injection h with h1 h2
        subst h1 h2
        refine z_catch X Y hT [⟨0, 8, 11, 20⟩, ⟨0, 8, 14, 15⟩] ⟨0, 8, 17, 33⟩ [] rfl (fun z hz => by
            simp only [List.mem_cons, List.not_mem_nil, or_false] at hz
            rcases hz with rfl | rfl
            · exact ⟨by decide, _, zll20, by decide +kernel, by decide +kernel, by decide +kernel⟩
            · exact ⟨by decide, _, zll15, by decide +kernel, by decide +kernel, by decide +kernel⟩) (by decide) (by decide) zll33 zlc33 (fun q => ?_)
        refine z_astore_n (lv2 := [(3, .ref q), (0, .ref (aO 0)), (1, .int x1), (2, .ref (aU 0))]) X dL_worthTop_17 rfl (by decide) rfl ?_
        refine z_iconst (v := (3 : Int32)) X dL_worthTop_18 rfl ?_
        exact z_iret X hQ dL_worthTop_19 rfl [2, 3, 4, 5, 6, 7, 8, 9, 10, 11] rfl (Nat.le_of_ble_eq_true rfl) (Nat.le_of_ble_eq_true rfl)
      exact absurd hm List.not_mem_nil
  · rcases hk with ⟨v, e, rfl, rfl⟩ | ⟨E2, e, -⟩
    · have hv : r = v := Sum.inr.inj (hr.symm.trans e)
      subst hv
      clear hr
      refine z_last (ws2 := [wX11 (zcT C) aO (aP 0) (aX 0) (aL 0) (aW 0) (aV 0) (aF 0) (aK 0) (aZ 0) (aR 0) aN sO, wX5 (zcT C) aP sP, wX9 (zcT C) aW (aP 0) (aS 0) (aD 0) (aQ 0) out.2.1, wX7 (zcT C) aS out.2.2.1, wX1 (zcT C) aD out.2.2.2.1, wX4 (zcT C) aQ out.2.2.2.2.1, wX9 (zcT C) aV (aP 0) (aSv 0) (aDv 0) (aQv 0) out.2.2.2.2.2.1, wX7 (zcT C) aSv out.2.2.2.2.2.2.1, wX1 (zcT C) aDv out.2.2.2.2.2.2.2.1, wX4 (zcT C) aQv out.2.2.2.2.2.2.2.2.1, wX2 (zcT C) aR out.2.2.2.2.2.2.2.2.2, wU (zcT C) aU (zsb sU 0 (vp_updL (zgb sU 0) ((0 : Int32)).toNatClampNeg ((fun v : Int64 => v) r)))]) X 11 0 (by decide) dL_worthTop_7 rfl rfl (by decide) rfl rfl ?_
      refine z_goto (tgt := 20) X dL_worthTop_8 (by decide) ?_
      refine z_iconst (v := (0 : Int32)) X dL_worthTop_20 rfl ?_
      exact z_iret X hQ dL_worthTop_21 rfl [2, 3, 4, 5, 6, 7, 8, 9, 10, 11] rfl (Nat.le_of_ble_eq_true rfl) (Nat.le_of_ble_eq_true rfl)
    · exact absurd (e.symm.trans hr) (by simp)
theorem zlk_worthBottom : Cond.methodLink RL 90 yX11_worthBottom ∈ zW := zW_tab (List.mem_of_getElem? (i := 1226) (by decide +kernel)) (by decide +kernel)
abbrev rmL_worthBottom : Room := { frames := 10, cells := 3, slots := 18, locals := 172 }
theorem metL_worthBottom (l : Launch) (hst : l.stackTraces = false) (D : va_G) (T : Nat → ClassId) (aO : Nat → Nat) (aP : Nat → Nat) (aX : Nat → Nat) (aL : Nat → Nat) (aW : Nat → Nat) (aV : Nat → Nat) (aF : Nat → Nat) (aK : Nat → Nat) (aZ : Nat → Nat) (aR : Nat → Nat) (aS : Nat → Nat) (aD : Nat → Nat) (aQ : Nat → Nat) (aSv : Nat → Nat) (aDv : Nat → Nat) (aQv : Nat → Nat) (aN : Nat → Nat) {sO : zSt} {sP : zSt} {sW : zSt} {sS : zSt} {sD : zSt} {sQ : zSt} {sV : zSt} {sSv : zSt} {sDv : zSt} {sQv : zSt} {sR : zSt} {x1 : Int32} {out : (String ⊕ Int64) × zSt × zSt × zSt × zSt × zSt × zSt × zSt × zSt × zSt} (hf : fX11_worthBottom sO sP sW sS sD sQ sV sSv sDv sQv sR x1 = some out) (aU : Nat → Nat) {sU sU2 : zSt} {k0 : Int32} (hk : zWr (fun v : Int64 => v) [("java/lang/IndexOutOfBoundsException", 1), ("java/lang/IllegalStateException", 2), ("java/util/NoSuchElementException", 3)] out.1 sU k0 sU2) (base sz : Nat) : Met l yL_worthBottom (Cond.codeWith yL_worthBottom cL_worthBottom 4 (some .int) [(0, 8, 11, 20), (0, 8, 14, 15), (0, 8, 17, 33)] :: zW) rmL_worthBottom (zPL D T [.ref (aO 0), .int x1, .ref (aU 0)] [wX11 T aO (aP 0) (aX 0) (aL 0) (aW 0) (aV 0) (aF 0) (aK 0) (aZ 0) (aR 0) aN sO, wX5 T aP sP, wX9 T aW (aP 0) (aS 0) (aD 0) (aQ 0) sW, wX7 T aS sS, wX1 T aD sD, wX4 T aQ sQ, wX9 T aV (aP 0) (aSv 0) (aDv 0) (aQv 0) sV, wX7 T aSv sSv, wX1 T aDv sDv, wX4 T aQv sQv, wX2 T aR sR, wU T aU sU] [wX9 T aW (aP 0) (aS 0) (aD 0) (aQ 0) sW, wX7 T aS sS, wX1 T aD sD, wX4 T aQ sQ, wX9 T aV (aP 0) (aSv 0) (aDv 0) (aQv 0) sV, wX7 T aSv sSv, wX1 T aDv sDv, wX4 T aQv sQv, wX2 T aR sR, wU T aU sU] base sz) (zQi D k0 [wX9 T aW (aP 0) (aS 0) (aD 0) (aQ 0) out.2.1, wX7 T aS out.2.2.1, wX1 T aD out.2.2.2.1, wX4 T aQ out.2.2.2.2.1, wX9 T aV (aP 0) (aSv 0) (aDv 0) (aQv 0) out.2.2.2.2.2.1, wX7 T aSv out.2.2.2.2.2.2.1, wX1 T aDv out.2.2.2.2.2.2.2.1, wX4 T aQv out.2.2.2.2.2.2.2.2.1, wX2 T aR out.2.2.2.2.2.2.2.2.2, wU T aU sU2] (zA [wX9 T aW (aP 0) (aS 0) (aD 0) (aQ 0) sW, wX7 T aS sS, wX1 T aD sD, wX4 T aQ sQ, wX9 T aV (aP 0) (aSv 0) (aDv 0) (aQv 0) sV, wX7 T aSv sSv, wX1 T aDv sDv, wX4 T aQv sQv, wX2 T aR sR, wU T aU sU] sz)) 3 18 (zA [wX9 T aW (aP 0) (aS 0) (aD 0) (aQ 0) sW, wX7 T aS sS, wX1 T aD sD, wX4 T aQ sQ, wX9 T aV (aP 0) (aSv 0) (aDv 0) (aQv 0) sV, wX7 T aSv sSv, wX1 T aDv sDv, wX4 T aQv sQv, wX2 T aR sR, wU T aU sU] sz) := by
  refine zMetL hst (D := D) (T := T) (av := [.ref (aO 0), .int x1, .ref (aU 0)]) (ws := fun T => [wX11 T aO (aP 0) (aX 0) (aL 0) (aW 0) (aV 0) (aF 0) (aK 0) (aZ 0) (aR 0) aN sO, wX5 T aP sP, wX9 T aW (aP 0) (aS 0) (aD 0) (aQ 0) sW, wX7 T aS sS, wX1 T aD sD, wX4 T aQ sQ, wX9 T aV (aP 0) (aSv 0) (aDv 0) (aQv 0) sV, wX7 T aSv sSv, wX1 T aDv sDv, wX4 T aQv sQv, wX2 T aR sR, wU T aU sU]) (wm := fun T => [wX9 T aW (aP 0) (aS 0) (aD 0) (aQ 0) sW, wX7 T aS sS, wX1 T aD sD, wX4 T aQ sQ, wX9 T aV (aP 0) (aSv 0) (aDv 0) (aQv 0) sV, wX7 T aSv sSv, wX1 T aDv sDv, wX4 T aQv sQv, wX2 T aR sR, wU T aU sU]) (lv0 := [(0, .ref (aO 0)), (1, .int x1), (2, .ref (aU 0))]) [2, 3, 4, 5, 6, 7, 8, 9, 10, 11] (Qc := fun D T A => zQi D k0 [wX9 T aW (aP 0) (aS 0) (aD 0) (aQ 0) out.2.1, wX7 T aS out.2.2.1, wX1 T aD out.2.2.2.1, wX4 T aQ out.2.2.2.2.1, wX9 T aV (aP 0) (aSv 0) (aDv 0) (aQv 0) out.2.2.2.2.2.1, wX7 T aSv out.2.2.2.2.2.2.1, wX1 T aDv out.2.2.2.2.2.2.2.1, wX4 T aQv out.2.2.2.2.2.2.2.2.1, wX2 T aR out.2.2.2.2.2.2.2.2.2, wU T aU sU2] A) (by decide +kernel) rfl (Nat.le_of_ble_eq_true rfl) rfl (fun C base X Y hT hQ => ?_) base sz
  refine z_aload_n X dL_worthBottom_0 2 rfl ?_
  refine z_iconst (v := (0 : Int32)) X dL_worthBottom_1 rfl ?_
  refine z_aload_n X dL_worthBottom_2 0 rfl ?_
  refine z_iload_n X dL_worthBottom_3 1 rfl ?_
  refine z_tcallVl (st := [.int 0, .ref (aU 0)]) (ws2 := [wX11 (zcT C) aO (aP 0) (aX 0) (aL 0) (aW 0) (aV 0) (aF 0) (aK 0) (aZ 0) (aR 0) aN sO, wX5 (zcT C) aP sP, wX9 (zcT C) aW (aP 0) (aS 0) (aD 0) (aQ 0) out.2.1, wX7 (zcT C) aS out.2.2.1, wX1 (zcT C) aD out.2.2.2.1, wX4 (zcT C) aQ out.2.2.2.2.1, wX9 (zcT C) aV (aP 0) (aSv 0) (aDv 0) (aQv 0) out.2.2.2.2.2.1, wX7 (zcT C) aSv out.2.2.2.2.2.2.1, wX1 (zcT C) aDv out.2.2.2.2.2.2.2.1, wX4 (zcT C) aQv out.2.2.2.2.2.2.2.2.1, wX2 (zcT C) aR out.2.2.2.2.2.2.2.2.2, wU (zcT C) aU sU]) X Y (metX11_worthBottom (zcl C) Y.2.2.2.2.1 (zcD C) (zcT C) aO aP aX aL aW aV aF aK aZ aR aS aD aQ aSv aDv aQv aN hf) zl_worthBottom zlk_worthBottom dL_worthBottom_4 0 0 12 rfl rfl rfl rfl [0, 1, 2, 3, 4, 5, 6, 7, 8, 9, 10] rfl rfl [2, 3, 4, 5, 6, 7, 8, 9, 10] rfl (by decide) ⟨zsX9, zsX7, zsX1, zsX4, zsX9, zsX7, zsX1, zsX4, zsX2, trivial⟩ rfl rfl rfl (Nat.le_of_ble_eq_true rfl) rfl rfl ⟨Nat.le_of_ble_eq_true rfl, Nat.le_of_ble_eq_true rfl⟩ ⟨Nat.le_of_ble_eq_true rfl, Nat.le_of_ble_eq_true rfl⟩ (fun E hE => ?_) (fun r hr => ?_)
  · rcases hk with ⟨v, e, -⟩ | ⟨E2, e, hm, rfl⟩
    · exact absurd (e.symm.trans hE) (by simp)
    · have hE2 : E2 = E := Sum.inl.inj (e.symm.trans hE)
      subst hE2
      rcases List.mem_cons.mp hm with h | hm
      · injection h with h1 h2
        subst h1 h2
        refine z_catch X Y hT [] ⟨0, 8, 11, 20⟩ [⟨0, 8, 14, 15⟩, ⟨0, 8, 17, 33⟩] rfl (fun z hz => absurd hz List.not_mem_nil) (by decide) (by decide) zll20 zlc20 (fun q => ?_)
        refine z_astore_n (lv2 := [(3, .ref q), (0, .ref (aO 0)), (1, .int x1), (2, .ref (aU 0))]) X dL_worthBottom_11 rfl (by decide) rfl ?_
        refine z_iconst (v := (1 : Int32)) X dL_worthBottom_12 rfl ?_
        exact z_iret X hQ dL_worthBottom_13 rfl [2, 3, 4, 5, 6, 7, 8, 9, 10, 11] rfl (Nat.le_of_ble_eq_true rfl) (Nat.le_of_ble_eq_true rfl)
      rcases List.mem_cons.mp hm with h | hm
      · injection h with h1 h2
        subst h1 h2
        refine z_catch X Y hT [⟨0, 8, 11, 20⟩] ⟨0, 8, 14, 15⟩ [⟨0, 8, 17, 33⟩] rfl (fun z hz => by
            simp only [List.mem_cons, List.not_mem_nil, or_false] at hz
            subst hz
            · exact ⟨by decide, _, zll20, by decide +kernel, by decide +kernel, by decide +kernel⟩) (by decide) (by decide) zll15 zlc15 (fun q => ?_)
        refine z_astore_n (lv2 := [(3, .ref q), (0, .ref (aO 0)), (1, .int x1), (2, .ref (aU 0))]) X dL_worthBottom_14 rfl (by decide) rfl ?_
        refine z_iconst (v := (2 : Int32)) X dL_worthBottom_15 rfl ?_
        exact z_iret X hQ dL_worthBottom_16 rfl [2, 3, 4, 5, 6, 7, 8, 9, 10, 11] rfl (Nat.le_of_ble_eq_true rfl) (Nat.le_of_ble_eq_true rfl)
      rcases List.mem_cons.mp hm with h | hm
      · injection h with h1 h2
        subst h1 h2
        refine z_catch X Y hT [⟨0, 8, 11, 20⟩, ⟨0, 8, 14, 15⟩] ⟨0, 8, 17, 33⟩ [] rfl (fun z hz => by
            simp only [List.mem_cons, List.not_mem_nil, or_false] at hz
            rcases hz with rfl | rfl
            · exact ⟨by decide, _, zll20, by decide +kernel, by decide +kernel, by decide +kernel⟩
            · exact ⟨by decide, _, zll15, by decide +kernel, by decide +kernel, by decide +kernel⟩) (by decide) (by decide) zll33 zlc33 (fun q => ?_)
        refine z_astore_n (lv2 := [(3, .ref q), (0, .ref (aO 0)), (1, .int x1), (2, .ref (aU 0))]) X dL_worthBottom_17 rfl (by decide) rfl ?_
        refine z_iconst (v := (3 : Int32)) X dL_worthBottom_18 rfl ?_
        exact z_iret X hQ dL_worthBottom_19 rfl [2, 3, 4, 5, 6, 7, 8, 9, 10, 11] rfl (Nat.le_of_ble_eq_true rfl) (Nat.le_of_ble_eq_true rfl)
      exact absurd hm List.not_mem_nil
  · rcases hk with ⟨v, e, rfl, rfl⟩ | ⟨E2, e, -⟩
    · have hv : r = v := Sum.inr.inj (hr.symm.trans e)
      subst hv
      clear hr
      refine z_last (ws2 := [wX11 (zcT C) aO (aP 0) (aX 0) (aL 0) (aW 0) (aV 0) (aF 0) (aK 0) (aZ 0) (aR 0) aN sO, wX5 (zcT C) aP sP, wX9 (zcT C) aW (aP 0) (aS 0) (aD 0) (aQ 0) out.2.1, wX7 (zcT C) aS out.2.2.1, wX1 (zcT C) aD out.2.2.2.1, wX4 (zcT C) aQ out.2.2.2.2.1, wX9 (zcT C) aV (aP 0) (aSv 0) (aDv 0) (aQv 0) out.2.2.2.2.2.1, wX7 (zcT C) aSv out.2.2.2.2.2.2.1, wX1 (zcT C) aDv out.2.2.2.2.2.2.2.1, wX4 (zcT C) aQv out.2.2.2.2.2.2.2.2.1, wX2 (zcT C) aR out.2.2.2.2.2.2.2.2.2, wU (zcT C) aU (zsb sU 0 (vp_updL (zgb sU 0) ((0 : Int32)).toNatClampNeg ((fun v : Int64 => v) r)))]) X 11 0 (by decide) dL_worthBottom_7 rfl rfl (by decide) rfl rfl ?_
      refine z_goto (tgt := 20) X dL_worthBottom_8 (by decide) ?_
      refine z_iconst (v := (0 : Int32)) X dL_worthBottom_20 rfl ?_
      exact z_iret X hQ dL_worthBottom_21 rfl [2, 3, 4, 5, 6, 7, 8, 9, 10, 11] rfl (Nat.le_of_ble_eq_true rfl) (Nat.le_of_ble_eq_true rfl)
    · exact absurd (e.symm.trans hr) (by simp)
theorem zlk_conflict : Cond.methodLink RL 93 yX11_conflict ∈ zW := zW_tab (List.mem_of_getElem? (i := 1233) (by decide +kernel)) (by decide +kernel)
abbrev rmL_conflict : Room := { frames := 7, cells := 1, slots := 6, locals := 151 }
theorem metL_conflict (l : Launch) (hst : l.stackTraces = false) (D : va_G) (T : Nat → ClassId) (aO : Nat → Nat) (aP : Nat → Nat) (aX : Nat → Nat) (aL : Nat → Nat) (aW : Nat → Nat) (aV : Nat → Nat) (aF : Nat → Nat) (aK : Nat → Nat) (aZ : Nat → Nat) (aR : Nat → Nat) (aS : Nat → Nat) (aD : Nat → Nat) (aQ : Nat → Nat) (aSv : Nat → Nat) (aDv : Nat → Nat) (aQv : Nat → Nat) (aN : Nat → Nat) {sO : zSt} {sP : zSt} {sW : zSt} {sS : zSt} {sD : zSt} {sQ : zSt} {sV : zSt} {sSv : zSt} {sDv : zSt} {out : (String ⊕ Int32) × zSt × zSt × zSt × zSt × zSt × zSt × zSt} (hf : fX11_conflict sO sP sW sS sD sQ sV sSv sDv = some out) (aU : Nat → Nat) {sU sU2 : zSt} {k0 : Int32} (hk : zWr (fun v : Int32 => v.toInt64) [("java/lang/IllegalStateException", 1)] out.1 sU k0 sU2) (base sz : Nat) : Met l yL_conflict (Cond.codeWith yL_conflict cL_conflict 3 (some .int) [(0, 8, 11, 15)] :: zW) rmL_conflict (zPL D T [.ref (aO 0), .ref (aU 0)] [wX11 T aO (aP 0) (aX 0) (aL 0) (aW 0) (aV 0) (aF 0) (aK 0) (aZ 0) (aR 0) aN sO, wX5 T aP sP, wX9 T aW (aP 0) (aS 0) (aD 0) (aQ 0) sW, wX7 T aS sS, wX1 T aD sD, wX4 T aQ sQ, wX9 T aV (aP 0) (aSv 0) (aDv 0) (aQv 0) sV, wX7 T aSv sSv, wX1 T aDv sDv, wU T aU sU] [wX9 T aW (aP 0) (aS 0) (aD 0) (aQ 0) sW, wX7 T aS sS, wX1 T aD sD, wX4 T aQ sQ, wX9 T aV (aP 0) (aSv 0) (aDv 0) (aQv 0) sV, wX7 T aSv sSv, wX1 T aDv sDv, wU T aU sU] base sz) (zQi D k0 [wX9 T aW (aP 0) (aS 0) (aD 0) (aQ 0) out.2.1, wX7 T aS out.2.2.1, wX1 T aD out.2.2.2.1, wX4 T aQ out.2.2.2.2.1, wX9 T aV (aP 0) (aSv 0) (aDv 0) (aQv 0) out.2.2.2.2.2.1, wX7 T aSv out.2.2.2.2.2.2.1, wX1 T aDv out.2.2.2.2.2.2.2, wU T aU sU2] (zA [wX9 T aW (aP 0) (aS 0) (aD 0) (aQ 0) sW, wX7 T aS sS, wX1 T aD sD, wX4 T aQ sQ, wX9 T aV (aP 0) (aSv 0) (aDv 0) (aQv 0) sV, wX7 T aSv sSv, wX1 T aDv sDv, wU T aU sU] sz)) 1 6 (zA [wX9 T aW (aP 0) (aS 0) (aD 0) (aQ 0) sW, wX7 T aS sS, wX1 T aD sD, wX4 T aQ sQ, wX9 T aV (aP 0) (aSv 0) (aDv 0) (aQv 0) sV, wX7 T aSv sSv, wX1 T aDv sDv, wU T aU sU] sz) := by
  refine zMetL hst (D := D) (T := T) (av := [.ref (aO 0), .ref (aU 0)]) (ws := fun T => [wX11 T aO (aP 0) (aX 0) (aL 0) (aW 0) (aV 0) (aF 0) (aK 0) (aZ 0) (aR 0) aN sO, wX5 T aP sP, wX9 T aW (aP 0) (aS 0) (aD 0) (aQ 0) sW, wX7 T aS sS, wX1 T aD sD, wX4 T aQ sQ, wX9 T aV (aP 0) (aSv 0) (aDv 0) (aQv 0) sV, wX7 T aSv sSv, wX1 T aDv sDv, wU T aU sU]) (wm := fun T => [wX9 T aW (aP 0) (aS 0) (aD 0) (aQ 0) sW, wX7 T aS sS, wX1 T aD sD, wX4 T aQ sQ, wX9 T aV (aP 0) (aSv 0) (aDv 0) (aQv 0) sV, wX7 T aSv sSv, wX1 T aDv sDv, wU T aU sU]) (lv0 := [(0, .ref (aO 0)), (1, .ref (aU 0))]) [2, 3, 4, 5, 6, 7, 8, 9] (Qc := fun D T A => zQi D k0 [wX9 T aW (aP 0) (aS 0) (aD 0) (aQ 0) out.2.1, wX7 T aS out.2.2.1, wX1 T aD out.2.2.2.1, wX4 T aQ out.2.2.2.2.1, wX9 T aV (aP 0) (aSv 0) (aDv 0) (aQv 0) out.2.2.2.2.2.1, wX7 T aSv out.2.2.2.2.2.2.1, wX1 T aDv out.2.2.2.2.2.2.2, wU T aU sU2] A) (by decide +kernel) rfl (Nat.le_of_ble_eq_true rfl) rfl (fun C base X Y hT hQ => ?_) base sz
  refine z_aload_n X dL_conflict_0 1 rfl ?_
  refine z_iconst (v := (0 : Int32)) X dL_conflict_1 rfl ?_
  refine z_aload_n X dL_conflict_2 0 rfl ?_
  refine z_tcallVi (st := [.int 0, .ref (aU 0)]) (ws2 := [wX11 (zcT C) aO (aP 0) (aX 0) (aL 0) (aW 0) (aV 0) (aF 0) (aK 0) (aZ 0) (aR 0) aN sO, wX5 (zcT C) aP sP, wX9 (zcT C) aW (aP 0) (aS 0) (aD 0) (aQ 0) out.2.1, wX7 (zcT C) aS out.2.2.1, wX1 (zcT C) aD out.2.2.2.1, wX4 (zcT C) aQ out.2.2.2.2.1, wX9 (zcT C) aV (aP 0) (aSv 0) (aDv 0) (aQv 0) out.2.2.2.2.2.1, wX7 (zcT C) aSv out.2.2.2.2.2.2.1, wX1 (zcT C) aDv out.2.2.2.2.2.2.2, wU (zcT C) aU sU]) X Y (metX11_conflict (zcl C) Y.2.2.2.2.1 (zcD C) (zcT C) aO aP aX aL aW aV aF aK aZ aR aS aD aQ aSv aDv aQv aN hf) zl_conflict zlk_conflict dL_conflict_3 0 0 12 rfl rfl rfl rfl [0, 1, 2, 3, 4, 5, 6, 7, 8] rfl rfl [2, 3, 4, 5, 6, 7, 8] rfl (by decide) ⟨zsX9, zsX7, zsX1, zsX4, zsX9, zsX7, zsX1, trivial⟩ rfl rfl rfl (Nat.le_of_ble_eq_true rfl) rfl rfl ⟨Nat.le_of_ble_eq_true rfl, Nat.le_of_ble_eq_true rfl⟩ ⟨Nat.le_of_ble_eq_true rfl, Nat.le_of_ble_eq_true rfl⟩ (fun E hE => ?_) (fun r hr => ?_)
  · rcases hk with ⟨v, e, -⟩ | ⟨E2, e, hm, rfl⟩
    · exact absurd (e.symm.trans hE) (by simp)
    · have hE2 : E2 = E := Sum.inl.inj (e.symm.trans hE)
      subst hE2
      rcases List.mem_cons.mp hm with h | hm
      · injection h with h1 h2
        subst h1 h2
        refine z_catch X Y hT [] ⟨0, 8, 11, 15⟩ [] rfl (fun z hz => absurd hz List.not_mem_nil) (by decide) (by decide) zll15 zlc15 (fun q => ?_)
        refine z_astore_n (lv2 := [(2, .ref q), (0, .ref (aO 0)), (1, .ref (aU 0))]) X dL_conflict_11 rfl (by decide) rfl ?_
        refine z_iconst (v := (1 : Int32)) X dL_conflict_12 rfl ?_
        exact z_iret X hQ dL_conflict_13 rfl [2, 3, 4, 5, 6, 7, 8, 9] rfl (Nat.le_of_ble_eq_true rfl) (Nat.le_of_ble_eq_true rfl)
      exact absurd hm List.not_mem_nil
  · rcases hk with ⟨v, e, rfl, rfl⟩ | ⟨E2, e, -⟩
    · have hv : r = v := Sum.inr.inj (hr.symm.trans e)
      subst hv
      clear hr
      refine z_i2l X dL_conflict_6 ?_
      refine z_last (ws2 := [wX11 (zcT C) aO (aP 0) (aX 0) (aL 0) (aW 0) (aV 0) (aF 0) (aK 0) (aZ 0) (aR 0) aN sO, wX5 (zcT C) aP sP, wX9 (zcT C) aW (aP 0) (aS 0) (aD 0) (aQ 0) out.2.1, wX7 (zcT C) aS out.2.2.1, wX1 (zcT C) aD out.2.2.2.1, wX4 (zcT C) aQ out.2.2.2.2.1, wX9 (zcT C) aV (aP 0) (aSv 0) (aDv 0) (aQv 0) out.2.2.2.2.2.1, wX7 (zcT C) aSv out.2.2.2.2.2.2.1, wX1 (zcT C) aDv out.2.2.2.2.2.2.2, wU (zcT C) aU (zsb sU 0 (vp_updL (zgb sU 0) ((0 : Int32)).toNatClampNeg ((fun v : Int32 => v.toInt64) r)))]) X 9 0 (by decide) dL_conflict_7 rfl rfl (by decide) rfl rfl ?_
      refine z_goto (tgt := 14) X dL_conflict_8 (by decide) ?_
      refine z_iconst (v := (0 : Int32)) X dL_conflict_14 rfl ?_
      exact z_iret X hQ dL_conflict_15 rfl [2, 3, 4, 5, 6, 7, 8, 9] rfl (Nat.le_of_ble_eq_true rfl) (Nat.le_of_ble_eq_true rfl)
    · exact absurd (e.symm.trans hr) (by simp)
theorem zlk_wholeAt : Cond.methodLink RL 96 yX11_wholeAt ∈ zW := zW_tab (List.mem_of_getElem? (i := 1245) (by decide +kernel)) (by decide +kernel)
abbrev rmL_wholeAt : Room := { frames := 8, cells := 2, slots := 12, locals := 172 }
theorem metL_wholeAt (l : Launch) (hst : l.stackTraces = false) (D : va_G) (T : Nat → ClassId) (aO : Nat → Nat) (aP : Nat → Nat) (aX : Nat → Nat) (aL : Nat → Nat) (aW : Nat → Nat) (aV : Nat → Nat) (aF : Nat → Nat) (aK : Nat → Nat) (aZ : Nat → Nat) (aR : Nat → Nat) (aE : Nat → Nat) (aH : Nat → Nat) (aN : Nat → Nat) {sO : zSt} {sP : zSt} {sZ : zSt} {sE : zSt} {sH : zSt} {x1 : Int32} {out : (String ⊕ Int32) × zSt × zSt × zSt} (hf : fX11_wholeAt sO sP sZ sE sH x1 = some out) (aU : Nat → Nat) {sU sU2 : zSt} {k0 : Int32} (hk : zWr (fun v : Int32 => v.toInt64) [("java/lang/IndexOutOfBoundsException", 1), ("java/lang/UnsupportedOperationException", 2), ("java/util/NoSuchElementException", 3)] out.1 sU k0 sU2) (base sz : Nat) : Met l yL_wholeAt (Cond.codeWith yL_wholeAt cL_wholeAt 4 (some .int) [(0, 9, 12, 20), (0, 9, 15, 38), (0, 9, 18, 33)] :: zW) rmL_wholeAt (zPL D T [.ref (aO 0), .int x1, .ref (aU 0)] [wX11 T aO (aP 0) (aX 0) (aL 0) (aW 0) (aV 0) (aF 0) (aK 0) (aZ 0) (aR 0) aN sO, wX5 T aP sP, wX10 T aZ (aP 0) (aE 0) (aH 0) sZ, wX4 T aE sE, wX4 T aH sH, wU T aU sU] [wX10 T aZ (aP 0) (aE 0) (aH 0) sZ, wX4 T aE sE, wX4 T aH sH, wU T aU sU] base sz) (zQi D k0 [wX10 T aZ (aP 0) (aE 0) (aH 0) out.2.1, wX4 T aE out.2.2.1, wX4 T aH out.2.2.2, wU T aU sU2] (zA [wX10 T aZ (aP 0) (aE 0) (aH 0) sZ, wX4 T aE sE, wX4 T aH sH, wU T aU sU] sz)) 2 12 (zA [wX10 T aZ (aP 0) (aE 0) (aH 0) sZ, wX4 T aE sE, wX4 T aH sH, wU T aU sU] sz) := by
  refine zMetL hst (D := D) (T := T) (av := [.ref (aO 0), .int x1, .ref (aU 0)]) (ws := fun T => [wX11 T aO (aP 0) (aX 0) (aL 0) (aW 0) (aV 0) (aF 0) (aK 0) (aZ 0) (aR 0) aN sO, wX5 T aP sP, wX10 T aZ (aP 0) (aE 0) (aH 0) sZ, wX4 T aE sE, wX4 T aH sH, wU T aU sU]) (wm := fun T => [wX10 T aZ (aP 0) (aE 0) (aH 0) sZ, wX4 T aE sE, wX4 T aH sH, wU T aU sU]) (lv0 := [(0, .ref (aO 0)), (1, .int x1), (2, .ref (aU 0))]) [2, 3, 4, 5] (Qc := fun D T A => zQi D k0 [wX10 T aZ (aP 0) (aE 0) (aH 0) out.2.1, wX4 T aE out.2.2.1, wX4 T aH out.2.2.2, wU T aU sU2] A) (by decide +kernel) rfl (Nat.le_of_ble_eq_true rfl) rfl (fun C base X Y hT hQ => ?_) base sz
  refine z_aload_n X dL_wholeAt_0 2 rfl ?_
  refine z_iconst (v := (0 : Int32)) X dL_wholeAt_1 rfl ?_
  refine z_aload_n X dL_wholeAt_2 0 rfl ?_
  refine z_iload_n X dL_wholeAt_3 1 rfl ?_
  refine z_tcallVi (st := [.int 0, .ref (aU 0)]) (ws2 := [wX11 (zcT C) aO (aP 0) (aX 0) (aL 0) (aW 0) (aV 0) (aF 0) (aK 0) (aZ 0) (aR 0) aN sO, wX5 (zcT C) aP sP, wX10 (zcT C) aZ (aP 0) (aE 0) (aH 0) out.2.1, wX4 (zcT C) aE out.2.2.1, wX4 (zcT C) aH out.2.2.2, wU (zcT C) aU sU]) X Y (metX11_wholeAt (zcl C) Y.2.2.2.2.1 (zcD C) (zcT C) aO aP aX aL aW aV aF aK aZ aR aE aH aN hf) zl_wholeAt zlk_wholeAt dL_wholeAt_4 0 0 12 rfl rfl rfl rfl [0, 1, 2, 3, 4] rfl rfl [2, 3, 4] rfl (by decide) ⟨zsX10, zsX4, zsX4, trivial⟩ rfl rfl rfl (Nat.le_of_ble_eq_true rfl) rfl rfl ⟨Nat.le_of_ble_eq_true rfl, Nat.le_of_ble_eq_true rfl⟩ ⟨Nat.le_of_ble_eq_true rfl, Nat.le_of_ble_eq_true rfl⟩ (fun E hE => ?_) (fun r hr => ?_)
  · rcases hk with ⟨v, e, -⟩ | ⟨E2, e, hm, rfl⟩
    · exact absurd (e.symm.trans hE) (by simp)
    · have hE2 : E2 = E := Sum.inl.inj (e.symm.trans hE)
      subst hE2
      rcases List.mem_cons.mp hm with h | hm
      · injection h with h1 h2
        subst h1 h2
        refine z_catch X Y hT [] ⟨0, 9, 12, 20⟩ [⟨0, 9, 15, 38⟩, ⟨0, 9, 18, 33⟩] rfl (fun z hz => absurd hz List.not_mem_nil) (by decide) (by decide) zll20 zlc20 (fun q => ?_)
        refine z_astore_n (lv2 := [(3, .ref q), (0, .ref (aO 0)), (1, .int x1), (2, .ref (aU 0))]) X dL_wholeAt_12 rfl (by decide) rfl ?_
        refine z_iconst (v := (1 : Int32)) X dL_wholeAt_13 rfl ?_
        exact z_iret X hQ dL_wholeAt_14 rfl [2, 3, 4, 5] rfl (Nat.le_of_ble_eq_true rfl) (Nat.le_of_ble_eq_true rfl)
      rcases List.mem_cons.mp hm with h | hm
      · injection h with h1 h2
        subst h1 h2
        refine z_catch X Y hT [⟨0, 9, 12, 20⟩] ⟨0, 9, 15, 38⟩ [⟨0, 9, 18, 33⟩] rfl (fun z hz => by
            simp only [List.mem_cons, List.not_mem_nil, or_false] at hz
            subst hz
            · exact ⟨by decide, _, zll20, by decide +kernel, by decide +kernel, by decide +kernel⟩) (by decide) (by decide) zll38 zlc38 (fun q => ?_)
        refine z_astore_n (lv2 := [(3, .ref q), (0, .ref (aO 0)), (1, .int x1), (2, .ref (aU 0))]) X dL_wholeAt_15 rfl (by decide) rfl ?_
        refine z_iconst (v := (2 : Int32)) X dL_wholeAt_16 rfl ?_
        exact z_iret X hQ dL_wholeAt_17 rfl [2, 3, 4, 5] rfl (Nat.le_of_ble_eq_true rfl) (Nat.le_of_ble_eq_true rfl)
      rcases List.mem_cons.mp hm with h | hm
      · injection h with h1 h2
        subst h1 h2
        refine z_catch X Y hT [⟨0, 9, 12, 20⟩, ⟨0, 9, 15, 38⟩] ⟨0, 9, 18, 33⟩ [] rfl (fun z hz => by
            simp only [List.mem_cons, List.not_mem_nil, or_false] at hz
            rcases hz with rfl | rfl
            · exact ⟨by decide, _, zll20, by decide +kernel, by decide +kernel, by decide +kernel⟩
            · exact ⟨by decide, _, zll38, by decide +kernel, by decide +kernel, by decide +kernel⟩) (by decide) (by decide) zll33 zlc33 (fun q => ?_)
        refine z_astore_n (lv2 := [(3, .ref q), (0, .ref (aO 0)), (1, .int x1), (2, .ref (aU 0))]) X dL_wholeAt_18 rfl (by decide) rfl ?_
        refine z_iconst (v := (3 : Int32)) X dL_wholeAt_19 rfl ?_
        exact z_iret X hQ dL_wholeAt_20 rfl [2, 3, 4, 5] rfl (Nat.le_of_ble_eq_true rfl) (Nat.le_of_ble_eq_true rfl)
      exact absurd hm List.not_mem_nil
  · rcases hk with ⟨v, e, rfl, rfl⟩ | ⟨E2, e, -⟩
    · have hv : r = v := Sum.inr.inj (hr.symm.trans e)
      subst hv
      clear hr
      refine z_i2l X dL_wholeAt_7 ?_
      refine z_last (ws2 := [wX11 (zcT C) aO (aP 0) (aX 0) (aL 0) (aW 0) (aV 0) (aF 0) (aK 0) (aZ 0) (aR 0) aN sO, wX5 (zcT C) aP sP, wX10 (zcT C) aZ (aP 0) (aE 0) (aH 0) out.2.1, wX4 (zcT C) aE out.2.2.1, wX4 (zcT C) aH out.2.2.2, wU (zcT C) aU (zsb sU 0 (vp_updL (zgb sU 0) ((0 : Int32)).toNatClampNeg ((fun v : Int32 => v.toInt64) r)))]) X 5 0 (by decide) dL_wholeAt_8 rfl rfl (by decide) rfl rfl ?_
      refine z_goto (tgt := 21) X dL_wholeAt_9 (by decide) ?_
      refine z_iconst (v := (0 : Int32)) X dL_wholeAt_21 rfl ?_
      exact z_iret X hQ dL_wholeAt_22 rfl [2, 3, 4, 5] rfl (Nat.le_of_ble_eq_true rfl) (Nat.le_of_ble_eq_true rfl)
    · exact absurd (e.symm.trans hr) (by simp)
theorem zlk_wholeValue : Cond.methodLink RL 99 yX11_wholeValue ∈ zW := zW_tab (List.mem_of_getElem? (i := 1280) (by decide +kernel)) (by decide +kernel)
abbrev rmL_wholeValue : Room := { frames := 8, cells := 2, slots := 12, locals := 172 }
theorem metL_wholeValue (l : Launch) (hst : l.stackTraces = false) (D : va_G) (T : Nat → ClassId) (aO : Nat → Nat) (aP : Nat → Nat) (aX : Nat → Nat) (aL : Nat → Nat) (aW : Nat → Nat) (aV : Nat → Nat) (aF : Nat → Nat) (aK : Nat → Nat) (aZ : Nat → Nat) (aR : Nat → Nat) (aE : Nat → Nat) (aH : Nat → Nat) (aN : Nat → Nat) {sO : zSt} {sP : zSt} {sZ : zSt} {sE : zSt} {sH : zSt} {x1 : Int32} {out : (String ⊕ Int32) × zSt × zSt × zSt} (hf : fX11_wholeValue sO sP sZ sE sH x1 = some out) (aU : Nat → Nat) {sU sU2 : zSt} {k0 : Int32} (hk : zWr (fun v : Int32 => v.toInt64) [("java/lang/IndexOutOfBoundsException", 1), ("java/lang/UnsupportedOperationException", 2), ("java/util/NoSuchElementException", 3)] out.1 sU k0 sU2) (base sz : Nat) : Met l yL_wholeValue (Cond.codeWith yL_wholeValue cL_wholeValue 4 (some .int) [(0, 9, 12, 20), (0, 9, 15, 38), (0, 9, 18, 33)] :: zW) rmL_wholeValue (zPL D T [.ref (aO 0), .int x1, .ref (aU 0)] [wX11 T aO (aP 0) (aX 0) (aL 0) (aW 0) (aV 0) (aF 0) (aK 0) (aZ 0) (aR 0) aN sO, wX5 T aP sP, wX10 T aZ (aP 0) (aE 0) (aH 0) sZ, wX4 T aE sE, wX4 T aH sH, wU T aU sU] [wX10 T aZ (aP 0) (aE 0) (aH 0) sZ, wX4 T aE sE, wX4 T aH sH, wU T aU sU] base sz) (zQi D k0 [wX10 T aZ (aP 0) (aE 0) (aH 0) out.2.1, wX4 T aE out.2.2.1, wX4 T aH out.2.2.2, wU T aU sU2] (zA [wX10 T aZ (aP 0) (aE 0) (aH 0) sZ, wX4 T aE sE, wX4 T aH sH, wU T aU sU] sz)) 2 12 (zA [wX10 T aZ (aP 0) (aE 0) (aH 0) sZ, wX4 T aE sE, wX4 T aH sH, wU T aU sU] sz) := by
  refine zMetL hst (D := D) (T := T) (av := [.ref (aO 0), .int x1, .ref (aU 0)]) (ws := fun T => [wX11 T aO (aP 0) (aX 0) (aL 0) (aW 0) (aV 0) (aF 0) (aK 0) (aZ 0) (aR 0) aN sO, wX5 T aP sP, wX10 T aZ (aP 0) (aE 0) (aH 0) sZ, wX4 T aE sE, wX4 T aH sH, wU T aU sU]) (wm := fun T => [wX10 T aZ (aP 0) (aE 0) (aH 0) sZ, wX4 T aE sE, wX4 T aH sH, wU T aU sU]) (lv0 := [(0, .ref (aO 0)), (1, .int x1), (2, .ref (aU 0))]) [2, 3, 4, 5] (Qc := fun D T A => zQi D k0 [wX10 T aZ (aP 0) (aE 0) (aH 0) out.2.1, wX4 T aE out.2.2.1, wX4 T aH out.2.2.2, wU T aU sU2] A) (by decide +kernel) rfl (Nat.le_of_ble_eq_true rfl) rfl (fun C base X Y hT hQ => ?_) base sz
  refine z_aload_n X dL_wholeValue_0 2 rfl ?_
  refine z_iconst (v := (0 : Int32)) X dL_wholeValue_1 rfl ?_
  refine z_aload_n X dL_wholeValue_2 0 rfl ?_
  refine z_iload_n X dL_wholeValue_3 1 rfl ?_
  refine z_tcallVi (st := [.int 0, .ref (aU 0)]) (ws2 := [wX11 (zcT C) aO (aP 0) (aX 0) (aL 0) (aW 0) (aV 0) (aF 0) (aK 0) (aZ 0) (aR 0) aN sO, wX5 (zcT C) aP sP, wX10 (zcT C) aZ (aP 0) (aE 0) (aH 0) out.2.1, wX4 (zcT C) aE out.2.2.1, wX4 (zcT C) aH out.2.2.2, wU (zcT C) aU sU]) X Y (metX11_wholeValue (zcl C) Y.2.2.2.2.1 (zcD C) (zcT C) aO aP aX aL aW aV aF aK aZ aR aE aH aN hf) zl_wholeValue zlk_wholeValue dL_wholeValue_4 0 0 12 rfl rfl rfl rfl [0, 1, 2, 3, 4] rfl rfl [2, 3, 4] rfl (by decide) ⟨zsX10, zsX4, zsX4, trivial⟩ rfl rfl rfl (Nat.le_of_ble_eq_true rfl) rfl rfl ⟨Nat.le_of_ble_eq_true rfl, Nat.le_of_ble_eq_true rfl⟩ ⟨Nat.le_of_ble_eq_true rfl, Nat.le_of_ble_eq_true rfl⟩ (fun E hE => ?_) (fun r hr => ?_)
  · rcases hk with ⟨v, e, -⟩ | ⟨E2, e, hm, rfl⟩
    · exact absurd (e.symm.trans hE) (by simp)
    · have hE2 : E2 = E := Sum.inl.inj (e.symm.trans hE)
      subst hE2
      rcases List.mem_cons.mp hm with h | hm
      · injection h with h1 h2
        subst h1 h2
        refine z_catch X Y hT [] ⟨0, 9, 12, 20⟩ [⟨0, 9, 15, 38⟩, ⟨0, 9, 18, 33⟩] rfl (fun z hz => absurd hz List.not_mem_nil) (by decide) (by decide) zll20 zlc20 (fun q => ?_)
        refine z_astore_n (lv2 := [(3, .ref q), (0, .ref (aO 0)), (1, .int x1), (2, .ref (aU 0))]) X dL_wholeValue_12 rfl (by decide) rfl ?_
        refine z_iconst (v := (1 : Int32)) X dL_wholeValue_13 rfl ?_
        exact z_iret X hQ dL_wholeValue_14 rfl [2, 3, 4, 5] rfl (Nat.le_of_ble_eq_true rfl) (Nat.le_of_ble_eq_true rfl)
      rcases List.mem_cons.mp hm with h | hm
      · injection h with h1 h2
        subst h1 h2
        refine z_catch X Y hT [⟨0, 9, 12, 20⟩] ⟨0, 9, 15, 38⟩ [⟨0, 9, 18, 33⟩] rfl (fun z hz => by
            simp only [List.mem_cons, List.not_mem_nil, or_false] at hz
            subst hz
            · exact ⟨by decide, _, zll20, by decide +kernel, by decide +kernel, by decide +kernel⟩) (by decide) (by decide) zll38 zlc38 (fun q => ?_)
        refine z_astore_n (lv2 := [(3, .ref q), (0, .ref (aO 0)), (1, .int x1), (2, .ref (aU 0))]) X dL_wholeValue_15 rfl (by decide) rfl ?_
        refine z_iconst (v := (2 : Int32)) X dL_wholeValue_16 rfl ?_
        exact z_iret X hQ dL_wholeValue_17 rfl [2, 3, 4, 5] rfl (Nat.le_of_ble_eq_true rfl) (Nat.le_of_ble_eq_true rfl)
      rcases List.mem_cons.mp hm with h | hm
      · injection h with h1 h2
        subst h1 h2
        refine z_catch X Y hT [⟨0, 9, 12, 20⟩, ⟨0, 9, 15, 38⟩] ⟨0, 9, 18, 33⟩ [] rfl (fun z hz => by
            simp only [List.mem_cons, List.not_mem_nil, or_false] at hz
            rcases hz with rfl | rfl
            · exact ⟨by decide, _, zll20, by decide +kernel, by decide +kernel, by decide +kernel⟩
            · exact ⟨by decide, _, zll38, by decide +kernel, by decide +kernel, by decide +kernel⟩) (by decide) (by decide) zll33 zlc33 (fun q => ?_)
        refine z_astore_n (lv2 := [(3, .ref q), (0, .ref (aO 0)), (1, .int x1), (2, .ref (aU 0))]) X dL_wholeValue_18 rfl (by decide) rfl ?_
        refine z_iconst (v := (3 : Int32)) X dL_wholeValue_19 rfl ?_
        exact z_iret X hQ dL_wholeValue_20 rfl [2, 3, 4, 5] rfl (Nat.le_of_ble_eq_true rfl) (Nat.le_of_ble_eq_true rfl)
      exact absurd hm List.not_mem_nil
  · rcases hk with ⟨v, e, rfl, rfl⟩ | ⟨E2, e, -⟩
    · have hv : r = v := Sum.inr.inj (hr.symm.trans e)
      subst hv
      clear hr
      refine z_i2l X dL_wholeValue_7 ?_
      refine z_last (ws2 := [wX11 (zcT C) aO (aP 0) (aX 0) (aL 0) (aW 0) (aV 0) (aF 0) (aK 0) (aZ 0) (aR 0) aN sO, wX5 (zcT C) aP sP, wX10 (zcT C) aZ (aP 0) (aE 0) (aH 0) out.2.1, wX4 (zcT C) aE out.2.2.1, wX4 (zcT C) aH out.2.2.2, wU (zcT C) aU (zsb sU 0 (vp_updL (zgb sU 0) ((0 : Int32)).toNatClampNeg ((fun v : Int32 => v.toInt64) r)))]) X 5 0 (by decide) dL_wholeValue_8 rfl rfl (by decide) rfl rfl ?_
      refine z_goto (tgt := 21) X dL_wholeValue_9 (by decide) ?_
      refine z_iconst (v := (0 : Int32)) X dL_wholeValue_21 rfl ?_
      exact z_iret X hQ dL_wholeValue_22 rfl [2, 3, 4, 5] rfl (Nat.le_of_ble_eq_true rfl) (Nat.le_of_ble_eq_true rfl)
    · exact absurd (e.symm.trans hr) (by simp)
theorem zlk_keep : Cond.methodLink RL 102 yX11_keep ∈ zW := zW_tab (List.mem_of_getElem? (i := 1287) (by decide +kernel)) (by decide +kernel)
abbrev rmL_keep : Room := { frames := 8, cells := 1, slots := 6, locals := 127 }
theorem metL_keep (l : Launch) (hst : l.stackTraces = false) (D : va_G) (T : Nat → ClassId) (aO : Nat → Nat) (aP : Nat → Nat) (aX : Nat → Nat) (aL : Nat → Nat) (aW : Nat → Nat) (aV : Nat → Nat) (aF : Nat → Nat) (aK : Nat → Nat) (aZ : Nat → Nat) (aR : Nat → Nat) (aN : Nat → Nat) {sO : zSt} {x1 : Int32} (hx : x1 < 0 ∨ 4 ≤ x1) (aU : Nat → Nat) {sU sU2 : zSt} {k0 : Int32} (hk : zWr (fun v : Int32 => v.toInt64) [("java/lang/IllegalArgumentException", 1), ("java/util/NoSuchElementException", 2)] (.inl "java/lang/IllegalArgumentException") sU k0 sU2) (base sz : Nat) : Met l yL_keep (Cond.codeWith yL_keep cL_keep 4 (some .int) [(0, 9, 12, 13), (0, 9, 15, 33)] :: zW) rmL_keep (zPL D T [.ref (aO 0), .int x1, .ref (aU 0)] [wX11 T aO (aP 0) (aX 0) (aL 0) (aW 0) (aV 0) (aF 0) (aK 0) (aZ 0) (aR 0) aN sO, wU T aU sU] [wU T aU sU] base sz) (zQi D k0 [wU T aU sU2] (zA [wU T aU sU] sz)) 1 6 (zA [wU T aU sU] sz) := by
  refine zMetL hst (D := D) (T := T) (av := [.ref (aO 0), .int x1, .ref (aU 0)]) (ws := fun T => [wX11 T aO (aP 0) (aX 0) (aL 0) (aW 0) (aV 0) (aF 0) (aK 0) (aZ 0) (aR 0) aN sO, wU T aU sU]) (wm := fun T => [wU T aU sU]) (lv0 := [(0, .ref (aO 0)), (1, .int x1), (2, .ref (aU 0))]) [1] (Qc := fun D T A => zQi D k0 [wU T aU sU2] A) (by decide +kernel) rfl (Nat.le_of_ble_eq_true rfl) rfl (fun C base X Y hT hQ => ?_) base sz
  refine z_aload_n X dL_keep_0 2 rfl ?_
  refine z_iconst (v := (0 : Int32)) X dL_keep_1 rfl ?_
  refine z_aload_n X dL_keep_2 0 rfl ?_
  refine z_iload_n X dL_keep_3 1 rfl ?_
  refine z_tcallVi (st := [.int 0, .ref (aU 0)]) (ws2 := [wX11 (zcT C) aO (aP 0) (aX 0) (aL 0) (aW 0) (aV 0) (aF 0) (aK 0) (aZ 0) (aR 0) aN sO, wU (zcT C) aU sU]) X Y (metX11_keep (zcl C) Y.2.2.2.2.1 (zcD C) (zcT C) aO aP aX aL aW aV aF aK aZ aR aN (sO := sO) hx) zl_keep zlk_keep dL_keep_4 0 0 12 rfl rfl rfl rfl [0] rfl rfl [] rfl (by decide) trivial rfl rfl rfl (Nat.le_of_ble_eq_true rfl) rfl rfl ⟨Nat.le_of_ble_eq_true rfl, Nat.le_of_ble_eq_true rfl⟩ ⟨Nat.le_of_ble_eq_true rfl, Nat.le_of_ble_eq_true rfl⟩ (fun E hE => ?_) (fun r hr => ?_)
  · rcases hk with ⟨v, e, -⟩ | ⟨E2, e, hm, rfl⟩
    · exact absurd (e.symm.trans hE) (by simp)
    · have hE2 : E2 = E := Sum.inl.inj (e.symm.trans hE)
      subst hE2
      rcases List.mem_cons.mp hm with h | hm
      · injection h with h1 h2
        subst h1 h2
        refine z_catch X Y hT [] ⟨0, 9, 12, 13⟩ [⟨0, 9, 15, 33⟩] rfl (fun z hz => absurd hz List.not_mem_nil) (by decide) (by decide) zll13 zlc13 (fun q => ?_)
        refine z_astore_n (lv2 := [(3, .ref q), (0, .ref (aO 0)), (1, .int x1), (2, .ref (aU 0))]) X dL_keep_12 rfl (by decide) rfl ?_
        refine z_iconst (v := (1 : Int32)) X dL_keep_13 rfl ?_
        exact z_iret X hQ dL_keep_14 rfl [1] rfl (Nat.le_of_ble_eq_true rfl) (Nat.le_of_ble_eq_true rfl)
      rcases List.mem_cons.mp hm with h | hm
      · injection h with h1 h2
        subst h1 h2
        refine z_catch X Y hT [⟨0, 9, 12, 13⟩] ⟨0, 9, 15, 33⟩ [] rfl (fun z hz => by
            simp only [List.mem_cons, List.not_mem_nil, or_false] at hz
            subst hz
            · exact ⟨by decide, _, zll13, by decide +kernel, by decide +kernel, by decide +kernel⟩) (by decide) (by decide) zll33 zlc33 (fun q => ?_)
        refine z_astore_n (lv2 := [(3, .ref q), (0, .ref (aO 0)), (1, .int x1), (2, .ref (aU 0))]) X dL_keep_15 rfl (by decide) rfl ?_
        refine z_iconst (v := (2 : Int32)) X dL_keep_16 rfl ?_
        exact z_iret X hQ dL_keep_17 rfl [1] rfl (Nat.le_of_ble_eq_true rfl) (Nat.le_of_ble_eq_true rfl)
      exact absurd hm List.not_mem_nil
  · rcases hk with ⟨v, e, rfl, rfl⟩ | ⟨E2, e, -⟩
    · have hv : r = v := Sum.inr.inj (hr.symm.trans e)
      subst hv
      clear hr
      refine z_i2l X dL_keep_7 ?_
      refine z_last (ws2 := [wX11 (zcT C) aO (aP 0) (aX 0) (aL 0) (aW 0) (aV 0) (aF 0) (aK 0) (aZ 0) (aR 0) aN sO, wU (zcT C) aU (zsb sU 0 (vp_updL (zgb sU 0) ((0 : Int32)).toNatClampNeg ((fun v : Int32 => v.toInt64) r)))]) X 1 0 (by decide) dL_keep_8 rfl rfl (by decide) rfl rfl ?_
      refine z_goto (tgt := 18) X dL_keep_9 (by decide) ?_
      refine z_iconst (v := (0 : Int32)) X dL_keep_18 rfl ?_
      exact z_iret X hQ dL_keep_19 rfl [1] rfl (Nat.le_of_ble_eq_true rfl) (Nat.le_of_ble_eq_true rfl)
    · exact absurd (e.symm.trans hr) (by simp)
abbrev rmL_keep_0 : Room := { frames := 8, cells := 1, slots := 6, locals := 171 }
theorem metL_keep_0 (l : Launch) (hst : l.stackTraces = false) (D : va_G) (T : Nat → ClassId) (aO : Nat → Nat) (aP : Nat → Nat) (aX : Nat → Nat) (aL : Nat → Nat) (aW : Nat → Nat) (aV : Nat → Nat) (aF : Nat → Nat) (aK : Nat → Nat) (aZ : Nat → Nat) (aR : Nat → Nat) (aS : Nat → Nat) (aD : Nat → Nat) (aQ : Nat → Nat) (aN : Nat → Nat) {sO : zSt} {sP : zSt} {sW : zSt} {sS : zSt} {sD : zSt} {sQ : zSt} {sM : zSt} {out : (String ⊕ Int32) × zSt × zSt × zSt × zSt × zSt} (hf : fX11_keep_0 sO sP sW sS sD sQ sM = some out) (aU : Nat → Nat) {sU sU2 : zSt} {k0 : Int32} (hk : zWr (fun v : Int32 => v.toInt64) [("java/lang/IllegalArgumentException", 1), ("java/util/NoSuchElementException", 2)] out.1 sU k0 sU2) (base sz : Nat) : Met l yL_keep (Cond.codeWith yL_keep cL_keep 4 (some .int) [(0, 9, 12, 13), (0, 9, 15, 33)] :: zW) rmL_keep_0 (zPL D T [.ref (aO 0), .int (0 : Int32), .ref (aU 0)] [wX11 T aO (aP 0) (aX 0) (aL 0) (aW 0) (aV 0) (aF 0) (aK 0) (aZ 0) (aR 0) aN sO, wX5 T aP sP, wX9 T aW (aP 0) (aS 0) (aD 0) (aQ 0) sW, wX7 T aS sS, wX1 T aD sD, wX4 T aQ sQ, wX4 T (fun j => aN (0 + 4 * j)) sM, wU T aU sU] [wX9 T aW (aP 0) (aS 0) (aD 0) (aQ 0) sW, wX7 T aS sS, wX1 T aD sD, wX4 T aQ sQ, wX4 T (fun j => aN (0 + 4 * j)) sM, wU T aU sU] base sz) (zQi D k0 [wX9 T aW (aP 0) (aS 0) (aD 0) (aQ 0) out.2.1, wX7 T aS out.2.2.1, wX1 T aD out.2.2.2.1, wX4 T aQ out.2.2.2.2.1, wX4 T (fun j => aN (0 + 4 * j)) out.2.2.2.2.2, wU T aU sU2] (zA [wX9 T aW (aP 0) (aS 0) (aD 0) (aQ 0) sW, wX7 T aS sS, wX1 T aD sD, wX4 T aQ sQ, wX4 T (fun j => aN (0 + 4 * j)) sM, wU T aU sU] sz)) 1 6 (zA [wX9 T aW (aP 0) (aS 0) (aD 0) (aQ 0) sW, wX7 T aS sS, wX1 T aD sD, wX4 T aQ sQ, wX4 T (fun j => aN (0 + 4 * j)) sM, wU T aU sU] sz) := by
  refine zMetL hst (D := D) (T := T) (av := [.ref (aO 0), .int (0 : Int32), .ref (aU 0)]) (ws := fun T => [wX11 T aO (aP 0) (aX 0) (aL 0) (aW 0) (aV 0) (aF 0) (aK 0) (aZ 0) (aR 0) aN sO, wX5 T aP sP, wX9 T aW (aP 0) (aS 0) (aD 0) (aQ 0) sW, wX7 T aS sS, wX1 T aD sD, wX4 T aQ sQ, wX4 T (fun j => aN (0 + 4 * j)) sM, wU T aU sU]) (wm := fun T => [wX9 T aW (aP 0) (aS 0) (aD 0) (aQ 0) sW, wX7 T aS sS, wX1 T aD sD, wX4 T aQ sQ, wX4 T (fun j => aN (0 + 4 * j)) sM, wU T aU sU]) (lv0 := [(0, .ref (aO 0)), (1, .int (0 : Int32)), (2, .ref (aU 0))]) [2, 3, 4, 5, 6, 7] (Qc := fun D T A => zQi D k0 [wX9 T aW (aP 0) (aS 0) (aD 0) (aQ 0) out.2.1, wX7 T aS out.2.2.1, wX1 T aD out.2.2.2.1, wX4 T aQ out.2.2.2.2.1, wX4 T (fun j => aN (0 + 4 * j)) out.2.2.2.2.2, wU T aU sU2] A) (by decide +kernel) rfl (Nat.le_of_ble_eq_true rfl) rfl (fun C base X Y hT hQ => ?_) base sz
  refine z_aload_n X dL_keep_0 2 rfl ?_
  refine z_iconst (v := (0 : Int32)) X dL_keep_1 rfl ?_
  refine z_aload_n X dL_keep_2 0 rfl ?_
  refine z_iload_n X dL_keep_3 1 rfl ?_
  refine z_tcallVi (st := [.int 0, .ref (aU 0)]) (ws2 := [wX11 (zcT C) aO (aP 0) (aX 0) (aL 0) (aW 0) (aV 0) (aF 0) (aK 0) (aZ 0) (aR 0) aN sO, wX5 (zcT C) aP sP, wX9 (zcT C) aW (aP 0) (aS 0) (aD 0) (aQ 0) out.2.1, wX7 (zcT C) aS out.2.2.1, wX1 (zcT C) aD out.2.2.2.1, wX4 (zcT C) aQ out.2.2.2.2.1, wX4 (zcT C) (fun j => aN (0 + 4 * j)) out.2.2.2.2.2, wU (zcT C) aU sU]) X Y (metX11_keep_0 (zcl C) Y.2.2.2.2.1 (zcD C) (zcT C) aO aP aX aL aW aV aF aK aZ aR aS aD aQ aN hf) zl_keep zlk_keep dL_keep_4 0 0 12 rfl rfl rfl rfl [0, 1, 2, 3, 4, 5, 6] rfl rfl [2, 3, 4, 5, 6] rfl (by decide) ⟨zsX9, zsX7, zsX1, zsX4, zsX4, trivial⟩ rfl rfl rfl (Nat.le_of_ble_eq_true rfl) rfl rfl ⟨Nat.le_of_ble_eq_true rfl, Nat.le_of_ble_eq_true rfl⟩ ⟨Nat.le_of_ble_eq_true rfl, Nat.le_of_ble_eq_true rfl⟩ (fun E hE => ?_) (fun r hr => ?_)
  · rcases hk with ⟨v, e, -⟩ | ⟨E2, e, hm, rfl⟩
    · exact absurd (e.symm.trans hE) (by simp)
    · have hE2 : E2 = E := Sum.inl.inj (e.symm.trans hE)
      subst hE2
      rcases List.mem_cons.mp hm with h | hm
      · injection h with h1 h2
        subst h1 h2
        refine z_catch X Y hT [] ⟨0, 9, 12, 13⟩ [⟨0, 9, 15, 33⟩] rfl (fun z hz => absurd hz List.not_mem_nil) (by decide) (by decide) zll13 zlc13 (fun q => ?_)
        refine z_astore_n (lv2 := [(3, .ref q), (0, .ref (aO 0)), (1, .int (0 : Int32)), (2, .ref (aU 0))]) X dL_keep_12 rfl (by decide) rfl ?_
        refine z_iconst (v := (1 : Int32)) X dL_keep_13 rfl ?_
        exact z_iret X hQ dL_keep_14 rfl [2, 3, 4, 5, 6, 7] rfl (Nat.le_of_ble_eq_true rfl) (Nat.le_of_ble_eq_true rfl)
      rcases List.mem_cons.mp hm with h | hm
      · injection h with h1 h2
        subst h1 h2
        refine z_catch X Y hT [⟨0, 9, 12, 13⟩] ⟨0, 9, 15, 33⟩ [] rfl (fun z hz => by
            simp only [List.mem_cons, List.not_mem_nil, or_false] at hz
            subst hz
            · exact ⟨by decide, _, zll13, by decide +kernel, by decide +kernel, by decide +kernel⟩) (by decide) (by decide) zll33 zlc33 (fun q => ?_)
        refine z_astore_n (lv2 := [(3, .ref q), (0, .ref (aO 0)), (1, .int (0 : Int32)), (2, .ref (aU 0))]) X dL_keep_15 rfl (by decide) rfl ?_
        refine z_iconst (v := (2 : Int32)) X dL_keep_16 rfl ?_
        exact z_iret X hQ dL_keep_17 rfl [2, 3, 4, 5, 6, 7] rfl (Nat.le_of_ble_eq_true rfl) (Nat.le_of_ble_eq_true rfl)
      exact absurd hm List.not_mem_nil
  · rcases hk with ⟨v, e, rfl, rfl⟩ | ⟨E2, e, -⟩
    · have hv : r = v := Sum.inr.inj (hr.symm.trans e)
      subst hv
      clear hr
      refine z_i2l X dL_keep_7 ?_
      refine z_last (ws2 := [wX11 (zcT C) aO (aP 0) (aX 0) (aL 0) (aW 0) (aV 0) (aF 0) (aK 0) (aZ 0) (aR 0) aN sO, wX5 (zcT C) aP sP, wX9 (zcT C) aW (aP 0) (aS 0) (aD 0) (aQ 0) out.2.1, wX7 (zcT C) aS out.2.2.1, wX1 (zcT C) aD out.2.2.2.1, wX4 (zcT C) aQ out.2.2.2.2.1, wX4 (zcT C) (fun j => aN (0 + 4 * j)) out.2.2.2.2.2, wU (zcT C) aU (zsb sU 0 (vp_updL (zgb sU 0) ((0 : Int32)).toNatClampNeg ((fun v : Int32 => v.toInt64) r)))]) X 7 0 (by decide) dL_keep_8 rfl rfl (by decide) rfl rfl ?_
      refine z_goto (tgt := 18) X dL_keep_9 (by decide) ?_
      refine z_iconst (v := (0 : Int32)) X dL_keep_18 rfl ?_
      exact z_iret X hQ dL_keep_19 rfl [2, 3, 4, 5, 6, 7] rfl (Nat.le_of_ble_eq_true rfl) (Nat.le_of_ble_eq_true rfl)
    · exact absurd (e.symm.trans hr) (by simp)
abbrev rmL_keep_1 : Room := { frames := 8, cells := 1, slots := 6, locals := 171 }
theorem metL_keep_1 (l : Launch) (hst : l.stackTraces = false) (D : va_G) (T : Nat → ClassId) (aO : Nat → Nat) (aP : Nat → Nat) (aX : Nat → Nat) (aL : Nat → Nat) (aW : Nat → Nat) (aV : Nat → Nat) (aF : Nat → Nat) (aK : Nat → Nat) (aZ : Nat → Nat) (aR : Nat → Nat) (aS : Nat → Nat) (aD : Nat → Nat) (aQ : Nat → Nat) (aN : Nat → Nat) {sO : zSt} {sP : zSt} {sW : zSt} {sS : zSt} {sD : zSt} {sQ : zSt} {sM : zSt} {out : (String ⊕ Int32) × zSt × zSt × zSt × zSt × zSt} (hf : fX11_keep_1 sO sP sW sS sD sQ sM = some out) (aU : Nat → Nat) {sU sU2 : zSt} {k0 : Int32} (hk : zWr (fun v : Int32 => v.toInt64) [("java/lang/IllegalArgumentException", 1), ("java/util/NoSuchElementException", 2)] out.1 sU k0 sU2) (base sz : Nat) : Met l yL_keep (Cond.codeWith yL_keep cL_keep 4 (some .int) [(0, 9, 12, 13), (0, 9, 15, 33)] :: zW) rmL_keep_1 (zPL D T [.ref (aO 0), .int (1 : Int32), .ref (aU 0)] [wX11 T aO (aP 0) (aX 0) (aL 0) (aW 0) (aV 0) (aF 0) (aK 0) (aZ 0) (aR 0) aN sO, wX5 T aP sP, wX9 T aW (aP 0) (aS 0) (aD 0) (aQ 0) sW, wX7 T aS sS, wX1 T aD sD, wX4 T aQ sQ, wX4 T (fun j => aN (1 + 4 * j)) sM, wU T aU sU] [wX9 T aW (aP 0) (aS 0) (aD 0) (aQ 0) sW, wX7 T aS sS, wX1 T aD sD, wX4 T aQ sQ, wX4 T (fun j => aN (1 + 4 * j)) sM, wU T aU sU] base sz) (zQi D k0 [wX9 T aW (aP 0) (aS 0) (aD 0) (aQ 0) out.2.1, wX7 T aS out.2.2.1, wX1 T aD out.2.2.2.1, wX4 T aQ out.2.2.2.2.1, wX4 T (fun j => aN (1 + 4 * j)) out.2.2.2.2.2, wU T aU sU2] (zA [wX9 T aW (aP 0) (aS 0) (aD 0) (aQ 0) sW, wX7 T aS sS, wX1 T aD sD, wX4 T aQ sQ, wX4 T (fun j => aN (1 + 4 * j)) sM, wU T aU sU] sz)) 1 6 (zA [wX9 T aW (aP 0) (aS 0) (aD 0) (aQ 0) sW, wX7 T aS sS, wX1 T aD sD, wX4 T aQ sQ, wX4 T (fun j => aN (1 + 4 * j)) sM, wU T aU sU] sz) := by
  refine zMetL hst (D := D) (T := T) (av := [.ref (aO 0), .int (1 : Int32), .ref (aU 0)]) (ws := fun T => [wX11 T aO (aP 0) (aX 0) (aL 0) (aW 0) (aV 0) (aF 0) (aK 0) (aZ 0) (aR 0) aN sO, wX5 T aP sP, wX9 T aW (aP 0) (aS 0) (aD 0) (aQ 0) sW, wX7 T aS sS, wX1 T aD sD, wX4 T aQ sQ, wX4 T (fun j => aN (1 + 4 * j)) sM, wU T aU sU]) (wm := fun T => [wX9 T aW (aP 0) (aS 0) (aD 0) (aQ 0) sW, wX7 T aS sS, wX1 T aD sD, wX4 T aQ sQ, wX4 T (fun j => aN (1 + 4 * j)) sM, wU T aU sU]) (lv0 := [(0, .ref (aO 0)), (1, .int (1 : Int32)), (2, .ref (aU 0))]) [2, 3, 4, 5, 6, 7] (Qc := fun D T A => zQi D k0 [wX9 T aW (aP 0) (aS 0) (aD 0) (aQ 0) out.2.1, wX7 T aS out.2.2.1, wX1 T aD out.2.2.2.1, wX4 T aQ out.2.2.2.2.1, wX4 T (fun j => aN (1 + 4 * j)) out.2.2.2.2.2, wU T aU sU2] A) (by decide +kernel) rfl (Nat.le_of_ble_eq_true rfl) rfl (fun C base X Y hT hQ => ?_) base sz
  refine z_aload_n X dL_keep_0 2 rfl ?_
  refine z_iconst (v := (0 : Int32)) X dL_keep_1 rfl ?_
  refine z_aload_n X dL_keep_2 0 rfl ?_
  refine z_iload_n X dL_keep_3 1 rfl ?_
  refine z_tcallVi (st := [.int 0, .ref (aU 0)]) (ws2 := [wX11 (zcT C) aO (aP 0) (aX 0) (aL 0) (aW 0) (aV 0) (aF 0) (aK 0) (aZ 0) (aR 0) aN sO, wX5 (zcT C) aP sP, wX9 (zcT C) aW (aP 0) (aS 0) (aD 0) (aQ 0) out.2.1, wX7 (zcT C) aS out.2.2.1, wX1 (zcT C) aD out.2.2.2.1, wX4 (zcT C) aQ out.2.2.2.2.1, wX4 (zcT C) (fun j => aN (1 + 4 * j)) out.2.2.2.2.2, wU (zcT C) aU sU]) X Y (metX11_keep_1 (zcl C) Y.2.2.2.2.1 (zcD C) (zcT C) aO aP aX aL aW aV aF aK aZ aR aS aD aQ aN hf) zl_keep zlk_keep dL_keep_4 0 0 12 rfl rfl rfl rfl [0, 1, 2, 3, 4, 5, 6] rfl rfl [2, 3, 4, 5, 6] rfl (by decide) ⟨zsX9, zsX7, zsX1, zsX4, zsX4, trivial⟩ rfl rfl rfl (Nat.le_of_ble_eq_true rfl) rfl rfl ⟨Nat.le_of_ble_eq_true rfl, Nat.le_of_ble_eq_true rfl⟩ ⟨Nat.le_of_ble_eq_true rfl, Nat.le_of_ble_eq_true rfl⟩ (fun E hE => ?_) (fun r hr => ?_)
  · rcases hk with ⟨v, e, -⟩ | ⟨E2, e, hm, rfl⟩
    · exact absurd (e.symm.trans hE) (by simp)
    · have hE2 : E2 = E := Sum.inl.inj (e.symm.trans hE)
      subst hE2
      rcases List.mem_cons.mp hm with h | hm
      · injection h with h1 h2
        subst h1 h2
        refine z_catch X Y hT [] ⟨0, 9, 12, 13⟩ [⟨0, 9, 15, 33⟩] rfl (fun z hz => absurd hz List.not_mem_nil) (by decide) (by decide) zll13 zlc13 (fun q => ?_)
        refine z_astore_n (lv2 := [(3, .ref q), (0, .ref (aO 0)), (1, .int (1 : Int32)), (2, .ref (aU 0))]) X dL_keep_12 rfl (by decide) rfl ?_
        refine z_iconst (v := (1 : Int32)) X dL_keep_13 rfl ?_
        exact z_iret X hQ dL_keep_14 rfl [2, 3, 4, 5, 6, 7] rfl (Nat.le_of_ble_eq_true rfl) (Nat.le_of_ble_eq_true rfl)
      rcases List.mem_cons.mp hm with h | hm
      · injection h with h1 h2
        subst h1 h2
        refine z_catch X Y hT [⟨0, 9, 12, 13⟩] ⟨0, 9, 15, 33⟩ [] rfl (fun z hz => by
            simp only [List.mem_cons, List.not_mem_nil, or_false] at hz
            subst hz
            · exact ⟨by decide, _, zll13, by decide +kernel, by decide +kernel, by decide +kernel⟩) (by decide) (by decide) zll33 zlc33 (fun q => ?_)
        refine z_astore_n (lv2 := [(3, .ref q), (0, .ref (aO 0)), (1, .int (1 : Int32)), (2, .ref (aU 0))]) X dL_keep_15 rfl (by decide) rfl ?_
        refine z_iconst (v := (2 : Int32)) X dL_keep_16 rfl ?_
        exact z_iret X hQ dL_keep_17 rfl [2, 3, 4, 5, 6, 7] rfl (Nat.le_of_ble_eq_true rfl) (Nat.le_of_ble_eq_true rfl)
      exact absurd hm List.not_mem_nil
  · rcases hk with ⟨v, e, rfl, rfl⟩ | ⟨E2, e, -⟩
    · have hv : r = v := Sum.inr.inj (hr.symm.trans e)
      subst hv
      clear hr
      refine z_i2l X dL_keep_7 ?_
      refine z_last (ws2 := [wX11 (zcT C) aO (aP 0) (aX 0) (aL 0) (aW 0) (aV 0) (aF 0) (aK 0) (aZ 0) (aR 0) aN sO, wX5 (zcT C) aP sP, wX9 (zcT C) aW (aP 0) (aS 0) (aD 0) (aQ 0) out.2.1, wX7 (zcT C) aS out.2.2.1, wX1 (zcT C) aD out.2.2.2.1, wX4 (zcT C) aQ out.2.2.2.2.1, wX4 (zcT C) (fun j => aN (1 + 4 * j)) out.2.2.2.2.2, wU (zcT C) aU (zsb sU 0 (vp_updL (zgb sU 0) ((0 : Int32)).toNatClampNeg ((fun v : Int32 => v.toInt64) r)))]) X 7 0 (by decide) dL_keep_8 rfl rfl (by decide) rfl rfl ?_
      refine z_goto (tgt := 18) X dL_keep_9 (by decide) ?_
      refine z_iconst (v := (0 : Int32)) X dL_keep_18 rfl ?_
      exact z_iret X hQ dL_keep_19 rfl [2, 3, 4, 5, 6, 7] rfl (Nat.le_of_ble_eq_true rfl) (Nat.le_of_ble_eq_true rfl)
    · exact absurd (e.symm.trans hr) (by simp)
abbrev rmL_keep_2 : Room := { frames := 8, cells := 1, slots := 6, locals := 171 }
theorem metL_keep_2 (l : Launch) (hst : l.stackTraces = false) (D : va_G) (T : Nat → ClassId) (aO : Nat → Nat) (aP : Nat → Nat) (aX : Nat → Nat) (aL : Nat → Nat) (aW : Nat → Nat) (aV : Nat → Nat) (aF : Nat → Nat) (aK : Nat → Nat) (aZ : Nat → Nat) (aR : Nat → Nat) (aS : Nat → Nat) (aD : Nat → Nat) (aQ : Nat → Nat) (aN : Nat → Nat) {sO : zSt} {sP : zSt} {sW : zSt} {sS : zSt} {sD : zSt} {sQ : zSt} {sM : zSt} {out : (String ⊕ Int32) × zSt × zSt × zSt × zSt × zSt} (hf : fX11_keep_2 sO sP sW sS sD sQ sM = some out) (aU : Nat → Nat) {sU sU2 : zSt} {k0 : Int32} (hk : zWr (fun v : Int32 => v.toInt64) [("java/lang/IllegalArgumentException", 1), ("java/util/NoSuchElementException", 2)] out.1 sU k0 sU2) (base sz : Nat) : Met l yL_keep (Cond.codeWith yL_keep cL_keep 4 (some .int) [(0, 9, 12, 13), (0, 9, 15, 33)] :: zW) rmL_keep_2 (zPL D T [.ref (aO 0), .int (2 : Int32), .ref (aU 0)] [wX11 T aO (aP 0) (aX 0) (aL 0) (aW 0) (aV 0) (aF 0) (aK 0) (aZ 0) (aR 0) aN sO, wX5 T aP sP, wX9 T aW (aP 0) (aS 0) (aD 0) (aQ 0) sW, wX7 T aS sS, wX1 T aD sD, wX4 T aQ sQ, wX4 T (fun j => aN (2 + 4 * j)) sM, wU T aU sU] [wX9 T aW (aP 0) (aS 0) (aD 0) (aQ 0) sW, wX7 T aS sS, wX1 T aD sD, wX4 T aQ sQ, wX4 T (fun j => aN (2 + 4 * j)) sM, wU T aU sU] base sz) (zQi D k0 [wX9 T aW (aP 0) (aS 0) (aD 0) (aQ 0) out.2.1, wX7 T aS out.2.2.1, wX1 T aD out.2.2.2.1, wX4 T aQ out.2.2.2.2.1, wX4 T (fun j => aN (2 + 4 * j)) out.2.2.2.2.2, wU T aU sU2] (zA [wX9 T aW (aP 0) (aS 0) (aD 0) (aQ 0) sW, wX7 T aS sS, wX1 T aD sD, wX4 T aQ sQ, wX4 T (fun j => aN (2 + 4 * j)) sM, wU T aU sU] sz)) 1 6 (zA [wX9 T aW (aP 0) (aS 0) (aD 0) (aQ 0) sW, wX7 T aS sS, wX1 T aD sD, wX4 T aQ sQ, wX4 T (fun j => aN (2 + 4 * j)) sM, wU T aU sU] sz) := by
  refine zMetL hst (D := D) (T := T) (av := [.ref (aO 0), .int (2 : Int32), .ref (aU 0)]) (ws := fun T => [wX11 T aO (aP 0) (aX 0) (aL 0) (aW 0) (aV 0) (aF 0) (aK 0) (aZ 0) (aR 0) aN sO, wX5 T aP sP, wX9 T aW (aP 0) (aS 0) (aD 0) (aQ 0) sW, wX7 T aS sS, wX1 T aD sD, wX4 T aQ sQ, wX4 T (fun j => aN (2 + 4 * j)) sM, wU T aU sU]) (wm := fun T => [wX9 T aW (aP 0) (aS 0) (aD 0) (aQ 0) sW, wX7 T aS sS, wX1 T aD sD, wX4 T aQ sQ, wX4 T (fun j => aN (2 + 4 * j)) sM, wU T aU sU]) (lv0 := [(0, .ref (aO 0)), (1, .int (2 : Int32)), (2, .ref (aU 0))]) [2, 3, 4, 5, 6, 7] (Qc := fun D T A => zQi D k0 [wX9 T aW (aP 0) (aS 0) (aD 0) (aQ 0) out.2.1, wX7 T aS out.2.2.1, wX1 T aD out.2.2.2.1, wX4 T aQ out.2.2.2.2.1, wX4 T (fun j => aN (2 + 4 * j)) out.2.2.2.2.2, wU T aU sU2] A) (by decide +kernel) rfl (Nat.le_of_ble_eq_true rfl) rfl (fun C base X Y hT hQ => ?_) base sz
  refine z_aload_n X dL_keep_0 2 rfl ?_
  refine z_iconst (v := (0 : Int32)) X dL_keep_1 rfl ?_
  refine z_aload_n X dL_keep_2 0 rfl ?_
  refine z_iload_n X dL_keep_3 1 rfl ?_
  refine z_tcallVi (st := [.int 0, .ref (aU 0)]) (ws2 := [wX11 (zcT C) aO (aP 0) (aX 0) (aL 0) (aW 0) (aV 0) (aF 0) (aK 0) (aZ 0) (aR 0) aN sO, wX5 (zcT C) aP sP, wX9 (zcT C) aW (aP 0) (aS 0) (aD 0) (aQ 0) out.2.1, wX7 (zcT C) aS out.2.2.1, wX1 (zcT C) aD out.2.2.2.1, wX4 (zcT C) aQ out.2.2.2.2.1, wX4 (zcT C) (fun j => aN (2 + 4 * j)) out.2.2.2.2.2, wU (zcT C) aU sU]) X Y (metX11_keep_2 (zcl C) Y.2.2.2.2.1 (zcD C) (zcT C) aO aP aX aL aW aV aF aK aZ aR aS aD aQ aN hf) zl_keep zlk_keep dL_keep_4 0 0 12 rfl rfl rfl rfl [0, 1, 2, 3, 4, 5, 6] rfl rfl [2, 3, 4, 5, 6] rfl (by decide) ⟨zsX9, zsX7, zsX1, zsX4, zsX4, trivial⟩ rfl rfl rfl (Nat.le_of_ble_eq_true rfl) rfl rfl ⟨Nat.le_of_ble_eq_true rfl, Nat.le_of_ble_eq_true rfl⟩ ⟨Nat.le_of_ble_eq_true rfl, Nat.le_of_ble_eq_true rfl⟩ (fun E hE => ?_) (fun r hr => ?_)
  · rcases hk with ⟨v, e, -⟩ | ⟨E2, e, hm, rfl⟩
    · exact absurd (e.symm.trans hE) (by simp)
    · have hE2 : E2 = E := Sum.inl.inj (e.symm.trans hE)
      subst hE2
      rcases List.mem_cons.mp hm with h | hm
      · injection h with h1 h2
        subst h1 h2
        refine z_catch X Y hT [] ⟨0, 9, 12, 13⟩ [⟨0, 9, 15, 33⟩] rfl (fun z hz => absurd hz List.not_mem_nil) (by decide) (by decide) zll13 zlc13 (fun q => ?_)
        refine z_astore_n (lv2 := [(3, .ref q), (0, .ref (aO 0)), (1, .int (2 : Int32)), (2, .ref (aU 0))]) X dL_keep_12 rfl (by decide) rfl ?_
        refine z_iconst (v := (1 : Int32)) X dL_keep_13 rfl ?_
        exact z_iret X hQ dL_keep_14 rfl [2, 3, 4, 5, 6, 7] rfl (Nat.le_of_ble_eq_true rfl) (Nat.le_of_ble_eq_true rfl)
      rcases List.mem_cons.mp hm with h | hm
      · injection h with h1 h2
        subst h1 h2
        refine z_catch X Y hT [⟨0, 9, 12, 13⟩] ⟨0, 9, 15, 33⟩ [] rfl (fun z hz => by
            simp only [List.mem_cons, List.not_mem_nil, or_false] at hz
            subst hz
            · exact ⟨by decide, _, zll13, by decide +kernel, by decide +kernel, by decide +kernel⟩) (by decide) (by decide) zll33 zlc33 (fun q => ?_)
        refine z_astore_n (lv2 := [(3, .ref q), (0, .ref (aO 0)), (1, .int (2 : Int32)), (2, .ref (aU 0))]) X dL_keep_15 rfl (by decide) rfl ?_
        refine z_iconst (v := (2 : Int32)) X dL_keep_16 rfl ?_
        exact z_iret X hQ dL_keep_17 rfl [2, 3, 4, 5, 6, 7] rfl (Nat.le_of_ble_eq_true rfl) (Nat.le_of_ble_eq_true rfl)
      exact absurd hm List.not_mem_nil
  · rcases hk with ⟨v, e, rfl, rfl⟩ | ⟨E2, e, -⟩
    · have hv : r = v := Sum.inr.inj (hr.symm.trans e)
      subst hv
      clear hr
      refine z_i2l X dL_keep_7 ?_
      refine z_last (ws2 := [wX11 (zcT C) aO (aP 0) (aX 0) (aL 0) (aW 0) (aV 0) (aF 0) (aK 0) (aZ 0) (aR 0) aN sO, wX5 (zcT C) aP sP, wX9 (zcT C) aW (aP 0) (aS 0) (aD 0) (aQ 0) out.2.1, wX7 (zcT C) aS out.2.2.1, wX1 (zcT C) aD out.2.2.2.1, wX4 (zcT C) aQ out.2.2.2.2.1, wX4 (zcT C) (fun j => aN (2 + 4 * j)) out.2.2.2.2.2, wU (zcT C) aU (zsb sU 0 (vp_updL (zgb sU 0) ((0 : Int32)).toNatClampNeg ((fun v : Int32 => v.toInt64) r)))]) X 7 0 (by decide) dL_keep_8 rfl rfl (by decide) rfl rfl ?_
      refine z_goto (tgt := 18) X dL_keep_9 (by decide) ?_
      refine z_iconst (v := (0 : Int32)) X dL_keep_18 rfl ?_
      exact z_iret X hQ dL_keep_19 rfl [2, 3, 4, 5, 6, 7] rfl (Nat.le_of_ble_eq_true rfl) (Nat.le_of_ble_eq_true rfl)
    · exact absurd (e.symm.trans hr) (by simp)
abbrev rmL_keep_3 : Room := { frames := 8, cells := 1, slots := 6, locals := 171 }
theorem metL_keep_3 (l : Launch) (hst : l.stackTraces = false) (D : va_G) (T : Nat → ClassId) (aO : Nat → Nat) (aP : Nat → Nat) (aX : Nat → Nat) (aL : Nat → Nat) (aW : Nat → Nat) (aV : Nat → Nat) (aF : Nat → Nat) (aK : Nat → Nat) (aZ : Nat → Nat) (aR : Nat → Nat) (aS : Nat → Nat) (aD : Nat → Nat) (aQ : Nat → Nat) (aN : Nat → Nat) {sO : zSt} {sP : zSt} {sW : zSt} {sS : zSt} {sD : zSt} {sQ : zSt} {sM : zSt} {out : (String ⊕ Int32) × zSt × zSt × zSt × zSt × zSt} (hf : fX11_keep_3 sO sP sW sS sD sQ sM = some out) (aU : Nat → Nat) {sU sU2 : zSt} {k0 : Int32} (hk : zWr (fun v : Int32 => v.toInt64) [("java/lang/IllegalArgumentException", 1), ("java/util/NoSuchElementException", 2)] out.1 sU k0 sU2) (base sz : Nat) : Met l yL_keep (Cond.codeWith yL_keep cL_keep 4 (some .int) [(0, 9, 12, 13), (0, 9, 15, 33)] :: zW) rmL_keep_3 (zPL D T [.ref (aO 0), .int (3 : Int32), .ref (aU 0)] [wX11 T aO (aP 0) (aX 0) (aL 0) (aW 0) (aV 0) (aF 0) (aK 0) (aZ 0) (aR 0) aN sO, wX5 T aP sP, wX9 T aW (aP 0) (aS 0) (aD 0) (aQ 0) sW, wX7 T aS sS, wX1 T aD sD, wX4 T aQ sQ, wX4 T (fun j => aN (3 + 4 * j)) sM, wU T aU sU] [wX9 T aW (aP 0) (aS 0) (aD 0) (aQ 0) sW, wX7 T aS sS, wX1 T aD sD, wX4 T aQ sQ, wX4 T (fun j => aN (3 + 4 * j)) sM, wU T aU sU] base sz) (zQi D k0 [wX9 T aW (aP 0) (aS 0) (aD 0) (aQ 0) out.2.1, wX7 T aS out.2.2.1, wX1 T aD out.2.2.2.1, wX4 T aQ out.2.2.2.2.1, wX4 T (fun j => aN (3 + 4 * j)) out.2.2.2.2.2, wU T aU sU2] (zA [wX9 T aW (aP 0) (aS 0) (aD 0) (aQ 0) sW, wX7 T aS sS, wX1 T aD sD, wX4 T aQ sQ, wX4 T (fun j => aN (3 + 4 * j)) sM, wU T aU sU] sz)) 1 6 (zA [wX9 T aW (aP 0) (aS 0) (aD 0) (aQ 0) sW, wX7 T aS sS, wX1 T aD sD, wX4 T aQ sQ, wX4 T (fun j => aN (3 + 4 * j)) sM, wU T aU sU] sz) := by
  refine zMetL hst (D := D) (T := T) (av := [.ref (aO 0), .int (3 : Int32), .ref (aU 0)]) (ws := fun T => [wX11 T aO (aP 0) (aX 0) (aL 0) (aW 0) (aV 0) (aF 0) (aK 0) (aZ 0) (aR 0) aN sO, wX5 T aP sP, wX9 T aW (aP 0) (aS 0) (aD 0) (aQ 0) sW, wX7 T aS sS, wX1 T aD sD, wX4 T aQ sQ, wX4 T (fun j => aN (3 + 4 * j)) sM, wU T aU sU]) (wm := fun T => [wX9 T aW (aP 0) (aS 0) (aD 0) (aQ 0) sW, wX7 T aS sS, wX1 T aD sD, wX4 T aQ sQ, wX4 T (fun j => aN (3 + 4 * j)) sM, wU T aU sU]) (lv0 := [(0, .ref (aO 0)), (1, .int (3 : Int32)), (2, .ref (aU 0))]) [2, 3, 4, 5, 6, 7] (Qc := fun D T A => zQi D k0 [wX9 T aW (aP 0) (aS 0) (aD 0) (aQ 0) out.2.1, wX7 T aS out.2.2.1, wX1 T aD out.2.2.2.1, wX4 T aQ out.2.2.2.2.1, wX4 T (fun j => aN (3 + 4 * j)) out.2.2.2.2.2, wU T aU sU2] A) (by decide +kernel) rfl (Nat.le_of_ble_eq_true rfl) rfl (fun C base X Y hT hQ => ?_) base sz
  refine z_aload_n X dL_keep_0 2 rfl ?_
  refine z_iconst (v := (0 : Int32)) X dL_keep_1 rfl ?_
  refine z_aload_n X dL_keep_2 0 rfl ?_
  refine z_iload_n X dL_keep_3 1 rfl ?_
  refine z_tcallVi (st := [.int 0, .ref (aU 0)]) (ws2 := [wX11 (zcT C) aO (aP 0) (aX 0) (aL 0) (aW 0) (aV 0) (aF 0) (aK 0) (aZ 0) (aR 0) aN sO, wX5 (zcT C) aP sP, wX9 (zcT C) aW (aP 0) (aS 0) (aD 0) (aQ 0) out.2.1, wX7 (zcT C) aS out.2.2.1, wX1 (zcT C) aD out.2.2.2.1, wX4 (zcT C) aQ out.2.2.2.2.1, wX4 (zcT C) (fun j => aN (3 + 4 * j)) out.2.2.2.2.2, wU (zcT C) aU sU]) X Y (metX11_keep_3 (zcl C) Y.2.2.2.2.1 (zcD C) (zcT C) aO aP aX aL aW aV aF aK aZ aR aS aD aQ aN hf) zl_keep zlk_keep dL_keep_4 0 0 12 rfl rfl rfl rfl [0, 1, 2, 3, 4, 5, 6] rfl rfl [2, 3, 4, 5, 6] rfl (by decide) ⟨zsX9, zsX7, zsX1, zsX4, zsX4, trivial⟩ rfl rfl rfl (Nat.le_of_ble_eq_true rfl) rfl rfl ⟨Nat.le_of_ble_eq_true rfl, Nat.le_of_ble_eq_true rfl⟩ ⟨Nat.le_of_ble_eq_true rfl, Nat.le_of_ble_eq_true rfl⟩ (fun E hE => ?_) (fun r hr => ?_)
  · rcases hk with ⟨v, e, -⟩ | ⟨E2, e, hm, rfl⟩
    · exact absurd (e.symm.trans hE) (by simp)
    · have hE2 : E2 = E := Sum.inl.inj (e.symm.trans hE)
      subst hE2
      rcases List.mem_cons.mp hm with h | hm
      · injection h with h1 h2
        subst h1 h2
        refine z_catch X Y hT [] ⟨0, 9, 12, 13⟩ [⟨0, 9, 15, 33⟩] rfl (fun z hz => absurd hz List.not_mem_nil) (by decide) (by decide) zll13 zlc13 (fun q => ?_)
        refine z_astore_n (lv2 := [(3, .ref q), (0, .ref (aO 0)), (1, .int (3 : Int32)), (2, .ref (aU 0))]) X dL_keep_12 rfl (by decide) rfl ?_
        refine z_iconst (v := (1 : Int32)) X dL_keep_13 rfl ?_
        exact z_iret X hQ dL_keep_14 rfl [2, 3, 4, 5, 6, 7] rfl (Nat.le_of_ble_eq_true rfl) (Nat.le_of_ble_eq_true rfl)
      rcases List.mem_cons.mp hm with h | hm
      · injection h with h1 h2
        subst h1 h2
        refine z_catch X Y hT [⟨0, 9, 12, 13⟩] ⟨0, 9, 15, 33⟩ [] rfl (fun z hz => by
            simp only [List.mem_cons, List.not_mem_nil, or_false] at hz
            subst hz
            · exact ⟨by decide, _, zll13, by decide +kernel, by decide +kernel, by decide +kernel⟩) (by decide) (by decide) zll33 zlc33 (fun q => ?_)
        refine z_astore_n (lv2 := [(3, .ref q), (0, .ref (aO 0)), (1, .int (3 : Int32)), (2, .ref (aU 0))]) X dL_keep_15 rfl (by decide) rfl ?_
        refine z_iconst (v := (2 : Int32)) X dL_keep_16 rfl ?_
        exact z_iret X hQ dL_keep_17 rfl [2, 3, 4, 5, 6, 7] rfl (Nat.le_of_ble_eq_true rfl) (Nat.le_of_ble_eq_true rfl)
      exact absurd hm List.not_mem_nil
  · rcases hk with ⟨v, e, rfl, rfl⟩ | ⟨E2, e, -⟩
    · have hv : r = v := Sum.inr.inj (hr.symm.trans e)
      subst hv
      clear hr
      refine z_i2l X dL_keep_7 ?_
      refine z_last (ws2 := [wX11 (zcT C) aO (aP 0) (aX 0) (aL 0) (aW 0) (aV 0) (aF 0) (aK 0) (aZ 0) (aR 0) aN sO, wX5 (zcT C) aP sP, wX9 (zcT C) aW (aP 0) (aS 0) (aD 0) (aQ 0) out.2.1, wX7 (zcT C) aS out.2.2.1, wX1 (zcT C) aD out.2.2.2.1, wX4 (zcT C) aQ out.2.2.2.2.1, wX4 (zcT C) (fun j => aN (3 + 4 * j)) out.2.2.2.2.2, wU (zcT C) aU (zsb sU 0 (vp_updL (zgb sU 0) ((0 : Int32)).toNatClampNeg ((fun v : Int32 => v.toInt64) r)))]) X 7 0 (by decide) dL_keep_8 rfl rfl (by decide) rfl rfl ?_
      refine z_goto (tgt := 18) X dL_keep_9 (by decide) ?_
      refine z_iconst (v := (0 : Int32)) X dL_keep_18 rfl ?_
      exact z_iret X hQ dL_keep_19 rfl [2, 3, 4, 5, 6, 7] rfl (Nat.le_of_ble_eq_true rfl) (Nat.le_of_ble_eq_true rfl)
    · exact absurd (e.symm.trans hr) (by simp)
theorem zlk_kept : Cond.methodLink RL 105 yX11_kept ∈ zW := zW_tab (List.mem_of_getElem? (i := 1309) (by decide +kernel)) (by decide +kernel)
abbrev rmL_kept : Room := { frames := 8, cells := 1, slots := 6, locals := 125 }
theorem metL_kept (l : Launch) (hst : l.stackTraces = false) (D : va_G) (T : Nat → ClassId) (aO : Nat → Nat) (aP : Nat → Nat) (aX : Nat → Nat) (aL : Nat → Nat) (aW : Nat → Nat) (aV : Nat → Nat) (aF : Nat → Nat) (aK : Nat → Nat) (aZ : Nat → Nat) (aR : Nat → Nat) (aN : Nat → Nat) {sO : zSt} {x1 : Int32} (hx : x1 < 0 ∨ 4 ≤ x1) (aU : Nat → Nat) {sU sU2 : zSt} {k0 : Int32} (hk : zWr (fun v : Int32 => v.toInt64) [("java/lang/IllegalArgumentException", 1)] (.inl "java/lang/IllegalArgumentException") sU k0 sU2) (base sz : Nat) : Met l yL_kept (Cond.codeWith yL_kept cL_kept 4 (some .int) [(0, 9, 12, 13)] :: zW) rmL_kept (zPL D T [.ref (aO 0), .int x1, .ref (aU 0)] [wX11 T aO (aP 0) (aX 0) (aL 0) (aW 0) (aV 0) (aF 0) (aK 0) (aZ 0) (aR 0) aN sO, wU T aU sU] [wU T aU sU] base sz) (zQi D k0 [wU T aU sU2] (zA [wU T aU sU] sz)) 1 6 (zA [wU T aU sU] sz) := by
  refine zMetL hst (D := D) (T := T) (av := [.ref (aO 0), .int x1, .ref (aU 0)]) (ws := fun T => [wX11 T aO (aP 0) (aX 0) (aL 0) (aW 0) (aV 0) (aF 0) (aK 0) (aZ 0) (aR 0) aN sO, wU T aU sU]) (wm := fun T => [wU T aU sU]) (lv0 := [(0, .ref (aO 0)), (1, .int x1), (2, .ref (aU 0))]) [1] (Qc := fun D T A => zQi D k0 [wU T aU sU2] A) (by decide +kernel) rfl (Nat.le_of_ble_eq_true rfl) rfl (fun C base X Y hT hQ => ?_) base sz
  refine z_aload_n X dL_kept_0 2 rfl ?_
  refine z_iconst (v := (0 : Int32)) X dL_kept_1 rfl ?_
  refine z_aload_n X dL_kept_2 0 rfl ?_
  refine z_iload_n X dL_kept_3 1 rfl ?_
  refine z_tcallVi (st := [.int 0, .ref (aU 0)]) (ws2 := [wX11 (zcT C) aO (aP 0) (aX 0) (aL 0) (aW 0) (aV 0) (aF 0) (aK 0) (aZ 0) (aR 0) aN sO, wU (zcT C) aU sU]) X Y (metX11_kept (zcl C) Y.2.2.2.2.1 (zcD C) (zcT C) aO aP aX aL aW aV aF aK aZ aR aN (sO := sO) hx) zl_kept zlk_kept dL_kept_4 0 0 12 rfl rfl rfl rfl [0] rfl rfl [] rfl (by decide) trivial rfl rfl rfl (Nat.le_of_ble_eq_true rfl) rfl rfl ⟨Nat.le_of_ble_eq_true rfl, Nat.le_of_ble_eq_true rfl⟩ ⟨Nat.le_of_ble_eq_true rfl, Nat.le_of_ble_eq_true rfl⟩ (fun E hE => ?_) (fun r hr => ?_)
  · rcases hk with ⟨v, e, -⟩ | ⟨E2, e, hm, rfl⟩
    · exact absurd (e.symm.trans hE) (by simp)
    · have hE2 : E2 = E := Sum.inl.inj (e.symm.trans hE)
      subst hE2
      rcases List.mem_cons.mp hm with h | hm
      · injection h with h1 h2
        subst h1 h2
        refine z_catch X Y hT [] ⟨0, 9, 12, 13⟩ [] rfl (fun z hz => absurd hz List.not_mem_nil) (by decide) (by decide) zll13 zlc13 (fun q => ?_)
        refine z_astore_n (lv2 := [(3, .ref q), (0, .ref (aO 0)), (1, .int x1), (2, .ref (aU 0))]) X dL_kept_12 rfl (by decide) rfl ?_
        refine z_iconst (v := (1 : Int32)) X dL_kept_13 rfl ?_
        exact z_iret X hQ dL_kept_14 rfl [1] rfl (Nat.le_of_ble_eq_true rfl) (Nat.le_of_ble_eq_true rfl)
      exact absurd hm List.not_mem_nil
  · rcases hk with ⟨v, e, rfl, rfl⟩ | ⟨E2, e, -⟩
    · have hv : r = v := Sum.inr.inj (hr.symm.trans e)
      subst hv
      clear hr
      refine z_i2l X dL_kept_7 ?_
      refine z_last (ws2 := [wX11 (zcT C) aO (aP 0) (aX 0) (aL 0) (aW 0) (aV 0) (aF 0) (aK 0) (aZ 0) (aR 0) aN sO, wU (zcT C) aU (zsb sU 0 (vp_updL (zgb sU 0) ((0 : Int32)).toNatClampNeg ((fun v : Int32 => v.toInt64) r)))]) X 1 0 (by decide) dL_kept_8 rfl rfl (by decide) rfl rfl ?_
      refine z_goto (tgt := 15) X dL_kept_9 (by decide) ?_
      refine z_iconst (v := (0 : Int32)) X dL_kept_15 rfl ?_
      exact z_iret X hQ dL_kept_16 rfl [1] rfl (Nat.le_of_ble_eq_true rfl) (Nat.le_of_ble_eq_true rfl)
    · exact absurd (e.symm.trans hr) (by simp)
abbrev rmL_kept_0 : Room := { frames := 8, cells := 0, slots := 0, locals := 169 }
theorem metL_kept_0 (l : Launch) (hst : l.stackTraces = false) (D : va_G) (T : Nat → ClassId) (aO : Nat → Nat) (aP : Nat → Nat) (aX : Nat → Nat) (aL : Nat → Nat) (aW : Nat → Nat) (aV : Nat → Nat) (aF : Nat → Nat) (aK : Nat → Nat) (aZ : Nat → Nat) (aR : Nat → Nat) (aS : Nat → Nat) (aD : Nat → Nat) (aQ : Nat → Nat) (aN : Nat → Nat) {sO : zSt} {sP : zSt} {sW : zSt} {sS : zSt} {sD : zSt} {sQ : zSt} {sM : zSt} {out : Int32 × zSt × zSt × zSt × zSt} (hf : fX11_kept_0 sO sP sW sS sD sQ sM = some out) (aU : Nat → Nat) {sU sU2 : zSt} {k0 : Int32} (hk : zWr (fun v : Int32 => v.toInt64) [("java/lang/IllegalArgumentException", 1)] (.inr out.1) sU k0 sU2) (base sz : Nat) : Met l yL_kept (Cond.codeWith yL_kept cL_kept 4 (some .int) [(0, 9, 12, 13)] :: zW) rmL_kept_0 (zPL D T [.ref (aO 0), .int (0 : Int32), .ref (aU 0)] [wX11 T aO (aP 0) (aX 0) (aL 0) (aW 0) (aV 0) (aF 0) (aK 0) (aZ 0) (aR 0) aN sO, wX5 T aP sP, wX9 T aW (aP 0) (aS 0) (aD 0) (aQ 0) sW, wX7 T aS sS, wX1 T aD sD, wX4 T aQ sQ, wX4 T (fun j => aN (0 + 4 * j)) sM, wU T aU sU] [wX9 T aW (aP 0) (aS 0) (aD 0) (aQ 0) sW, wX7 T aS sS, wX1 T aD sD, wX4 T aQ sQ, wU T aU sU] base sz) (zQi D k0 [wX9 T aW (aP 0) (aS 0) (aD 0) (aQ 0) out.2.1, wX7 T aS out.2.2.1, wX1 T aD out.2.2.2.1, wX4 T aQ out.2.2.2.2, wU T aU sU2] (zA [wX9 T aW (aP 0) (aS 0) (aD 0) (aQ 0) sW, wX7 T aS sS, wX1 T aD sD, wX4 T aQ sQ, wU T aU sU] sz)) 0 0 (zA [wX9 T aW (aP 0) (aS 0) (aD 0) (aQ 0) sW, wX7 T aS sS, wX1 T aD sD, wX4 T aQ sQ, wU T aU sU] sz) := by
  refine zMetL hst (D := D) (T := T) (av := [.ref (aO 0), .int (0 : Int32), .ref (aU 0)]) (ws := fun T => [wX11 T aO (aP 0) (aX 0) (aL 0) (aW 0) (aV 0) (aF 0) (aK 0) (aZ 0) (aR 0) aN sO, wX5 T aP sP, wX9 T aW (aP 0) (aS 0) (aD 0) (aQ 0) sW, wX7 T aS sS, wX1 T aD sD, wX4 T aQ sQ, wX4 T (fun j => aN (0 + 4 * j)) sM, wU T aU sU]) (wm := fun T => [wX9 T aW (aP 0) (aS 0) (aD 0) (aQ 0) sW, wX7 T aS sS, wX1 T aD sD, wX4 T aQ sQ, wU T aU sU]) (lv0 := [(0, .ref (aO 0)), (1, .int (0 : Int32)), (2, .ref (aU 0))]) [2, 3, 4, 5, 7] (Qc := fun D T A => zQi D k0 [wX9 T aW (aP 0) (aS 0) (aD 0) (aQ 0) out.2.1, wX7 T aS out.2.2.1, wX1 T aD out.2.2.2.1, wX4 T aQ out.2.2.2.2, wU T aU sU2] A) (by decide +kernel) rfl (Nat.le_of_ble_eq_true rfl) rfl (fun C base X Y hT hQ => ?_) base sz
  refine z_aload_n X dL_kept_0 2 rfl ?_
  refine z_iconst (v := (0 : Int32)) X dL_kept_1 rfl ?_
  refine z_aload_n X dL_kept_2 0 rfl ?_
  refine z_iload_n X dL_kept_3 1 rfl ?_
  refine z_callVi (st := [.int 0, .ref (aU 0)]) (ws2 := [wX11 (zcT C) aO (aP 0) (aX 0) (aL 0) (aW 0) (aV 0) (aF 0) (aK 0) (aZ 0) (aR 0) aN sO, wX5 (zcT C) aP sP, wX9 (zcT C) aW (aP 0) (aS 0) (aD 0) (aQ 0) out.2.1, wX7 (zcT C) aS out.2.2.1, wX1 (zcT C) aD out.2.2.2.1, wX4 (zcT C) aQ out.2.2.2.2, wX4 (zcT C) (fun j => aN (0 + 4 * j)) sM, wU (zcT C) aU sU]) X (metX11_kept_0 (zcl C) (zcD C) (zcT C) aO aP aX aL aW aV aF aK aZ aR aS aD aQ aN hf) zl_kept zlk_kept dL_kept_4 0 0 12 rfl rfl rfl rfl [0, 1, 2, 3, 4, 5, 6] rfl rfl [2, 3, 4, 5] rfl (by decide) ⟨zsX9, zsX7, zsX1, zsX4, trivial⟩ rfl rfl rfl (Nat.le_of_ble_eq_true rfl) rfl rfl ⟨Nat.le_of_ble_eq_true rfl, Nat.le_of_ble_eq_true rfl⟩ ⟨Nat.le_of_ble_eq_true rfl, Nat.le_of_ble_eq_true rfl⟩ ?_
  rcases hk with ⟨v, e, rfl, rfl⟩ | ⟨E2, e, -⟩
  · have hv : out.1 = v := Sum.inr.inj e
    subst hv
    refine z_i2l X dL_kept_7 ?_
    refine z_last (ws2 := [wX11 (zcT C) aO (aP 0) (aX 0) (aL 0) (aW 0) (aV 0) (aF 0) (aK 0) (aZ 0) (aR 0) aN sO, wX5 (zcT C) aP sP, wX9 (zcT C) aW (aP 0) (aS 0) (aD 0) (aQ 0) out.2.1, wX7 (zcT C) aS out.2.2.1, wX1 (zcT C) aD out.2.2.2.1, wX4 (zcT C) aQ out.2.2.2.2, wX4 (zcT C) (fun j => aN (0 + 4 * j)) sM, wU (zcT C) aU (zsb sU 0 (vp_updL (zgb sU 0) ((0 : Int32)).toNatClampNeg ((fun v : Int32 => v.toInt64) out.1)))]) X 7 0 (by decide) dL_kept_8 rfl rfl (by decide) rfl rfl ?_
    refine z_goto (tgt := 15) X dL_kept_9 (by decide) ?_
    refine z_iconst (v := (0 : Int32)) X dL_kept_15 rfl ?_
    exact z_iret X hQ dL_kept_16 rfl [2, 3, 4, 5, 7] rfl (Nat.le_of_ble_eq_true rfl) (Nat.le_of_ble_eq_true rfl)
  · exact absurd e (by simp)
abbrev rmL_kept_1 : Room := { frames := 8, cells := 0, slots := 0, locals := 169 }
theorem metL_kept_1 (l : Launch) (hst : l.stackTraces = false) (D : va_G) (T : Nat → ClassId) (aO : Nat → Nat) (aP : Nat → Nat) (aX : Nat → Nat) (aL : Nat → Nat) (aW : Nat → Nat) (aV : Nat → Nat) (aF : Nat → Nat) (aK : Nat → Nat) (aZ : Nat → Nat) (aR : Nat → Nat) (aS : Nat → Nat) (aD : Nat → Nat) (aQ : Nat → Nat) (aN : Nat → Nat) {sO : zSt} {sP : zSt} {sW : zSt} {sS : zSt} {sD : zSt} {sQ : zSt} {sM : zSt} {out : Int32 × zSt × zSt × zSt × zSt} (hf : fX11_kept_1 sO sP sW sS sD sQ sM = some out) (aU : Nat → Nat) {sU sU2 : zSt} {k0 : Int32} (hk : zWr (fun v : Int32 => v.toInt64) [("java/lang/IllegalArgumentException", 1)] (.inr out.1) sU k0 sU2) (base sz : Nat) : Met l yL_kept (Cond.codeWith yL_kept cL_kept 4 (some .int) [(0, 9, 12, 13)] :: zW) rmL_kept_1 (zPL D T [.ref (aO 0), .int (1 : Int32), .ref (aU 0)] [wX11 T aO (aP 0) (aX 0) (aL 0) (aW 0) (aV 0) (aF 0) (aK 0) (aZ 0) (aR 0) aN sO, wX5 T aP sP, wX9 T aW (aP 0) (aS 0) (aD 0) (aQ 0) sW, wX7 T aS sS, wX1 T aD sD, wX4 T aQ sQ, wX4 T (fun j => aN (1 + 4 * j)) sM, wU T aU sU] [wX9 T aW (aP 0) (aS 0) (aD 0) (aQ 0) sW, wX7 T aS sS, wX1 T aD sD, wX4 T aQ sQ, wU T aU sU] base sz) (zQi D k0 [wX9 T aW (aP 0) (aS 0) (aD 0) (aQ 0) out.2.1, wX7 T aS out.2.2.1, wX1 T aD out.2.2.2.1, wX4 T aQ out.2.2.2.2, wU T aU sU2] (zA [wX9 T aW (aP 0) (aS 0) (aD 0) (aQ 0) sW, wX7 T aS sS, wX1 T aD sD, wX4 T aQ sQ, wU T aU sU] sz)) 0 0 (zA [wX9 T aW (aP 0) (aS 0) (aD 0) (aQ 0) sW, wX7 T aS sS, wX1 T aD sD, wX4 T aQ sQ, wU T aU sU] sz) := by
  refine zMetL hst (D := D) (T := T) (av := [.ref (aO 0), .int (1 : Int32), .ref (aU 0)]) (ws := fun T => [wX11 T aO (aP 0) (aX 0) (aL 0) (aW 0) (aV 0) (aF 0) (aK 0) (aZ 0) (aR 0) aN sO, wX5 T aP sP, wX9 T aW (aP 0) (aS 0) (aD 0) (aQ 0) sW, wX7 T aS sS, wX1 T aD sD, wX4 T aQ sQ, wX4 T (fun j => aN (1 + 4 * j)) sM, wU T aU sU]) (wm := fun T => [wX9 T aW (aP 0) (aS 0) (aD 0) (aQ 0) sW, wX7 T aS sS, wX1 T aD sD, wX4 T aQ sQ, wU T aU sU]) (lv0 := [(0, .ref (aO 0)), (1, .int (1 : Int32)), (2, .ref (aU 0))]) [2, 3, 4, 5, 7] (Qc := fun D T A => zQi D k0 [wX9 T aW (aP 0) (aS 0) (aD 0) (aQ 0) out.2.1, wX7 T aS out.2.2.1, wX1 T aD out.2.2.2.1, wX4 T aQ out.2.2.2.2, wU T aU sU2] A) (by decide +kernel) rfl (Nat.le_of_ble_eq_true rfl) rfl (fun C base X Y hT hQ => ?_) base sz
  refine z_aload_n X dL_kept_0 2 rfl ?_
  refine z_iconst (v := (0 : Int32)) X dL_kept_1 rfl ?_
  refine z_aload_n X dL_kept_2 0 rfl ?_
  refine z_iload_n X dL_kept_3 1 rfl ?_
  refine z_callVi (st := [.int 0, .ref (aU 0)]) (ws2 := [wX11 (zcT C) aO (aP 0) (aX 0) (aL 0) (aW 0) (aV 0) (aF 0) (aK 0) (aZ 0) (aR 0) aN sO, wX5 (zcT C) aP sP, wX9 (zcT C) aW (aP 0) (aS 0) (aD 0) (aQ 0) out.2.1, wX7 (zcT C) aS out.2.2.1, wX1 (zcT C) aD out.2.2.2.1, wX4 (zcT C) aQ out.2.2.2.2, wX4 (zcT C) (fun j => aN (1 + 4 * j)) sM, wU (zcT C) aU sU]) X (metX11_kept_1 (zcl C) (zcD C) (zcT C) aO aP aX aL aW aV aF aK aZ aR aS aD aQ aN hf) zl_kept zlk_kept dL_kept_4 0 0 12 rfl rfl rfl rfl [0, 1, 2, 3, 4, 5, 6] rfl rfl [2, 3, 4, 5] rfl (by decide) ⟨zsX9, zsX7, zsX1, zsX4, trivial⟩ rfl rfl rfl (Nat.le_of_ble_eq_true rfl) rfl rfl ⟨Nat.le_of_ble_eq_true rfl, Nat.le_of_ble_eq_true rfl⟩ ⟨Nat.le_of_ble_eq_true rfl, Nat.le_of_ble_eq_true rfl⟩ ?_
  rcases hk with ⟨v, e, rfl, rfl⟩ | ⟨E2, e, -⟩
  · have hv : out.1 = v := Sum.inr.inj e
    subst hv
    refine z_i2l X dL_kept_7 ?_
    refine z_last (ws2 := [wX11 (zcT C) aO (aP 0) (aX 0) (aL 0) (aW 0) (aV 0) (aF 0) (aK 0) (aZ 0) (aR 0) aN sO, wX5 (zcT C) aP sP, wX9 (zcT C) aW (aP 0) (aS 0) (aD 0) (aQ 0) out.2.1, wX7 (zcT C) aS out.2.2.1, wX1 (zcT C) aD out.2.2.2.1, wX4 (zcT C) aQ out.2.2.2.2, wX4 (zcT C) (fun j => aN (1 + 4 * j)) sM, wU (zcT C) aU (zsb sU 0 (vp_updL (zgb sU 0) ((0 : Int32)).toNatClampNeg ((fun v : Int32 => v.toInt64) out.1)))]) X 7 0 (by decide) dL_kept_8 rfl rfl (by decide) rfl rfl ?_
    refine z_goto (tgt := 15) X dL_kept_9 (by decide) ?_
    refine z_iconst (v := (0 : Int32)) X dL_kept_15 rfl ?_
    exact z_iret X hQ dL_kept_16 rfl [2, 3, 4, 5, 7] rfl (Nat.le_of_ble_eq_true rfl) (Nat.le_of_ble_eq_true rfl)
  · exact absurd e (by simp)
abbrev rmL_kept_2 : Room := { frames := 8, cells := 0, slots := 0, locals := 169 }
theorem metL_kept_2 (l : Launch) (hst : l.stackTraces = false) (D : va_G) (T : Nat → ClassId) (aO : Nat → Nat) (aP : Nat → Nat) (aX : Nat → Nat) (aL : Nat → Nat) (aW : Nat → Nat) (aV : Nat → Nat) (aF : Nat → Nat) (aK : Nat → Nat) (aZ : Nat → Nat) (aR : Nat → Nat) (aS : Nat → Nat) (aD : Nat → Nat) (aQ : Nat → Nat) (aN : Nat → Nat) {sO : zSt} {sP : zSt} {sW : zSt} {sS : zSt} {sD : zSt} {sQ : zSt} {sM : zSt} {out : Int32 × zSt × zSt × zSt × zSt} (hf : fX11_kept_2 sO sP sW sS sD sQ sM = some out) (aU : Nat → Nat) {sU sU2 : zSt} {k0 : Int32} (hk : zWr (fun v : Int32 => v.toInt64) [("java/lang/IllegalArgumentException", 1)] (.inr out.1) sU k0 sU2) (base sz : Nat) : Met l yL_kept (Cond.codeWith yL_kept cL_kept 4 (some .int) [(0, 9, 12, 13)] :: zW) rmL_kept_2 (zPL D T [.ref (aO 0), .int (2 : Int32), .ref (aU 0)] [wX11 T aO (aP 0) (aX 0) (aL 0) (aW 0) (aV 0) (aF 0) (aK 0) (aZ 0) (aR 0) aN sO, wX5 T aP sP, wX9 T aW (aP 0) (aS 0) (aD 0) (aQ 0) sW, wX7 T aS sS, wX1 T aD sD, wX4 T aQ sQ, wX4 T (fun j => aN (2 + 4 * j)) sM, wU T aU sU] [wX9 T aW (aP 0) (aS 0) (aD 0) (aQ 0) sW, wX7 T aS sS, wX1 T aD sD, wX4 T aQ sQ, wU T aU sU] base sz) (zQi D k0 [wX9 T aW (aP 0) (aS 0) (aD 0) (aQ 0) out.2.1, wX7 T aS out.2.2.1, wX1 T aD out.2.2.2.1, wX4 T aQ out.2.2.2.2, wU T aU sU2] (zA [wX9 T aW (aP 0) (aS 0) (aD 0) (aQ 0) sW, wX7 T aS sS, wX1 T aD sD, wX4 T aQ sQ, wU T aU sU] sz)) 0 0 (zA [wX9 T aW (aP 0) (aS 0) (aD 0) (aQ 0) sW, wX7 T aS sS, wX1 T aD sD, wX4 T aQ sQ, wU T aU sU] sz) := by
  refine zMetL hst (D := D) (T := T) (av := [.ref (aO 0), .int (2 : Int32), .ref (aU 0)]) (ws := fun T => [wX11 T aO (aP 0) (aX 0) (aL 0) (aW 0) (aV 0) (aF 0) (aK 0) (aZ 0) (aR 0) aN sO, wX5 T aP sP, wX9 T aW (aP 0) (aS 0) (aD 0) (aQ 0) sW, wX7 T aS sS, wX1 T aD sD, wX4 T aQ sQ, wX4 T (fun j => aN (2 + 4 * j)) sM, wU T aU sU]) (wm := fun T => [wX9 T aW (aP 0) (aS 0) (aD 0) (aQ 0) sW, wX7 T aS sS, wX1 T aD sD, wX4 T aQ sQ, wU T aU sU]) (lv0 := [(0, .ref (aO 0)), (1, .int (2 : Int32)), (2, .ref (aU 0))]) [2, 3, 4, 5, 7] (Qc := fun D T A => zQi D k0 [wX9 T aW (aP 0) (aS 0) (aD 0) (aQ 0) out.2.1, wX7 T aS out.2.2.1, wX1 T aD out.2.2.2.1, wX4 T aQ out.2.2.2.2, wU T aU sU2] A) (by decide +kernel) rfl (Nat.le_of_ble_eq_true rfl) rfl (fun C base X Y hT hQ => ?_) base sz
  refine z_aload_n X dL_kept_0 2 rfl ?_
  refine z_iconst (v := (0 : Int32)) X dL_kept_1 rfl ?_
  refine z_aload_n X dL_kept_2 0 rfl ?_
  refine z_iload_n X dL_kept_3 1 rfl ?_
  refine z_callVi (st := [.int 0, .ref (aU 0)]) (ws2 := [wX11 (zcT C) aO (aP 0) (aX 0) (aL 0) (aW 0) (aV 0) (aF 0) (aK 0) (aZ 0) (aR 0) aN sO, wX5 (zcT C) aP sP, wX9 (zcT C) aW (aP 0) (aS 0) (aD 0) (aQ 0) out.2.1, wX7 (zcT C) aS out.2.2.1, wX1 (zcT C) aD out.2.2.2.1, wX4 (zcT C) aQ out.2.2.2.2, wX4 (zcT C) (fun j => aN (2 + 4 * j)) sM, wU (zcT C) aU sU]) X (metX11_kept_2 (zcl C) (zcD C) (zcT C) aO aP aX aL aW aV aF aK aZ aR aS aD aQ aN hf) zl_kept zlk_kept dL_kept_4 0 0 12 rfl rfl rfl rfl [0, 1, 2, 3, 4, 5, 6] rfl rfl [2, 3, 4, 5] rfl (by decide) ⟨zsX9, zsX7, zsX1, zsX4, trivial⟩ rfl rfl rfl (Nat.le_of_ble_eq_true rfl) rfl rfl ⟨Nat.le_of_ble_eq_true rfl, Nat.le_of_ble_eq_true rfl⟩ ⟨Nat.le_of_ble_eq_true rfl, Nat.le_of_ble_eq_true rfl⟩ ?_
  rcases hk with ⟨v, e, rfl, rfl⟩ | ⟨E2, e, -⟩
  · have hv : out.1 = v := Sum.inr.inj e
    subst hv
    refine z_i2l X dL_kept_7 ?_
    refine z_last (ws2 := [wX11 (zcT C) aO (aP 0) (aX 0) (aL 0) (aW 0) (aV 0) (aF 0) (aK 0) (aZ 0) (aR 0) aN sO, wX5 (zcT C) aP sP, wX9 (zcT C) aW (aP 0) (aS 0) (aD 0) (aQ 0) out.2.1, wX7 (zcT C) aS out.2.2.1, wX1 (zcT C) aD out.2.2.2.1, wX4 (zcT C) aQ out.2.2.2.2, wX4 (zcT C) (fun j => aN (2 + 4 * j)) sM, wU (zcT C) aU (zsb sU 0 (vp_updL (zgb sU 0) ((0 : Int32)).toNatClampNeg ((fun v : Int32 => v.toInt64) out.1)))]) X 7 0 (by decide) dL_kept_8 rfl rfl (by decide) rfl rfl ?_
    refine z_goto (tgt := 15) X dL_kept_9 (by decide) ?_
    refine z_iconst (v := (0 : Int32)) X dL_kept_15 rfl ?_
    exact z_iret X hQ dL_kept_16 rfl [2, 3, 4, 5, 7] rfl (Nat.le_of_ble_eq_true rfl) (Nat.le_of_ble_eq_true rfl)
  · exact absurd e (by simp)
abbrev rmL_kept_3 : Room := { frames := 8, cells := 0, slots := 0, locals := 169 }
theorem metL_kept_3 (l : Launch) (hst : l.stackTraces = false) (D : va_G) (T : Nat → ClassId) (aO : Nat → Nat) (aP : Nat → Nat) (aX : Nat → Nat) (aL : Nat → Nat) (aW : Nat → Nat) (aV : Nat → Nat) (aF : Nat → Nat) (aK : Nat → Nat) (aZ : Nat → Nat) (aR : Nat → Nat) (aS : Nat → Nat) (aD : Nat → Nat) (aQ : Nat → Nat) (aN : Nat → Nat) {sO : zSt} {sP : zSt} {sW : zSt} {sS : zSt} {sD : zSt} {sQ : zSt} {sM : zSt} {out : Int32 × zSt × zSt × zSt × zSt} (hf : fX11_kept_3 sO sP sW sS sD sQ sM = some out) (aU : Nat → Nat) {sU sU2 : zSt} {k0 : Int32} (hk : zWr (fun v : Int32 => v.toInt64) [("java/lang/IllegalArgumentException", 1)] (.inr out.1) sU k0 sU2) (base sz : Nat) : Met l yL_kept (Cond.codeWith yL_kept cL_kept 4 (some .int) [(0, 9, 12, 13)] :: zW) rmL_kept_3 (zPL D T [.ref (aO 0), .int (3 : Int32), .ref (aU 0)] [wX11 T aO (aP 0) (aX 0) (aL 0) (aW 0) (aV 0) (aF 0) (aK 0) (aZ 0) (aR 0) aN sO, wX5 T aP sP, wX9 T aW (aP 0) (aS 0) (aD 0) (aQ 0) sW, wX7 T aS sS, wX1 T aD sD, wX4 T aQ sQ, wX4 T (fun j => aN (3 + 4 * j)) sM, wU T aU sU] [wX9 T aW (aP 0) (aS 0) (aD 0) (aQ 0) sW, wX7 T aS sS, wX1 T aD sD, wX4 T aQ sQ, wU T aU sU] base sz) (zQi D k0 [wX9 T aW (aP 0) (aS 0) (aD 0) (aQ 0) out.2.1, wX7 T aS out.2.2.1, wX1 T aD out.2.2.2.1, wX4 T aQ out.2.2.2.2, wU T aU sU2] (zA [wX9 T aW (aP 0) (aS 0) (aD 0) (aQ 0) sW, wX7 T aS sS, wX1 T aD sD, wX4 T aQ sQ, wU T aU sU] sz)) 0 0 (zA [wX9 T aW (aP 0) (aS 0) (aD 0) (aQ 0) sW, wX7 T aS sS, wX1 T aD sD, wX4 T aQ sQ, wU T aU sU] sz) := by
  refine zMetL hst (D := D) (T := T) (av := [.ref (aO 0), .int (3 : Int32), .ref (aU 0)]) (ws := fun T => [wX11 T aO (aP 0) (aX 0) (aL 0) (aW 0) (aV 0) (aF 0) (aK 0) (aZ 0) (aR 0) aN sO, wX5 T aP sP, wX9 T aW (aP 0) (aS 0) (aD 0) (aQ 0) sW, wX7 T aS sS, wX1 T aD sD, wX4 T aQ sQ, wX4 T (fun j => aN (3 + 4 * j)) sM, wU T aU sU]) (wm := fun T => [wX9 T aW (aP 0) (aS 0) (aD 0) (aQ 0) sW, wX7 T aS sS, wX1 T aD sD, wX4 T aQ sQ, wU T aU sU]) (lv0 := [(0, .ref (aO 0)), (1, .int (3 : Int32)), (2, .ref (aU 0))]) [2, 3, 4, 5, 7] (Qc := fun D T A => zQi D k0 [wX9 T aW (aP 0) (aS 0) (aD 0) (aQ 0) out.2.1, wX7 T aS out.2.2.1, wX1 T aD out.2.2.2.1, wX4 T aQ out.2.2.2.2, wU T aU sU2] A) (by decide +kernel) rfl (Nat.le_of_ble_eq_true rfl) rfl (fun C base X Y hT hQ => ?_) base sz
  refine z_aload_n X dL_kept_0 2 rfl ?_
  refine z_iconst (v := (0 : Int32)) X dL_kept_1 rfl ?_
  refine z_aload_n X dL_kept_2 0 rfl ?_
  refine z_iload_n X dL_kept_3 1 rfl ?_
  refine z_callVi (st := [.int 0, .ref (aU 0)]) (ws2 := [wX11 (zcT C) aO (aP 0) (aX 0) (aL 0) (aW 0) (aV 0) (aF 0) (aK 0) (aZ 0) (aR 0) aN sO, wX5 (zcT C) aP sP, wX9 (zcT C) aW (aP 0) (aS 0) (aD 0) (aQ 0) out.2.1, wX7 (zcT C) aS out.2.2.1, wX1 (zcT C) aD out.2.2.2.1, wX4 (zcT C) aQ out.2.2.2.2, wX4 (zcT C) (fun j => aN (3 + 4 * j)) sM, wU (zcT C) aU sU]) X (metX11_kept_3 (zcl C) (zcD C) (zcT C) aO aP aX aL aW aV aF aK aZ aR aS aD aQ aN hf) zl_kept zlk_kept dL_kept_4 0 0 12 rfl rfl rfl rfl [0, 1, 2, 3, 4, 5, 6] rfl rfl [2, 3, 4, 5] rfl (by decide) ⟨zsX9, zsX7, zsX1, zsX4, trivial⟩ rfl rfl rfl (Nat.le_of_ble_eq_true rfl) rfl rfl ⟨Nat.le_of_ble_eq_true rfl, Nat.le_of_ble_eq_true rfl⟩ ⟨Nat.le_of_ble_eq_true rfl, Nat.le_of_ble_eq_true rfl⟩ ?_
  rcases hk with ⟨v, e, rfl, rfl⟩ | ⟨E2, e, -⟩
  · have hv : out.1 = v := Sum.inr.inj e
    subst hv
    refine z_i2l X dL_kept_7 ?_
    refine z_last (ws2 := [wX11 (zcT C) aO (aP 0) (aX 0) (aL 0) (aW 0) (aV 0) (aF 0) (aK 0) (aZ 0) (aR 0) aN sO, wX5 (zcT C) aP sP, wX9 (zcT C) aW (aP 0) (aS 0) (aD 0) (aQ 0) out.2.1, wX7 (zcT C) aS out.2.2.1, wX1 (zcT C) aD out.2.2.2.1, wX4 (zcT C) aQ out.2.2.2.2, wX4 (zcT C) (fun j => aN (3 + 4 * j)) sM, wU (zcT C) aU (zsb sU 0 (vp_updL (zgb sU 0) ((0 : Int32)).toNatClampNeg ((fun v : Int32 => v.toInt64) out.1)))]) X 7 0 (by decide) dL_kept_8 rfl rfl (by decide) rfl rfl ?_
    refine z_goto (tgt := 15) X dL_kept_9 (by decide) ?_
    refine z_iconst (v := (0 : Int32)) X dL_kept_15 rfl ?_
    exact z_iret X hQ dL_kept_16 rfl [2, 3, 4, 5, 7] rfl (Nat.le_of_ble_eq_true rfl) (Nat.le_of_ble_eq_true rfl)
  · exact absurd e (by simp)
theorem zlk_brokenBy : Cond.methodLink RL 108 yX11_brokenBy ∈ zW := zW_tab (List.mem_of_getElem? (i := 1316) (by decide +kernel)) (by decide +kernel)
abbrev rmL_brokenBy : Room := { frames := 8, cells := 1, slots := 6, locals := 126 }
theorem metL_brokenBy (l : Launch) (hst : l.stackTraces = false) (D : va_G) (T : Nat → ClassId) (aO : Nat → Nat) (aP : Nat → Nat) (aX : Nat → Nat) (aL : Nat → Nat) (aW : Nat → Nat) (aV : Nat → Nat) (aF : Nat → Nat) (aK : Nat → Nat) (aZ : Nat → Nat) (aR : Nat → Nat) (aN : Nat → Nat) {sO : zSt} {x1 : Int32} (hx : x1 < 0 ∨ 4 ≤ x1) (aU : Nat → Nat) {sU sU2 : zSt} {k0 : Int32} (hk : zWr (fun v : Int32 => v.toInt64) [("java/lang/IllegalArgumentException", 1), ("java/util/NoSuchElementException", 2), ("java/lang/UnsupportedOperationException", 3)] (.inl "java/lang/IllegalArgumentException") sU k0 sU2) (base sz : Nat) : Met l yL_brokenBy (Cond.codeWith yL_brokenBy cL_brokenBy 4 (some .int) [(0, 9, 12, 13), (0, 9, 15, 33), (0, 9, 18, 38)] :: zW) rmL_brokenBy (zPL D T [.ref (aO 0), .int x1, .ref (aU 0)] [wX11 T aO (aP 0) (aX 0) (aL 0) (aW 0) (aV 0) (aF 0) (aK 0) (aZ 0) (aR 0) aN sO, wU T aU sU] [wU T aU sU] base sz) (zQi D k0 [wU T aU sU2] (zA [wU T aU sU] sz)) 1 6 (zA [wU T aU sU] sz) := by
  refine zMetL hst (D := D) (T := T) (av := [.ref (aO 0), .int x1, .ref (aU 0)]) (ws := fun T => [wX11 T aO (aP 0) (aX 0) (aL 0) (aW 0) (aV 0) (aF 0) (aK 0) (aZ 0) (aR 0) aN sO, wU T aU sU]) (wm := fun T => [wU T aU sU]) (lv0 := [(0, .ref (aO 0)), (1, .int x1), (2, .ref (aU 0))]) [1] (Qc := fun D T A => zQi D k0 [wU T aU sU2] A) (by decide +kernel) rfl (Nat.le_of_ble_eq_true rfl) rfl (fun C base X Y hT hQ => ?_) base sz
  refine z_aload_n X dL_brokenBy_0 2 rfl ?_
  refine z_iconst (v := (0 : Int32)) X dL_brokenBy_1 rfl ?_
  refine z_aload_n X dL_brokenBy_2 0 rfl ?_
  refine z_iload_n X dL_brokenBy_3 1 rfl ?_
  refine z_tcallVi (st := [.int 0, .ref (aU 0)]) (ws2 := [wX11 (zcT C) aO (aP 0) (aX 0) (aL 0) (aW 0) (aV 0) (aF 0) (aK 0) (aZ 0) (aR 0) aN sO, wU (zcT C) aU sU]) X Y (metX11_brokenBy (zcl C) Y.2.2.2.2.1 (zcD C) (zcT C) aO aP aX aL aW aV aF aK aZ aR aN (sO := sO) hx) zl_brokenBy zlk_brokenBy dL_brokenBy_4 0 0 12 rfl rfl rfl rfl [0] rfl rfl [] rfl (by decide) trivial rfl rfl rfl (Nat.le_of_ble_eq_true rfl) rfl rfl ⟨Nat.le_of_ble_eq_true rfl, Nat.le_of_ble_eq_true rfl⟩ ⟨Nat.le_of_ble_eq_true rfl, Nat.le_of_ble_eq_true rfl⟩ (fun E hE => ?_) (fun r hr => ?_)
  · rcases hk with ⟨v, e, -⟩ | ⟨E2, e, hm, rfl⟩
    · exact absurd (e.symm.trans hE) (by simp)
    · have hE2 : E2 = E := Sum.inl.inj (e.symm.trans hE)
      subst hE2
      rcases List.mem_cons.mp hm with h | hm
      · injection h with h1 h2
        subst h1 h2
        refine z_catch X Y hT [] ⟨0, 9, 12, 13⟩ [⟨0, 9, 15, 33⟩, ⟨0, 9, 18, 38⟩] rfl (fun z hz => absurd hz List.not_mem_nil) (by decide) (by decide) zll13 zlc13 (fun q => ?_)
        refine z_astore_n (lv2 := [(3, .ref q), (0, .ref (aO 0)), (1, .int x1), (2, .ref (aU 0))]) X dL_brokenBy_12 rfl (by decide) rfl ?_
        refine z_iconst (v := (1 : Int32)) X dL_brokenBy_13 rfl ?_
        exact z_iret X hQ dL_brokenBy_14 rfl [1] rfl (Nat.le_of_ble_eq_true rfl) (Nat.le_of_ble_eq_true rfl)
      rcases List.mem_cons.mp hm with h | hm
      · injection h with h1 h2
        subst h1 h2
        refine z_catch X Y hT [⟨0, 9, 12, 13⟩] ⟨0, 9, 15, 33⟩ [⟨0, 9, 18, 38⟩] rfl (fun z hz => by
            simp only [List.mem_cons, List.not_mem_nil, or_false] at hz
            subst hz
            · exact ⟨by decide, _, zll13, by decide +kernel, by decide +kernel, by decide +kernel⟩) (by decide) (by decide) zll33 zlc33 (fun q => ?_)
        refine z_astore_n (lv2 := [(3, .ref q), (0, .ref (aO 0)), (1, .int x1), (2, .ref (aU 0))]) X dL_brokenBy_15 rfl (by decide) rfl ?_
        refine z_iconst (v := (2 : Int32)) X dL_brokenBy_16 rfl ?_
        exact z_iret X hQ dL_brokenBy_17 rfl [1] rfl (Nat.le_of_ble_eq_true rfl) (Nat.le_of_ble_eq_true rfl)
      rcases List.mem_cons.mp hm with h | hm
      · injection h with h1 h2
        subst h1 h2
        refine z_catch X Y hT [⟨0, 9, 12, 13⟩, ⟨0, 9, 15, 33⟩] ⟨0, 9, 18, 38⟩ [] rfl (fun z hz => by
            simp only [List.mem_cons, List.not_mem_nil, or_false] at hz
            rcases hz with rfl | rfl
            · exact ⟨by decide, _, zll13, by decide +kernel, by decide +kernel, by decide +kernel⟩
            · exact ⟨by decide, _, zll33, by decide +kernel, by decide +kernel, by decide +kernel⟩) (by decide) (by decide) zll38 zlc38 (fun q => ?_)
        refine z_astore_n (lv2 := [(3, .ref q), (0, .ref (aO 0)), (1, .int x1), (2, .ref (aU 0))]) X dL_brokenBy_18 rfl (by decide) rfl ?_
        refine z_iconst (v := (3 : Int32)) X dL_brokenBy_19 rfl ?_
        exact z_iret X hQ dL_brokenBy_20 rfl [1] rfl (Nat.le_of_ble_eq_true rfl) (Nat.le_of_ble_eq_true rfl)
      exact absurd hm List.not_mem_nil
  · rcases hk with ⟨v, e, rfl, rfl⟩ | ⟨E2, e, -⟩
    · have hv : r = v := Sum.inr.inj (hr.symm.trans e)
      subst hv
      clear hr
      refine z_i2l X dL_brokenBy_7 ?_
      refine z_last (ws2 := [wX11 (zcT C) aO (aP 0) (aX 0) (aL 0) (aW 0) (aV 0) (aF 0) (aK 0) (aZ 0) (aR 0) aN sO, wU (zcT C) aU (zsb sU 0 (vp_updL (zgb sU 0) ((0 : Int32)).toNatClampNeg ((fun v : Int32 => v.toInt64) r)))]) X 1 0 (by decide) dL_brokenBy_8 rfl rfl (by decide) rfl rfl ?_
      refine z_goto (tgt := 21) X dL_brokenBy_9 (by decide) ?_
      refine z_iconst (v := (0 : Int32)) X dL_brokenBy_21 rfl ?_
      exact z_iret X hQ dL_brokenBy_22 rfl [1] rfl (Nat.le_of_ble_eq_true rfl) (Nat.le_of_ble_eq_true rfl)
    · exact absurd (e.symm.trans hr) (by simp)
abbrev rmL_brokenBy_0 : Room := { frames := 8, cells := 1, slots := 6, locals := 170 }
theorem metL_brokenBy_0 (l : Launch) (hst : l.stackTraces = false) (D : va_G) (T : Nat → ClassId) (aO : Nat → Nat) (aP : Nat → Nat) (aX : Nat → Nat) (aL : Nat → Nat) (aW : Nat → Nat) (aV : Nat → Nat) (aF : Nat → Nat) (aK : Nat → Nat) (aZ : Nat → Nat) (aR : Nat → Nat) (aS : Nat → Nat) (aD : Nat → Nat) (aQ : Nat → Nat) (aN : Nat → Nat) {sO : zSt} {sP : zSt} {sW : zSt} {sS : zSt} {sD : zSt} {sQ : zSt} {sM : zSt} {out : (String ⊕ Int32) × zSt × zSt × zSt × zSt} (hf : fX11_brokenBy_0 sO sP sW sS sD sQ sM = some out) (aU : Nat → Nat) {sU sU2 : zSt} {k0 : Int32} (hk : zWr (fun v : Int32 => v.toInt64) [("java/lang/IllegalArgumentException", 1), ("java/util/NoSuchElementException", 2), ("java/lang/UnsupportedOperationException", 3)] out.1 sU k0 sU2) (base sz : Nat) : Met l yL_brokenBy (Cond.codeWith yL_brokenBy cL_brokenBy 4 (some .int) [(0, 9, 12, 13), (0, 9, 15, 33), (0, 9, 18, 38)] :: zW) rmL_brokenBy_0 (zPL D T [.ref (aO 0), .int (0 : Int32), .ref (aU 0)] [wX11 T aO (aP 0) (aX 0) (aL 0) (aW 0) (aV 0) (aF 0) (aK 0) (aZ 0) (aR 0) aN sO, wX5 T aP sP, wX9 T aW (aP 0) (aS 0) (aD 0) (aQ 0) sW, wX7 T aS sS, wX1 T aD sD, wX4 T aQ sQ, wX4 T (fun j => aN (0 + 4 * j)) sM, wU T aU sU] [wX9 T aW (aP 0) (aS 0) (aD 0) (aQ 0) sW, wX7 T aS sS, wX1 T aD sD, wX4 T aQ sQ, wU T aU sU] base sz) (zQi D k0 [wX9 T aW (aP 0) (aS 0) (aD 0) (aQ 0) out.2.1, wX7 T aS out.2.2.1, wX1 T aD out.2.2.2.1, wX4 T aQ out.2.2.2.2, wU T aU sU2] (zA [wX9 T aW (aP 0) (aS 0) (aD 0) (aQ 0) sW, wX7 T aS sS, wX1 T aD sD, wX4 T aQ sQ, wU T aU sU] sz)) 1 6 (zA [wX9 T aW (aP 0) (aS 0) (aD 0) (aQ 0) sW, wX7 T aS sS, wX1 T aD sD, wX4 T aQ sQ, wU T aU sU] sz) := by
  refine zMetL hst (D := D) (T := T) (av := [.ref (aO 0), .int (0 : Int32), .ref (aU 0)]) (ws := fun T => [wX11 T aO (aP 0) (aX 0) (aL 0) (aW 0) (aV 0) (aF 0) (aK 0) (aZ 0) (aR 0) aN sO, wX5 T aP sP, wX9 T aW (aP 0) (aS 0) (aD 0) (aQ 0) sW, wX7 T aS sS, wX1 T aD sD, wX4 T aQ sQ, wX4 T (fun j => aN (0 + 4 * j)) sM, wU T aU sU]) (wm := fun T => [wX9 T aW (aP 0) (aS 0) (aD 0) (aQ 0) sW, wX7 T aS sS, wX1 T aD sD, wX4 T aQ sQ, wU T aU sU]) (lv0 := [(0, .ref (aO 0)), (1, .int (0 : Int32)), (2, .ref (aU 0))]) [2, 3, 4, 5, 7] (Qc := fun D T A => zQi D k0 [wX9 T aW (aP 0) (aS 0) (aD 0) (aQ 0) out.2.1, wX7 T aS out.2.2.1, wX1 T aD out.2.2.2.1, wX4 T aQ out.2.2.2.2, wU T aU sU2] A) (by decide +kernel) rfl (Nat.le_of_ble_eq_true rfl) rfl (fun C base X Y hT hQ => ?_) base sz
  refine z_aload_n X dL_brokenBy_0 2 rfl ?_
  refine z_iconst (v := (0 : Int32)) X dL_brokenBy_1 rfl ?_
  refine z_aload_n X dL_brokenBy_2 0 rfl ?_
  refine z_iload_n X dL_brokenBy_3 1 rfl ?_
  refine z_tcallVi (st := [.int 0, .ref (aU 0)]) (ws2 := [wX11 (zcT C) aO (aP 0) (aX 0) (aL 0) (aW 0) (aV 0) (aF 0) (aK 0) (aZ 0) (aR 0) aN sO, wX5 (zcT C) aP sP, wX9 (zcT C) aW (aP 0) (aS 0) (aD 0) (aQ 0) out.2.1, wX7 (zcT C) aS out.2.2.1, wX1 (zcT C) aD out.2.2.2.1, wX4 (zcT C) aQ out.2.2.2.2, wX4 (zcT C) (fun j => aN (0 + 4 * j)) sM, wU (zcT C) aU sU]) X Y (metX11_brokenBy_0 (zcl C) Y.2.2.2.2.1 (zcD C) (zcT C) aO aP aX aL aW aV aF aK aZ aR aS aD aQ aN hf) zl_brokenBy zlk_brokenBy dL_brokenBy_4 0 0 12 rfl rfl rfl rfl [0, 1, 2, 3, 4, 5, 6] rfl rfl [2, 3, 4, 5] rfl (by decide) ⟨zsX9, zsX7, zsX1, zsX4, trivial⟩ rfl rfl rfl (Nat.le_of_ble_eq_true rfl) rfl rfl ⟨Nat.le_of_ble_eq_true rfl, Nat.le_of_ble_eq_true rfl⟩ ⟨Nat.le_of_ble_eq_true rfl, Nat.le_of_ble_eq_true rfl⟩ (fun E hE => ?_) (fun r hr => ?_)
  · rcases hk with ⟨v, e, -⟩ | ⟨E2, e, hm, rfl⟩
    · exact absurd (e.symm.trans hE) (by simp)
    · have hE2 : E2 = E := Sum.inl.inj (e.symm.trans hE)
      subst hE2
      rcases List.mem_cons.mp hm with h | hm
      · injection h with h1 h2
        subst h1 h2
        refine z_catch X Y hT [] ⟨0, 9, 12, 13⟩ [⟨0, 9, 15, 33⟩, ⟨0, 9, 18, 38⟩] rfl (fun z hz => absurd hz List.not_mem_nil) (by decide) (by decide) zll13 zlc13 (fun q => ?_)
        refine z_astore_n (lv2 := [(3, .ref q), (0, .ref (aO 0)), (1, .int (0 : Int32)), (2, .ref (aU 0))]) X dL_brokenBy_12 rfl (by decide) rfl ?_
        refine z_iconst (v := (1 : Int32)) X dL_brokenBy_13 rfl ?_
        exact z_iret X hQ dL_brokenBy_14 rfl [2, 3, 4, 5, 7] rfl (Nat.le_of_ble_eq_true rfl) (Nat.le_of_ble_eq_true rfl)
      rcases List.mem_cons.mp hm with h | hm
      · injection h with h1 h2
        subst h1 h2
        refine z_catch X Y hT [⟨0, 9, 12, 13⟩] ⟨0, 9, 15, 33⟩ [⟨0, 9, 18, 38⟩] rfl (fun z hz => by
            simp only [List.mem_cons, List.not_mem_nil, or_false] at hz
            subst hz
            · exact ⟨by decide, _, zll13, by decide +kernel, by decide +kernel, by decide +kernel⟩) (by decide) (by decide) zll33 zlc33 (fun q => ?_)
        refine z_astore_n (lv2 := [(3, .ref q), (0, .ref (aO 0)), (1, .int (0 : Int32)), (2, .ref (aU 0))]) X dL_brokenBy_15 rfl (by decide) rfl ?_
        refine z_iconst (v := (2 : Int32)) X dL_brokenBy_16 rfl ?_
        exact z_iret X hQ dL_brokenBy_17 rfl [2, 3, 4, 5, 7] rfl (Nat.le_of_ble_eq_true rfl) (Nat.le_of_ble_eq_true rfl)
      rcases List.mem_cons.mp hm with h | hm
      · injection h with h1 h2
        subst h1 h2
        refine z_catch X Y hT [⟨0, 9, 12, 13⟩, ⟨0, 9, 15, 33⟩] ⟨0, 9, 18, 38⟩ [] rfl (fun z hz => by
            simp only [List.mem_cons, List.not_mem_nil, or_false] at hz
            rcases hz with rfl | rfl
            · exact ⟨by decide, _, zll13, by decide +kernel, by decide +kernel, by decide +kernel⟩
            · exact ⟨by decide, _, zll33, by decide +kernel, by decide +kernel, by decide +kernel⟩) (by decide) (by decide) zll38 zlc38 (fun q => ?_)
        refine z_astore_n (lv2 := [(3, .ref q), (0, .ref (aO 0)), (1, .int (0 : Int32)), (2, .ref (aU 0))]) X dL_brokenBy_18 rfl (by decide) rfl ?_
        refine z_iconst (v := (3 : Int32)) X dL_brokenBy_19 rfl ?_
        exact z_iret X hQ dL_brokenBy_20 rfl [2, 3, 4, 5, 7] rfl (Nat.le_of_ble_eq_true rfl) (Nat.le_of_ble_eq_true rfl)
      exact absurd hm List.not_mem_nil
  · rcases hk with ⟨v, e, rfl, rfl⟩ | ⟨E2, e, -⟩
    · have hv : r = v := Sum.inr.inj (hr.symm.trans e)
      subst hv
      clear hr
      refine z_i2l X dL_brokenBy_7 ?_
      refine z_last (ws2 := [wX11 (zcT C) aO (aP 0) (aX 0) (aL 0) (aW 0) (aV 0) (aF 0) (aK 0) (aZ 0) (aR 0) aN sO, wX5 (zcT C) aP sP, wX9 (zcT C) aW (aP 0) (aS 0) (aD 0) (aQ 0) out.2.1, wX7 (zcT C) aS out.2.2.1, wX1 (zcT C) aD out.2.2.2.1, wX4 (zcT C) aQ out.2.2.2.2, wX4 (zcT C) (fun j => aN (0 + 4 * j)) sM, wU (zcT C) aU (zsb sU 0 (vp_updL (zgb sU 0) ((0 : Int32)).toNatClampNeg ((fun v : Int32 => v.toInt64) r)))]) X 7 0 (by decide) dL_brokenBy_8 rfl rfl (by decide) rfl rfl ?_
      refine z_goto (tgt := 21) X dL_brokenBy_9 (by decide) ?_
      refine z_iconst (v := (0 : Int32)) X dL_brokenBy_21 rfl ?_
      exact z_iret X hQ dL_brokenBy_22 rfl [2, 3, 4, 5, 7] rfl (Nat.le_of_ble_eq_true rfl) (Nat.le_of_ble_eq_true rfl)
    · exact absurd (e.symm.trans hr) (by simp)
abbrev rmL_brokenBy_1 : Room := { frames := 8, cells := 1, slots := 6, locals := 170 }
theorem metL_brokenBy_1 (l : Launch) (hst : l.stackTraces = false) (D : va_G) (T : Nat → ClassId) (aO : Nat → Nat) (aP : Nat → Nat) (aX : Nat → Nat) (aL : Nat → Nat) (aW : Nat → Nat) (aV : Nat → Nat) (aF : Nat → Nat) (aK : Nat → Nat) (aZ : Nat → Nat) (aR : Nat → Nat) (aS : Nat → Nat) (aD : Nat → Nat) (aQ : Nat → Nat) (aN : Nat → Nat) {sO : zSt} {sP : zSt} {sW : zSt} {sS : zSt} {sD : zSt} {sQ : zSt} {sM : zSt} {out : (String ⊕ Int32) × zSt × zSt × zSt × zSt} (hf : fX11_brokenBy_1 sO sP sW sS sD sQ sM = some out) (aU : Nat → Nat) {sU sU2 : zSt} {k0 : Int32} (hk : zWr (fun v : Int32 => v.toInt64) [("java/lang/IllegalArgumentException", 1), ("java/util/NoSuchElementException", 2), ("java/lang/UnsupportedOperationException", 3)] out.1 sU k0 sU2) (base sz : Nat) : Met l yL_brokenBy (Cond.codeWith yL_brokenBy cL_brokenBy 4 (some .int) [(0, 9, 12, 13), (0, 9, 15, 33), (0, 9, 18, 38)] :: zW) rmL_brokenBy_1 (zPL D T [.ref (aO 0), .int (1 : Int32), .ref (aU 0)] [wX11 T aO (aP 0) (aX 0) (aL 0) (aW 0) (aV 0) (aF 0) (aK 0) (aZ 0) (aR 0) aN sO, wX5 T aP sP, wX9 T aW (aP 0) (aS 0) (aD 0) (aQ 0) sW, wX7 T aS sS, wX1 T aD sD, wX4 T aQ sQ, wX4 T (fun j => aN (1 + 4 * j)) sM, wU T aU sU] [wX9 T aW (aP 0) (aS 0) (aD 0) (aQ 0) sW, wX7 T aS sS, wX1 T aD sD, wX4 T aQ sQ, wU T aU sU] base sz) (zQi D k0 [wX9 T aW (aP 0) (aS 0) (aD 0) (aQ 0) out.2.1, wX7 T aS out.2.2.1, wX1 T aD out.2.2.2.1, wX4 T aQ out.2.2.2.2, wU T aU sU2] (zA [wX9 T aW (aP 0) (aS 0) (aD 0) (aQ 0) sW, wX7 T aS sS, wX1 T aD sD, wX4 T aQ sQ, wU T aU sU] sz)) 1 6 (zA [wX9 T aW (aP 0) (aS 0) (aD 0) (aQ 0) sW, wX7 T aS sS, wX1 T aD sD, wX4 T aQ sQ, wU T aU sU] sz) := by
  refine zMetL hst (D := D) (T := T) (av := [.ref (aO 0), .int (1 : Int32), .ref (aU 0)]) (ws := fun T => [wX11 T aO (aP 0) (aX 0) (aL 0) (aW 0) (aV 0) (aF 0) (aK 0) (aZ 0) (aR 0) aN sO, wX5 T aP sP, wX9 T aW (aP 0) (aS 0) (aD 0) (aQ 0) sW, wX7 T aS sS, wX1 T aD sD, wX4 T aQ sQ, wX4 T (fun j => aN (1 + 4 * j)) sM, wU T aU sU]) (wm := fun T => [wX9 T aW (aP 0) (aS 0) (aD 0) (aQ 0) sW, wX7 T aS sS, wX1 T aD sD, wX4 T aQ sQ, wU T aU sU]) (lv0 := [(0, .ref (aO 0)), (1, .int (1 : Int32)), (2, .ref (aU 0))]) [2, 3, 4, 5, 7] (Qc := fun D T A => zQi D k0 [wX9 T aW (aP 0) (aS 0) (aD 0) (aQ 0) out.2.1, wX7 T aS out.2.2.1, wX1 T aD out.2.2.2.1, wX4 T aQ out.2.2.2.2, wU T aU sU2] A) (by decide +kernel) rfl (Nat.le_of_ble_eq_true rfl) rfl (fun C base X Y hT hQ => ?_) base sz
  refine z_aload_n X dL_brokenBy_0 2 rfl ?_
  refine z_iconst (v := (0 : Int32)) X dL_brokenBy_1 rfl ?_
  refine z_aload_n X dL_brokenBy_2 0 rfl ?_
  refine z_iload_n X dL_brokenBy_3 1 rfl ?_
  refine z_tcallVi (st := [.int 0, .ref (aU 0)]) (ws2 := [wX11 (zcT C) aO (aP 0) (aX 0) (aL 0) (aW 0) (aV 0) (aF 0) (aK 0) (aZ 0) (aR 0) aN sO, wX5 (zcT C) aP sP, wX9 (zcT C) aW (aP 0) (aS 0) (aD 0) (aQ 0) out.2.1, wX7 (zcT C) aS out.2.2.1, wX1 (zcT C) aD out.2.2.2.1, wX4 (zcT C) aQ out.2.2.2.2, wX4 (zcT C) (fun j => aN (1 + 4 * j)) sM, wU (zcT C) aU sU]) X Y (metX11_brokenBy_1 (zcl C) Y.2.2.2.2.1 (zcD C) (zcT C) aO aP aX aL aW aV aF aK aZ aR aS aD aQ aN hf) zl_brokenBy zlk_brokenBy dL_brokenBy_4 0 0 12 rfl rfl rfl rfl [0, 1, 2, 3, 4, 5, 6] rfl rfl [2, 3, 4, 5] rfl (by decide) ⟨zsX9, zsX7, zsX1, zsX4, trivial⟩ rfl rfl rfl (Nat.le_of_ble_eq_true rfl) rfl rfl ⟨Nat.le_of_ble_eq_true rfl, Nat.le_of_ble_eq_true rfl⟩ ⟨Nat.le_of_ble_eq_true rfl, Nat.le_of_ble_eq_true rfl⟩ (fun E hE => ?_) (fun r hr => ?_)
  · rcases hk with ⟨v, e, -⟩ | ⟨E2, e, hm, rfl⟩
    · exact absurd (e.symm.trans hE) (by simp)
    · have hE2 : E2 = E := Sum.inl.inj (e.symm.trans hE)
      subst hE2
      rcases List.mem_cons.mp hm with h | hm
      · injection h with h1 h2
        subst h1 h2
        refine z_catch X Y hT [] ⟨0, 9, 12, 13⟩ [⟨0, 9, 15, 33⟩, ⟨0, 9, 18, 38⟩] rfl (fun z hz => absurd hz List.not_mem_nil) (by decide) (by decide) zll13 zlc13 (fun q => ?_)
        refine z_astore_n (lv2 := [(3, .ref q), (0, .ref (aO 0)), (1, .int (1 : Int32)), (2, .ref (aU 0))]) X dL_brokenBy_12 rfl (by decide) rfl ?_
        refine z_iconst (v := (1 : Int32)) X dL_brokenBy_13 rfl ?_
        exact z_iret X hQ dL_brokenBy_14 rfl [2, 3, 4, 5, 7] rfl (Nat.le_of_ble_eq_true rfl) (Nat.le_of_ble_eq_true rfl)
      rcases List.mem_cons.mp hm with h | hm
      · injection h with h1 h2
        subst h1 h2
        refine z_catch X Y hT [⟨0, 9, 12, 13⟩] ⟨0, 9, 15, 33⟩ [⟨0, 9, 18, 38⟩] rfl (fun z hz => by
            simp only [List.mem_cons, List.not_mem_nil, or_false] at hz
            subst hz
            · exact ⟨by decide, _, zll13, by decide +kernel, by decide +kernel, by decide +kernel⟩) (by decide) (by decide) zll33 zlc33 (fun q => ?_)
        refine z_astore_n (lv2 := [(3, .ref q), (0, .ref (aO 0)), (1, .int (1 : Int32)), (2, .ref (aU 0))]) X dL_brokenBy_15 rfl (by decide) rfl ?_
        refine z_iconst (v := (2 : Int32)) X dL_brokenBy_16 rfl ?_
        exact z_iret X hQ dL_brokenBy_17 rfl [2, 3, 4, 5, 7] rfl (Nat.le_of_ble_eq_true rfl) (Nat.le_of_ble_eq_true rfl)
      rcases List.mem_cons.mp hm with h | hm
      · injection h with h1 h2
        subst h1 h2
        refine z_catch X Y hT [⟨0, 9, 12, 13⟩, ⟨0, 9, 15, 33⟩] ⟨0, 9, 18, 38⟩ [] rfl (fun z hz => by
            simp only [List.mem_cons, List.not_mem_nil, or_false] at hz
            rcases hz with rfl | rfl
            · exact ⟨by decide, _, zll13, by decide +kernel, by decide +kernel, by decide +kernel⟩
            · exact ⟨by decide, _, zll33, by decide +kernel, by decide +kernel, by decide +kernel⟩) (by decide) (by decide) zll38 zlc38 (fun q => ?_)
        refine z_astore_n (lv2 := [(3, .ref q), (0, .ref (aO 0)), (1, .int (1 : Int32)), (2, .ref (aU 0))]) X dL_brokenBy_18 rfl (by decide) rfl ?_
        refine z_iconst (v := (3 : Int32)) X dL_brokenBy_19 rfl ?_
        exact z_iret X hQ dL_brokenBy_20 rfl [2, 3, 4, 5, 7] rfl (Nat.le_of_ble_eq_true rfl) (Nat.le_of_ble_eq_true rfl)
      exact absurd hm List.not_mem_nil
  · rcases hk with ⟨v, e, rfl, rfl⟩ | ⟨E2, e, -⟩
    · have hv : r = v := Sum.inr.inj (hr.symm.trans e)
      subst hv
      clear hr
      refine z_i2l X dL_brokenBy_7 ?_
      refine z_last (ws2 := [wX11 (zcT C) aO (aP 0) (aX 0) (aL 0) (aW 0) (aV 0) (aF 0) (aK 0) (aZ 0) (aR 0) aN sO, wX5 (zcT C) aP sP, wX9 (zcT C) aW (aP 0) (aS 0) (aD 0) (aQ 0) out.2.1, wX7 (zcT C) aS out.2.2.1, wX1 (zcT C) aD out.2.2.2.1, wX4 (zcT C) aQ out.2.2.2.2, wX4 (zcT C) (fun j => aN (1 + 4 * j)) sM, wU (zcT C) aU (zsb sU 0 (vp_updL (zgb sU 0) ((0 : Int32)).toNatClampNeg ((fun v : Int32 => v.toInt64) r)))]) X 7 0 (by decide) dL_brokenBy_8 rfl rfl (by decide) rfl rfl ?_
      refine z_goto (tgt := 21) X dL_brokenBy_9 (by decide) ?_
      refine z_iconst (v := (0 : Int32)) X dL_brokenBy_21 rfl ?_
      exact z_iret X hQ dL_brokenBy_22 rfl [2, 3, 4, 5, 7] rfl (Nat.le_of_ble_eq_true rfl) (Nat.le_of_ble_eq_true rfl)
    · exact absurd (e.symm.trans hr) (by simp)
abbrev rmL_brokenBy_2 : Room := { frames := 8, cells := 1, slots := 6, locals := 170 }
theorem metL_brokenBy_2 (l : Launch) (hst : l.stackTraces = false) (D : va_G) (T : Nat → ClassId) (aO : Nat → Nat) (aP : Nat → Nat) (aX : Nat → Nat) (aL : Nat → Nat) (aW : Nat → Nat) (aV : Nat → Nat) (aF : Nat → Nat) (aK : Nat → Nat) (aZ : Nat → Nat) (aR : Nat → Nat) (aS : Nat → Nat) (aD : Nat → Nat) (aQ : Nat → Nat) (aN : Nat → Nat) {sO : zSt} {sP : zSt} {sW : zSt} {sS : zSt} {sD : zSt} {sQ : zSt} {sM : zSt} {out : (String ⊕ Int32) × zSt × zSt × zSt × zSt} (hf : fX11_brokenBy_2 sO sP sW sS sD sQ sM = some out) (aU : Nat → Nat) {sU sU2 : zSt} {k0 : Int32} (hk : zWr (fun v : Int32 => v.toInt64) [("java/lang/IllegalArgumentException", 1), ("java/util/NoSuchElementException", 2), ("java/lang/UnsupportedOperationException", 3)] out.1 sU k0 sU2) (base sz : Nat) : Met l yL_brokenBy (Cond.codeWith yL_brokenBy cL_brokenBy 4 (some .int) [(0, 9, 12, 13), (0, 9, 15, 33), (0, 9, 18, 38)] :: zW) rmL_brokenBy_2 (zPL D T [.ref (aO 0), .int (2 : Int32), .ref (aU 0)] [wX11 T aO (aP 0) (aX 0) (aL 0) (aW 0) (aV 0) (aF 0) (aK 0) (aZ 0) (aR 0) aN sO, wX5 T aP sP, wX9 T aW (aP 0) (aS 0) (aD 0) (aQ 0) sW, wX7 T aS sS, wX1 T aD sD, wX4 T aQ sQ, wX4 T (fun j => aN (2 + 4 * j)) sM, wU T aU sU] [wX9 T aW (aP 0) (aS 0) (aD 0) (aQ 0) sW, wX7 T aS sS, wX1 T aD sD, wX4 T aQ sQ, wU T aU sU] base sz) (zQi D k0 [wX9 T aW (aP 0) (aS 0) (aD 0) (aQ 0) out.2.1, wX7 T aS out.2.2.1, wX1 T aD out.2.2.2.1, wX4 T aQ out.2.2.2.2, wU T aU sU2] (zA [wX9 T aW (aP 0) (aS 0) (aD 0) (aQ 0) sW, wX7 T aS sS, wX1 T aD sD, wX4 T aQ sQ, wU T aU sU] sz)) 1 6 (zA [wX9 T aW (aP 0) (aS 0) (aD 0) (aQ 0) sW, wX7 T aS sS, wX1 T aD sD, wX4 T aQ sQ, wU T aU sU] sz) := by
  refine zMetL hst (D := D) (T := T) (av := [.ref (aO 0), .int (2 : Int32), .ref (aU 0)]) (ws := fun T => [wX11 T aO (aP 0) (aX 0) (aL 0) (aW 0) (aV 0) (aF 0) (aK 0) (aZ 0) (aR 0) aN sO, wX5 T aP sP, wX9 T aW (aP 0) (aS 0) (aD 0) (aQ 0) sW, wX7 T aS sS, wX1 T aD sD, wX4 T aQ sQ, wX4 T (fun j => aN (2 + 4 * j)) sM, wU T aU sU]) (wm := fun T => [wX9 T aW (aP 0) (aS 0) (aD 0) (aQ 0) sW, wX7 T aS sS, wX1 T aD sD, wX4 T aQ sQ, wU T aU sU]) (lv0 := [(0, .ref (aO 0)), (1, .int (2 : Int32)), (2, .ref (aU 0))]) [2, 3, 4, 5, 7] (Qc := fun D T A => zQi D k0 [wX9 T aW (aP 0) (aS 0) (aD 0) (aQ 0) out.2.1, wX7 T aS out.2.2.1, wX1 T aD out.2.2.2.1, wX4 T aQ out.2.2.2.2, wU T aU sU2] A) (by decide +kernel) rfl (Nat.le_of_ble_eq_true rfl) rfl (fun C base X Y hT hQ => ?_) base sz
  refine z_aload_n X dL_brokenBy_0 2 rfl ?_
  refine z_iconst (v := (0 : Int32)) X dL_brokenBy_1 rfl ?_
  refine z_aload_n X dL_brokenBy_2 0 rfl ?_
  refine z_iload_n X dL_brokenBy_3 1 rfl ?_
  refine z_tcallVi (st := [.int 0, .ref (aU 0)]) (ws2 := [wX11 (zcT C) aO (aP 0) (aX 0) (aL 0) (aW 0) (aV 0) (aF 0) (aK 0) (aZ 0) (aR 0) aN sO, wX5 (zcT C) aP sP, wX9 (zcT C) aW (aP 0) (aS 0) (aD 0) (aQ 0) out.2.1, wX7 (zcT C) aS out.2.2.1, wX1 (zcT C) aD out.2.2.2.1, wX4 (zcT C) aQ out.2.2.2.2, wX4 (zcT C) (fun j => aN (2 + 4 * j)) sM, wU (zcT C) aU sU]) X Y (metX11_brokenBy_2 (zcl C) Y.2.2.2.2.1 (zcD C) (zcT C) aO aP aX aL aW aV aF aK aZ aR aS aD aQ aN hf) zl_brokenBy zlk_brokenBy dL_brokenBy_4 0 0 12 rfl rfl rfl rfl [0, 1, 2, 3, 4, 5, 6] rfl rfl [2, 3, 4, 5] rfl (by decide) ⟨zsX9, zsX7, zsX1, zsX4, trivial⟩ rfl rfl rfl (Nat.le_of_ble_eq_true rfl) rfl rfl ⟨Nat.le_of_ble_eq_true rfl, Nat.le_of_ble_eq_true rfl⟩ ⟨Nat.le_of_ble_eq_true rfl, Nat.le_of_ble_eq_true rfl⟩ (fun E hE => ?_) (fun r hr => ?_)
  · rcases hk with ⟨v, e, -⟩ | ⟨E2, e, hm, rfl⟩
    · exact absurd (e.symm.trans hE) (by simp)
    · have hE2 : E2 = E := Sum.inl.inj (e.symm.trans hE)
      subst hE2
      rcases List.mem_cons.mp hm with h | hm
      · injection h with h1 h2
        subst h1 h2
        refine z_catch X Y hT [] ⟨0, 9, 12, 13⟩ [⟨0, 9, 15, 33⟩, ⟨0, 9, 18, 38⟩] rfl (fun z hz => absurd hz List.not_mem_nil) (by decide) (by decide) zll13 zlc13 (fun q => ?_)
        refine z_astore_n (lv2 := [(3, .ref q), (0, .ref (aO 0)), (1, .int (2 : Int32)), (2, .ref (aU 0))]) X dL_brokenBy_12 rfl (by decide) rfl ?_
        refine z_iconst (v := (1 : Int32)) X dL_brokenBy_13 rfl ?_
        exact z_iret X hQ dL_brokenBy_14 rfl [2, 3, 4, 5, 7] rfl (Nat.le_of_ble_eq_true rfl) (Nat.le_of_ble_eq_true rfl)
      rcases List.mem_cons.mp hm with h | hm
      · injection h with h1 h2
        subst h1 h2
        refine z_catch X Y hT [⟨0, 9, 12, 13⟩] ⟨0, 9, 15, 33⟩ [⟨0, 9, 18, 38⟩] rfl (fun z hz => by
            simp only [List.mem_cons, List.not_mem_nil, or_false] at hz
            subst hz
            · exact ⟨by decide, _, zll13, by decide +kernel, by decide +kernel, by decide +kernel⟩) (by decide) (by decide) zll33 zlc33 (fun q => ?_)
        refine z_astore_n (lv2 := [(3, .ref q), (0, .ref (aO 0)), (1, .int (2 : Int32)), (2, .ref (aU 0))]) X dL_brokenBy_15 rfl (by decide) rfl ?_
        refine z_iconst (v := (2 : Int32)) X dL_brokenBy_16 rfl ?_
        exact z_iret X hQ dL_brokenBy_17 rfl [2, 3, 4, 5, 7] rfl (Nat.le_of_ble_eq_true rfl) (Nat.le_of_ble_eq_true rfl)
      rcases List.mem_cons.mp hm with h | hm
      · injection h with h1 h2
        subst h1 h2
        refine z_catch X Y hT [⟨0, 9, 12, 13⟩, ⟨0, 9, 15, 33⟩] ⟨0, 9, 18, 38⟩ [] rfl (fun z hz => by
            simp only [List.mem_cons, List.not_mem_nil, or_false] at hz
            rcases hz with rfl | rfl
            · exact ⟨by decide, _, zll13, by decide +kernel, by decide +kernel, by decide +kernel⟩
            · exact ⟨by decide, _, zll33, by decide +kernel, by decide +kernel, by decide +kernel⟩) (by decide) (by decide) zll38 zlc38 (fun q => ?_)
        refine z_astore_n (lv2 := [(3, .ref q), (0, .ref (aO 0)), (1, .int (2 : Int32)), (2, .ref (aU 0))]) X dL_brokenBy_18 rfl (by decide) rfl ?_
        refine z_iconst (v := (3 : Int32)) X dL_brokenBy_19 rfl ?_
        exact z_iret X hQ dL_brokenBy_20 rfl [2, 3, 4, 5, 7] rfl (Nat.le_of_ble_eq_true rfl) (Nat.le_of_ble_eq_true rfl)
      exact absurd hm List.not_mem_nil
  · rcases hk with ⟨v, e, rfl, rfl⟩ | ⟨E2, e, -⟩
    · have hv : r = v := Sum.inr.inj (hr.symm.trans e)
      subst hv
      clear hr
      refine z_i2l X dL_brokenBy_7 ?_
      refine z_last (ws2 := [wX11 (zcT C) aO (aP 0) (aX 0) (aL 0) (aW 0) (aV 0) (aF 0) (aK 0) (aZ 0) (aR 0) aN sO, wX5 (zcT C) aP sP, wX9 (zcT C) aW (aP 0) (aS 0) (aD 0) (aQ 0) out.2.1, wX7 (zcT C) aS out.2.2.1, wX1 (zcT C) aD out.2.2.2.1, wX4 (zcT C) aQ out.2.2.2.2, wX4 (zcT C) (fun j => aN (2 + 4 * j)) sM, wU (zcT C) aU (zsb sU 0 (vp_updL (zgb sU 0) ((0 : Int32)).toNatClampNeg ((fun v : Int32 => v.toInt64) r)))]) X 7 0 (by decide) dL_brokenBy_8 rfl rfl (by decide) rfl rfl ?_
      refine z_goto (tgt := 21) X dL_brokenBy_9 (by decide) ?_
      refine z_iconst (v := (0 : Int32)) X dL_brokenBy_21 rfl ?_
      exact z_iret X hQ dL_brokenBy_22 rfl [2, 3, 4, 5, 7] rfl (Nat.le_of_ble_eq_true rfl) (Nat.le_of_ble_eq_true rfl)
    · exact absurd (e.symm.trans hr) (by simp)
abbrev rmL_brokenBy_3 : Room := { frames := 8, cells := 1, slots := 6, locals := 170 }
theorem metL_brokenBy_3 (l : Launch) (hst : l.stackTraces = false) (D : va_G) (T : Nat → ClassId) (aO : Nat → Nat) (aP : Nat → Nat) (aX : Nat → Nat) (aL : Nat → Nat) (aW : Nat → Nat) (aV : Nat → Nat) (aF : Nat → Nat) (aK : Nat → Nat) (aZ : Nat → Nat) (aR : Nat → Nat) (aS : Nat → Nat) (aD : Nat → Nat) (aQ : Nat → Nat) (aN : Nat → Nat) {sO : zSt} {sP : zSt} {sW : zSt} {sS : zSt} {sD : zSt} {sQ : zSt} {sM : zSt} {out : (String ⊕ Int32) × zSt × zSt × zSt × zSt} (hf : fX11_brokenBy_3 sO sP sW sS sD sQ sM = some out) (aU : Nat → Nat) {sU sU2 : zSt} {k0 : Int32} (hk : zWr (fun v : Int32 => v.toInt64) [("java/lang/IllegalArgumentException", 1), ("java/util/NoSuchElementException", 2), ("java/lang/UnsupportedOperationException", 3)] out.1 sU k0 sU2) (base sz : Nat) : Met l yL_brokenBy (Cond.codeWith yL_brokenBy cL_brokenBy 4 (some .int) [(0, 9, 12, 13), (0, 9, 15, 33), (0, 9, 18, 38)] :: zW) rmL_brokenBy_3 (zPL D T [.ref (aO 0), .int (3 : Int32), .ref (aU 0)] [wX11 T aO (aP 0) (aX 0) (aL 0) (aW 0) (aV 0) (aF 0) (aK 0) (aZ 0) (aR 0) aN sO, wX5 T aP sP, wX9 T aW (aP 0) (aS 0) (aD 0) (aQ 0) sW, wX7 T aS sS, wX1 T aD sD, wX4 T aQ sQ, wX4 T (fun j => aN (3 + 4 * j)) sM, wU T aU sU] [wX9 T aW (aP 0) (aS 0) (aD 0) (aQ 0) sW, wX7 T aS sS, wX1 T aD sD, wX4 T aQ sQ, wU T aU sU] base sz) (zQi D k0 [wX9 T aW (aP 0) (aS 0) (aD 0) (aQ 0) out.2.1, wX7 T aS out.2.2.1, wX1 T aD out.2.2.2.1, wX4 T aQ out.2.2.2.2, wU T aU sU2] (zA [wX9 T aW (aP 0) (aS 0) (aD 0) (aQ 0) sW, wX7 T aS sS, wX1 T aD sD, wX4 T aQ sQ, wU T aU sU] sz)) 1 6 (zA [wX9 T aW (aP 0) (aS 0) (aD 0) (aQ 0) sW, wX7 T aS sS, wX1 T aD sD, wX4 T aQ sQ, wU T aU sU] sz) := by
  refine zMetL hst (D := D) (T := T) (av := [.ref (aO 0), .int (3 : Int32), .ref (aU 0)]) (ws := fun T => [wX11 T aO (aP 0) (aX 0) (aL 0) (aW 0) (aV 0) (aF 0) (aK 0) (aZ 0) (aR 0) aN sO, wX5 T aP sP, wX9 T aW (aP 0) (aS 0) (aD 0) (aQ 0) sW, wX7 T aS sS, wX1 T aD sD, wX4 T aQ sQ, wX4 T (fun j => aN (3 + 4 * j)) sM, wU T aU sU]) (wm := fun T => [wX9 T aW (aP 0) (aS 0) (aD 0) (aQ 0) sW, wX7 T aS sS, wX1 T aD sD, wX4 T aQ sQ, wU T aU sU]) (lv0 := [(0, .ref (aO 0)), (1, .int (3 : Int32)), (2, .ref (aU 0))]) [2, 3, 4, 5, 7] (Qc := fun D T A => zQi D k0 [wX9 T aW (aP 0) (aS 0) (aD 0) (aQ 0) out.2.1, wX7 T aS out.2.2.1, wX1 T aD out.2.2.2.1, wX4 T aQ out.2.2.2.2, wU T aU sU2] A) (by decide +kernel) rfl (Nat.le_of_ble_eq_true rfl) rfl (fun C base X Y hT hQ => ?_) base sz
  refine z_aload_n X dL_brokenBy_0 2 rfl ?_
  refine z_iconst (v := (0 : Int32)) X dL_brokenBy_1 rfl ?_
  refine z_aload_n X dL_brokenBy_2 0 rfl ?_
  refine z_iload_n X dL_brokenBy_3 1 rfl ?_
  refine z_tcallVi (st := [.int 0, .ref (aU 0)]) (ws2 := [wX11 (zcT C) aO (aP 0) (aX 0) (aL 0) (aW 0) (aV 0) (aF 0) (aK 0) (aZ 0) (aR 0) aN sO, wX5 (zcT C) aP sP, wX9 (zcT C) aW (aP 0) (aS 0) (aD 0) (aQ 0) out.2.1, wX7 (zcT C) aS out.2.2.1, wX1 (zcT C) aD out.2.2.2.1, wX4 (zcT C) aQ out.2.2.2.2, wX4 (zcT C) (fun j => aN (3 + 4 * j)) sM, wU (zcT C) aU sU]) X Y (metX11_brokenBy_3 (zcl C) Y.2.2.2.2.1 (zcD C) (zcT C) aO aP aX aL aW aV aF aK aZ aR aS aD aQ aN hf) zl_brokenBy zlk_brokenBy dL_brokenBy_4 0 0 12 rfl rfl rfl rfl [0, 1, 2, 3, 4, 5, 6] rfl rfl [2, 3, 4, 5] rfl (by decide) ⟨zsX9, zsX7, zsX1, zsX4, trivial⟩ rfl rfl rfl (Nat.le_of_ble_eq_true rfl) rfl rfl ⟨Nat.le_of_ble_eq_true rfl, Nat.le_of_ble_eq_true rfl⟩ ⟨Nat.le_of_ble_eq_true rfl, Nat.le_of_ble_eq_true rfl⟩ (fun E hE => ?_) (fun r hr => ?_)
  · rcases hk with ⟨v, e, -⟩ | ⟨E2, e, hm, rfl⟩
    · exact absurd (e.symm.trans hE) (by simp)
    · have hE2 : E2 = E := Sum.inl.inj (e.symm.trans hE)
      subst hE2
      rcases List.mem_cons.mp hm with h | hm
      · injection h with h1 h2
        subst h1 h2
        refine z_catch X Y hT [] ⟨0, 9, 12, 13⟩ [⟨0, 9, 15, 33⟩, ⟨0, 9, 18, 38⟩] rfl (fun z hz => absurd hz List.not_mem_nil) (by decide) (by decide) zll13 zlc13 (fun q => ?_)
        refine z_astore_n (lv2 := [(3, .ref q), (0, .ref (aO 0)), (1, .int (3 : Int32)), (2, .ref (aU 0))]) X dL_brokenBy_12 rfl (by decide) rfl ?_
        refine z_iconst (v := (1 : Int32)) X dL_brokenBy_13 rfl ?_
        exact z_iret X hQ dL_brokenBy_14 rfl [2, 3, 4, 5, 7] rfl (Nat.le_of_ble_eq_true rfl) (Nat.le_of_ble_eq_true rfl)
      rcases List.mem_cons.mp hm with h | hm
      · injection h with h1 h2
        subst h1 h2
        refine z_catch X Y hT [⟨0, 9, 12, 13⟩] ⟨0, 9, 15, 33⟩ [⟨0, 9, 18, 38⟩] rfl (fun z hz => by
            simp only [List.mem_cons, List.not_mem_nil, or_false] at hz
            subst hz
            · exact ⟨by decide, _, zll13, by decide +kernel, by decide +kernel, by decide +kernel⟩) (by decide) (by decide) zll33 zlc33 (fun q => ?_)
        refine z_astore_n (lv2 := [(3, .ref q), (0, .ref (aO 0)), (1, .int (3 : Int32)), (2, .ref (aU 0))]) X dL_brokenBy_15 rfl (by decide) rfl ?_
        refine z_iconst (v := (2 : Int32)) X dL_brokenBy_16 rfl ?_
        exact z_iret X hQ dL_brokenBy_17 rfl [2, 3, 4, 5, 7] rfl (Nat.le_of_ble_eq_true rfl) (Nat.le_of_ble_eq_true rfl)
      rcases List.mem_cons.mp hm with h | hm
      · injection h with h1 h2
        subst h1 h2
        refine z_catch X Y hT [⟨0, 9, 12, 13⟩, ⟨0, 9, 15, 33⟩] ⟨0, 9, 18, 38⟩ [] rfl (fun z hz => by
            simp only [List.mem_cons, List.not_mem_nil, or_false] at hz
            rcases hz with rfl | rfl
            · exact ⟨by decide, _, zll13, by decide +kernel, by decide +kernel, by decide +kernel⟩
            · exact ⟨by decide, _, zll33, by decide +kernel, by decide +kernel, by decide +kernel⟩) (by decide) (by decide) zll38 zlc38 (fun q => ?_)
        refine z_astore_n (lv2 := [(3, .ref q), (0, .ref (aO 0)), (1, .int (3 : Int32)), (2, .ref (aU 0))]) X dL_brokenBy_18 rfl (by decide) rfl ?_
        refine z_iconst (v := (3 : Int32)) X dL_brokenBy_19 rfl ?_
        exact z_iret X hQ dL_brokenBy_20 rfl [2, 3, 4, 5, 7] rfl (Nat.le_of_ble_eq_true rfl) (Nat.le_of_ble_eq_true rfl)
      exact absurd hm List.not_mem_nil
  · rcases hk with ⟨v, e, rfl, rfl⟩ | ⟨E2, e, -⟩
    · have hv : r = v := Sum.inr.inj (hr.symm.trans e)
      subst hv
      clear hr
      refine z_i2l X dL_brokenBy_7 ?_
      refine z_last (ws2 := [wX11 (zcT C) aO (aP 0) (aX 0) (aL 0) (aW 0) (aV 0) (aF 0) (aK 0) (aZ 0) (aR 0) aN sO, wX5 (zcT C) aP sP, wX9 (zcT C) aW (aP 0) (aS 0) (aD 0) (aQ 0) out.2.1, wX7 (zcT C) aS out.2.2.1, wX1 (zcT C) aD out.2.2.2.1, wX4 (zcT C) aQ out.2.2.2.2, wX4 (zcT C) (fun j => aN (3 + 4 * j)) sM, wU (zcT C) aU (zsb sU 0 (vp_updL (zgb sU 0) ((0 : Int32)).toNatClampNeg ((fun v : Int32 => v.toInt64) r)))]) X 7 0 (by decide) dL_brokenBy_8 rfl rfl (by decide) rfl rfl ?_
      refine z_goto (tgt := 21) X dL_brokenBy_9 (by decide) ?_
      refine z_iconst (v := (0 : Int32)) X dL_brokenBy_21 rfl ?_
      exact z_iret X hQ dL_brokenBy_22 rfl [2, 3, 4, 5, 7] rfl (Nat.le_of_ble_eq_true rfl) (Nat.le_of_ble_eq_true rfl)
    · exact absurd (e.symm.trans hr) (by simp)
theorem zlk_tightShare : Cond.methodLink RL 111 yX11_tightShare ∈ zW := zW_tab (List.mem_of_getElem? (i := 1325) (by decide +kernel)) (by decide +kernel)
abbrev rmL_tightShare : Room := { frames := 8, cells := 2, slots := 12, locals := 167 }
theorem metL_tightShare (l : Launch) (hst : l.stackTraces = false) (D : va_G) (T : Nat → ClassId) (aO : Nat → Nat) (aP : Nat → Nat) (aX : Nat → Nat) (aL : Nat → Nat) (aW : Nat → Nat) (aV : Nat → Nat) (aF : Nat → Nat) (aK : Nat → Nat) (aZ : Nat → Nat) (aR : Nat → Nat) (aS : Nat → Nat) (aD : Nat → Nat) (aQ : Nat → Nat) (aN : Nat → Nat) {sO : zSt} {sP : zSt} {sW : zSt} {sS : zSt} {sD : zSt} {sQ : zSt} {out : (String ⊕ UInt32) × zSt × zSt × zSt × zSt} (hf : fX11_tightShare sO sP sW sS sD sQ = some out) (aU : Nat → Nat) {fU fU2 : Nat → UInt64} {k0 : Int32} (hk : zWd [("java/util/NoSuchElementException", 1)] out.1 fU k0 fU2) (base sz : Nat) : Met l yL_tightShare (Cond.codeWith yL_tightShare cL_tightShare 3 (some .int) [(0, 8, 11, 33)] :: zW) rmL_tightShare (zPL D T [.ref (aO 0), .ref (aU 0)] [wX11 T aO (aP 0) (aX 0) (aL 0) (aW 0) (aV 0) (aF 0) (aK 0) (aZ 0) (aR 0) aN sO, wX5 T aP sP, wX9 T aW (aP 0) (aS 0) (aD 0) (aQ 0) sW, wX7 T aS sS, wX1 T aD sD, wX4 T aQ sQ, wUd T aU fU] [wX9 T aW (aP 0) (aS 0) (aD 0) (aQ 0) sW, wX7 T aS sS, wX1 T aD sD, wX4 T aQ sQ, wUd T aU fU] base sz) (zQi D k0 [wX9 T aW (aP 0) (aS 0) (aD 0) (aQ 0) out.2.1, wX7 T aS out.2.2.1, wX1 T aD out.2.2.2.1, wX4 T aQ out.2.2.2.2, wUd T aU fU2] (zA [wX9 T aW (aP 0) (aS 0) (aD 0) (aQ 0) sW, wX7 T aS sS, wX1 T aD sD, wX4 T aQ sQ, wUd T aU fU] sz)) 2 12 (zA [wX9 T aW (aP 0) (aS 0) (aD 0) (aQ 0) sW, wX7 T aS sS, wX1 T aD sD, wX4 T aQ sQ, wUd T aU fU] sz) := by
  refine zMetL hst (D := D) (T := T) (av := [.ref (aO 0), .ref (aU 0)]) (ws := fun T => [wX11 T aO (aP 0) (aX 0) (aL 0) (aW 0) (aV 0) (aF 0) (aK 0) (aZ 0) (aR 0) aN sO, wX5 T aP sP, wX9 T aW (aP 0) (aS 0) (aD 0) (aQ 0) sW, wX7 T aS sS, wX1 T aD sD, wX4 T aQ sQ, wUd T aU fU]) (wm := fun T => [wX9 T aW (aP 0) (aS 0) (aD 0) (aQ 0) sW, wX7 T aS sS, wX1 T aD sD, wX4 T aQ sQ, wUd T aU fU]) (lv0 := [(0, .ref (aO 0)), (1, .ref (aU 0))]) [2, 3, 4, 5, 6] (Qc := fun D T A => zQi D k0 [wX9 T aW (aP 0) (aS 0) (aD 0) (aQ 0) out.2.1, wX7 T aS out.2.2.1, wX1 T aD out.2.2.2.1, wX4 T aQ out.2.2.2.2, wUd T aU fU2] A) (by decide +kernel) rfl (Nat.le_of_ble_eq_true rfl) rfl (fun C base X Y hT hQ => ?_) base sz
  refine z_aload_n X dL_tightShare_0 1 rfl ?_
  refine z_iconst (v := (0 : Int32)) X dL_tightShare_1 rfl ?_
  refine z_aload_n X dL_tightShare_2 0 rfl ?_
  refine z_tcallVf (st := [.int 0, .ref (aU 0)]) (ws2 := [wX11 (zcT C) aO (aP 0) (aX 0) (aL 0) (aW 0) (aV 0) (aF 0) (aK 0) (aZ 0) (aR 0) aN sO, wX5 (zcT C) aP sP, wX9 (zcT C) aW (aP 0) (aS 0) (aD 0) (aQ 0) out.2.1, wX7 (zcT C) aS out.2.2.1, wX1 (zcT C) aD out.2.2.2.1, wX4 (zcT C) aQ out.2.2.2.2, wUd (zcT C) aU fU]) X Y (metX11_tightShare (zcl C) Y.2.2.2.2.1 (zcD C) (zcT C) aO aP aX aL aW aV aF aK aZ aR aS aD aQ aN hf) zl_tightShare zlk_tightShare dL_tightShare_3 0 0 12 rfl rfl rfl rfl [0, 1, 2, 3, 4, 5] rfl rfl [2, 3, 4, 5] rfl (by decide) ⟨zsX9, zsX7, zsX1, zsX4, trivial⟩ rfl rfl rfl (Nat.le_of_ble_eq_true rfl) rfl rfl ⟨Nat.le_of_ble_eq_true rfl, Nat.le_of_ble_eq_true rfl⟩ ⟨Nat.le_of_ble_eq_true rfl, Nat.le_of_ble_eq_true rfl⟩ (fun E hE => ?_) (fun r hr => ?_)
  · rcases hk with ⟨v, e, -⟩ | ⟨E2, e, hm, rfl⟩
    · exact absurd (e.symm.trans hE) (by simp)
    · have hE2 : E2 = E := Sum.inl.inj (e.symm.trans hE)
      subst hE2
      rcases List.mem_cons.mp hm with h | hm
      · injection h with h1 h2
        subst h1 h2
        refine z_catch X Y hT [] ⟨0, 8, 11, 33⟩ [] rfl (fun z hz => absurd hz List.not_mem_nil) (by decide) (by decide) zll33 zlc33 (fun q => ?_)
        refine z_astore_n (lv2 := [(2, .ref q), (0, .ref (aO 0)), (1, .ref (aU 0))]) X dL_tightShare_11 rfl (by decide) rfl ?_
        refine z_iconst (v := (1 : Int32)) X dL_tightShare_12 rfl ?_
        exact z_iret X hQ dL_tightShare_13 rfl [2, 3, 4, 5, 6] rfl (Nat.le_of_ble_eq_true rfl) (Nat.le_of_ble_eq_true rfl)
      exact absurd hm List.not_mem_nil
  · rcases hk with ⟨v, e, rfl, rfl, hn⟩ | ⟨E2, e, -⟩
    · have hv : r = v := Sum.inr.inj (hr.symm.trans e)
      subst hv
      clear hr
      refine z_f2d X dL_tightShare_6 hn ?_
      refine z_dast (ws2 := [wX11 (zcT C) aO (aP 0) (aX 0) (aL 0) (aW 0) (aV 0) (aF 0) (aK 0) (aZ 0) (aR 0) aN sO, wX5 (zcT C) aP sP, wX9 (zcT C) aW (aP 0) (aS 0) (aD 0) (aQ 0) out.2.1, wX7 (zcT C) aS out.2.2.1, wX1 (zcT C) aD out.2.2.2.1, wX4 (zcT C) aQ out.2.2.2.2, wUd (zcT C) aU (vf_upd fU ((0 : Int32)).toNatClampNeg (FP.f2d r))]) X 6 0 (by decide) dL_tightShare_7 rfl rfl (by decide) rfl rfl ?_
      refine z_goto (tgt := 14) X dL_tightShare_8 (by decide) ?_
      refine z_iconst (v := (0 : Int32)) X dL_tightShare_14 rfl ?_
      exact z_iret X hQ dL_tightShare_15 rfl [2, 3, 4, 5, 6] rfl (Nat.le_of_ble_eq_true rfl) (Nat.le_of_ble_eq_true rfl)
    · exact absurd (e.symm.trans hr) (by simp)
