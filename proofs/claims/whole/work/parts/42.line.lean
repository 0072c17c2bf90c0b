/-! The reference's line of text, from behind the builder's making on. Written by wip/gen/mkline.py. -/
theorem zw1636 : Cond.methodLink RX12 209 yJ4_append_cf468 ∈ zW := zW_tab (List.mem_of_getElem? (i := 1636) (by decide +kernel)) (by decide +kernel)
theorem zw1731 : Cond.methodLink RX12 213 yJ4_length_8abf5 ∈ zW := zW_tab (List.mem_of_getElem? (i := 1731) (by decide +kernel)) (by decide +kernel)
theorem zw1738 : Cond.methodLink RX12 215 yJ4_append_bf812 ∈ zW := zW_tab (List.mem_of_getElem? (i := 1738) (by decide +kernel)) (by decide +kernel)
theorem zj1741 : Cond.code yJ4_append_bf812 cJ4_append_bf812 2 (some (.object "java/lang/StringBuilder")) ∈ zW := zW_tab (List.mem_of_getElem? (i := 1741) (by decide +kernel)) (by decide +kernel)
theorem zj23 : Cond.initialized RJ4 ∈ zW := zW_tab (List.mem_of_getElem? (i := 23) (by decide +kernel)) (by decide +kernel)
theorem zj1739 : Cond.instanceMethod yJ4_append_bf812 ∈ zW := zW_tab (List.mem_of_getElem? (i := 1739) (by decide +kernel)) (by decide +kernel)
theorem zj1740 : Cond.selects RJ4 yJ4_append_bf812 yJ4_append_bf812 ∈ zW := zW_tab (List.mem_of_getElem? (i := 1740) (by decide +kernel)) (by decide +kernel)
theorem zmJ4_append_bf812 : zMV yJ4_append_bf812 cJ4_append_bf812 2 (some (.object "java/lang/StringBuilder")) 1 := ⟨zj1741, zj23, zj1739, zj1740, (by decide +kernel)⟩
theorem zj1639 : Cond.code yJ4_append_cf468 cJ4_append_cf468 2 (some (.object "java/lang/StringBuilder")) ∈ zW := zW_tab (List.mem_of_getElem? (i := 1639) (by decide +kernel)) (by decide +kernel)
theorem zj1637 : Cond.instanceMethod yJ4_append_cf468 ∈ zW := zW_tab (List.mem_of_getElem? (i := 1637) (by decide +kernel)) (by decide +kernel)
theorem zj1638 : Cond.selects RJ4 yJ4_append_cf468 yJ4_append_cf468 ∈ zW := zW_tab (List.mem_of_getElem? (i := 1638) (by decide +kernel)) (by decide +kernel)
theorem zmJ4_append_cf468 : zMV yJ4_append_cf468 cJ4_append_cf468 2 (some (.object "java/lang/StringBuilder")) 1 := ⟨zj1639, zj23, zj1637, zj1638, (by decide +kernel)⟩
theorem zj1734 : Cond.code yJ4_length_8abf5 cJ4_length_8abf5 1 (some .int) ∈ zW := zW_tab (List.mem_of_getElem? (i := 1734) (by decide +kernel)) (by decide +kernel)
theorem zj1732 : Cond.instanceMethod yJ4_length_8abf5 ∈ zW := zW_tab (List.mem_of_getElem? (i := 1732) (by decide +kernel)) (by decide +kernel)
theorem zj1733 : Cond.selects RJ4 yJ4_length_8abf5 yJ4_length_8abf5 ∈ zW := zW_tab (List.mem_of_getElem? (i := 1733) (by decide +kernel)) (by decide +kernel)
theorem zmJ4_length_8abf5 : zMV yJ4_length_8abf5 cJ4_length_8abf5 1 (some .int) 0 := ⟨zj1734, zj23, zj1732, zj1733, (by decide +kernel)⟩
/-- private java.lang.StringBuilder line(int); of TableaufloorModel -/
abbrev rmX12_line : Room := { frames := 3, cells := 2, slots := 20, locals := 70 }
def fX12_line_159 (sO : zSt) (sB : zSt) (x1 : Int32) : Option (zSt) :=
  ((fJ4_append_cf468 sB (61 : Int32)).bind (fun o162 =>
    (if zin x1 12 = true then
    ((fJ4_append_bf812 o162 (zga sO 4 (x1).toNatClampNeg)).bind (fun o171 =>
    some o171)) else none)))
def fX12_line_142 (sO : zSt) (sB : zSt) (x1 : Int32) : Option (zSt) :=
  (if zin x1 12 = true then
    (if (zga sO 3 (x1).toNatClampNeg) = (1 : Int32) then
    ((fJ4_append_cf468 sB (62 : Int32)).bind (fun o155 =>
      (fX12_line_159 sO o155 x1)))
  else
    (fX12_line_159 sO sB x1)) else none)
def fX12_line_126 (sO : zSt) (sB : zSt) (x1 : Int32) : Option (zSt) :=
  (if zin x1 12 = true then
    (if (zga sO 3 (x1).toNatClampNeg) = 0 then
    ((fJ4_append_cf468 sB (60 : Int32)).bind (fun o138 =>
      (fX12_line_142 sO o138 x1)))
  else
    (fX12_line_142 sO sB x1)) else none)
def fX12_line_106 (sO : zSt) (k10 : zSt → Int32 → Int32 → Option (zSt)) (sB : zSt) (x1 : Int32) (x3 : Int32) : Option (zSt) :=
  (zlet (x3 + 1) (fun v106 =>
    (k10 sB x1 v106)))
def fX12_line_96 (sO : zSt) (k10 : zSt → Int32 → Int32 → Option (zSt)) (sB : zSt) (x1 : Int32) (x3 : Int32) : Option (zSt) :=
  ((fJ4_append_cf468 sB (((((97 : Int32) + x3)).toUInt32 % 65536).toInt32)).bind (fun o102 =>
    (fX12_line_106 sO k10 o102 x1 x3)))
def fX12_line_92 (sO : zSt) (k10 : zSt → Int32 → Int32 → Option (zSt)) (sB : zSt) (x1 : Int32) (x3 : Int32) (y1 : Int32) : Option (zSt) :=
  ((fJ4_append_bf812 sB y1).bind (fun o92 =>
    (fX12_line_96 sO k10 o92 x1 x3)))
def fX12_line_78 (sO : zSt) (k10 : zSt → Int32 → Int32 → Option (zSt)) (sB : zSt) (x1 : Int32) (x3 : Int32) (x4 : Int32) : Option (zSt) :=
  (if 0 ≤ x4 then
    (fX12_line_92 sO k10 sB x1 x3 x4)
  else
    (fX12_line_92 sO k10 sB x1 x3 (-x4)))
def fX12_line_66 (sO : zSt) (k10 : zSt → Int32 → Int32 → Option (zSt)) (sB : zSt) (x1 : Int32) (x3 : Int32) (x4 : Int32) : Option (zSt) :=
  (if (1 : Int32) < x4 then
    (fX12_line_78 sO k10 sB x1 x3 x4)
  else
    (if (-1 : Int32) ≤ x4 then
      (fX12_line_96 sO k10 sB x1 x3)
    else
      (fX12_line_78 sO k10 sB x1 x3 x4)))
def fX12_line_47 (sO : zSt) (k10 : zSt → Int32 → Int32 → Option (zSt)) (sB : zSt) (x1 : Int32) (x3 : Int32) (x4 : Int32) : Option (zSt) :=
  (if x4 ≤ 0 then
    (fX12_line_66 sO k10 sB x1 x3 x4)
  else
    ((fJ4_length_8abf5 sB).bind (fun o53 =>
      (if o53 ≤ 0 then
      (fX12_line_66 sO k10 sB x1 x3 x4)
    else
      ((fJ4_append_cf468 sB (43 : Int32)).bind (fun o62 =>
        (fX12_line_66 sO k10 o62 x1 x3 x4)))))))
def fX12_line_10 (sO : zSt) : Nat → zSt → Int32 → Int32 → Option (zSt)
  | 0, _, _, _ => none
  | n + 1, sB, x1, x3 =>
    (if (3 : Int32) ≤ x3 then
      ((fJ4_length_8abf5 sB).bind (fun o113 =>
        (if o113 = 0 then
        ((fJ4_append_cf468 sB (48 : Int32)).bind (fun o122 =>
          (fX12_line_126 sO o122 x1)))
      else
        (fX12_line_126 sO sB x1))))
    else
      (if zin (((3 : Int32) * x1) + x3) 36 = true then
        (zlet (zga sO 2 ((((3 : Int32) * x1) + x3)).toNatClampNeg) (fun v25 =>
        (if v25 = 0 then
        (fX12_line_106 sO (fX12_line_10 sO n) sB x1 x3)
      else
        (if 0 ≤ v25 then
          (fX12_line_47 sO (fX12_line_10 sO n) sB x1 x3 v25)
        else
          ((fJ4_append_cf468 sB (45 : Int32)).bind (fun o43 =>
            (fX12_line_47 sO (fX12_line_10 sO n) o43 x1 x3 v25))))))) else none))
def fX12_line (sO : zSt) (sB : zSt) (x1 : Int32) : Option (zSt) :=
  (fX12_line_10 sO 6000 sB x1 (0 : Int32))
theorem bX12_line_159 {C : zCtx} (X : zFx C cX12_line 5 RX12 rmX12_line (some (.object "java/lang/StringBuilder"))) {base : Nat} (Y : zSy C base) {aO : Nat → Nat} {aB : Nat → Nat} {sO : zSt} {sB : zSt} {x1 : Int32} {out : zSt} (hQ : ∀ lv : List (Nat × Value), zG C 5 [1] 2 20 [wX12 (zcT C) aO sO, wJ4 (zcT C) aB out] 174 lv [.ref (aB 0)]) (h : fX12_line_159 sO sB x1 = some out) : zG C 5 [1] 2 20 [wX12 (zcT C) aO sO, wJ4 (zcT C) aB sB] 159 [(0, .ref (aO 0)), (1, .int x1), (2, .ref (aB 0))] [] := by
  unfold fX12_line_159 at h
  refine z_aload_n X dX12_line_159 2 rfl ?_
  refine z_bipush (v := (61 : Int32)) X dX12_line_160 rfl ?_
  obtain ⟨o162, ho162, h⟩ := zbind_of h
  refine z_sVr (st := []) (ws2 := [wX12 (zcT C) aO sO, wJ4 (zcT C) aB o162]) X Y (metfJ4_append_cf468 (zcl C) (zcD C) (zcT C) aB ho162) zmJ4_append_cf468 zw1636 dX12_line_162 1 0 0 rfl rfl rfl rfl [1] rfl rfl [1] rfl (by decide) ⟨zsJ4 , trivial⟩ rfl rfl rfl (Nat.le_of_ble_eq_true rfl) rfl rfl ⟨Nat.le_of_ble_eq_true rfl, Nat.le_of_ble_eq_true rfl⟩ ⟨Nat.le_of_ble_eq_true rfl, Nat.le_of_ble_eq_true rfl⟩ ?_
  refine z_aload_n X dX12_line_165 0 rfl ?_
  refine z_get (v := .ref (aO 5)) X 0 0 13 4 ziX12 rfl (by decide) zw1340 rfl dX12_line_166 rfl rfl rfl ?_
  refine z_iload_n X dX12_line_169 1 rfl ?_
  obtain ⟨g170, h⟩ := zgd_of h
  refine z_iald X 0 5 g170 dX12_line_170 rfl rfl ?_
  obtain ⟨o171, ho171, h⟩ := zbind_of h
  refine z_sVr (st := []) (ws2 := [wX12 (zcT C) aO sO, wJ4 (zcT C) aB o171]) X Y (metfJ4_append_bf812 (zcl C) (zcD C) (zcT C) aB ho171) zmJ4_append_bf812 zw1738 dX12_line_171 1 0 0 rfl rfl rfl rfl [1] rfl rfl [1] rfl (by decide) ⟨zsJ4 , trivial⟩ rfl rfl rfl (Nat.le_of_ble_eq_true rfl) rfl rfl ⟨Nat.le_of_ble_eq_true rfl, Nat.le_of_ble_eq_true rfl⟩ ⟨Nat.le_of_ble_eq_true rfl, Nat.le_of_ble_eq_true rfl⟩ ?_
  cases h
  exact hQ _
theorem bX12_line_142 {C : zCtx} (X : zFx C cX12_line 5 RX12 rmX12_line (some (.object "java/lang/StringBuilder"))) {base : Nat} (Y : zSy C base) {aO : Nat → Nat} {aB : Nat → Nat} {sO : zSt} {sB : zSt} {x1 : Int32} {out : zSt} (hQ : ∀ lv : List (Nat × Value), zG C 5 [1] 2 20 [wX12 (zcT C) aO sO, wJ4 (zcT C) aB out] 174 lv [.ref (aB 0)]) (h : fX12_line_142 sO sB x1 = some out) : zG C 5 [1] 2 20 [wX12 (zcT C) aO sO, wJ4 (zcT C) aB sB] 142 [(0, .ref (aO 0)), (1, .int x1), (2, .ref (aB 0))] [] := by
  unfold fX12_line_142 at h
  refine z_aload_n X dX12_line_142 0 rfl ?_
  refine z_get (v := .ref (aO 4)) X 0 0 13 3 ziX12 rfl (by decide) zw1339 rfl dX12_line_143 rfl rfl rfl ?_
  refine z_iload_n X dX12_line_146 1 rfl ?_
  obtain ⟨g147, h⟩ := zgd_of h
  refine z_iald X 0 4 g147 dX12_line_147 rfl rfl ?_
  refine z_iconst (v := (1 : Int32)) X dX12_line_148 rfl ?_
  refine z_icmp_ne (tgt := 159) X dX12_line_149 (by decide) (fun c149 => ?_) (fun c149 => ?_)
  · replace h := zif_f h c149
    exact z_at (pc2 := 159) (lv2 := [(0, .ref (aO 0)), (1, .int x1), (2, .ref (aB 0))]) (st2 := []) (ws2 := [wX12 (zcT C) aO sO, wJ4 (zcT C) aB sB]) rfl rfl rfl [0, 1, 2] rfl (bX12_line_159 X Y hQ  h)
  · replace h := zif_t h c149
    refine z_aload_n X dX12_line_152 2 rfl ?_
    refine z_bipush (v := (62 : Int32)) X dX12_line_153 rfl ?_
    obtain ⟨o155, ho155, h⟩ := zbind_of h
    refine z_sVr (st := []) (ws2 := [wX12 (zcT C) aO sO, wJ4 (zcT C) aB o155]) X Y (metfJ4_append_cf468 (zcl C) (zcD C) (zcT C) aB ho155) zmJ4_append_cf468 zw1636 dX12_line_155 1 0 0 rfl rfl rfl rfl [1] rfl rfl [1] rfl (by decide) ⟨zsJ4 , trivial⟩ rfl rfl rfl (Nat.le_of_ble_eq_true rfl) rfl rfl ⟨Nat.le_of_ble_eq_true rfl, Nat.le_of_ble_eq_true rfl⟩ ⟨Nat.le_of_ble_eq_true rfl, Nat.le_of_ble_eq_true rfl⟩ ?_
    refine z_pop X dX12_line_158 rfl ?_
    exact z_at (pc2 := 159) (lv2 := [(0, .ref (aO 0)), (1, .int x1), (2, .ref (aB 0))]) (st2 := []) (ws2 := [wX12 (zcT C) aO sO, wJ4 (zcT C) aB o155]) rfl rfl rfl [0, 1, 2] rfl (bX12_line_159 X Y hQ  h)
theorem bX12_line_126 {C : zCtx} (X : zFx C cX12_line 5 RX12 rmX12_line (some (.object "java/lang/StringBuilder"))) {base : Nat} (Y : zSy C base) {aO : Nat → Nat} {aB : Nat → Nat} {sO : zSt} {sB : zSt} {x1 : Int32} {out : zSt} (hQ : ∀ lv : List (Nat × Value), zG C 5 [1] 2 20 [wX12 (zcT C) aO sO, wJ4 (zcT C) aB out] 174 lv [.ref (aB 0)]) (h : fX12_line_126 sO sB x1 = some out) : zG C 5 [1] 2 20 [wX12 (zcT C) aO sO, wJ4 (zcT C) aB sB] 126 [(0, .ref (aO 0)), (1, .int x1), (2, .ref (aB 0))] [] := by
  unfold fX12_line_126 at h
  refine z_aload_n X dX12_line_126 0 rfl ?_
  refine z_get (v := .ref (aO 4)) X 0 0 13 3 ziX12 rfl (by decide) zw1339 rfl dX12_line_127 rfl rfl rfl ?_
  refine z_iload_n X dX12_line_130 1 rfl ?_
  obtain ⟨g131, h⟩ := zgd_of h
  refine z_iald X 0 4 g131 dX12_line_131 rfl rfl ?_
  refine z_if_ne (tgt := 142) X dX12_line_132 (by decide) (fun c132 => ?_) (fun c132 => ?_)
  · replace h := zif_f h c132
    exact z_at (pc2 := 142) (lv2 := [(0, .ref (aO 0)), (1, .int x1), (2, .ref (aB 0))]) (st2 := []) (ws2 := [wX12 (zcT C) aO sO, wJ4 (zcT C) aB sB]) rfl rfl rfl [0, 1, 2] rfl (bX12_line_142 X Y hQ  h)
  · replace h := zif_t h c132
    refine z_aload_n X dX12_line_135 2 rfl ?_
    refine z_bipush (v := (60 : Int32)) X dX12_line_136 rfl ?_
    obtain ⟨o138, ho138, h⟩ := zbind_of h
    refine z_sVr (st := []) (ws2 := [wX12 (zcT C) aO sO, wJ4 (zcT C) aB o138]) X Y (metfJ4_append_cf468 (zcl C) (zcD C) (zcT C) aB ho138) zmJ4_append_cf468 zw1636 dX12_line_138 1 0 0 rfl rfl rfl rfl [1] rfl rfl [1] rfl (by decide) ⟨zsJ4 , trivial⟩ rfl rfl rfl (Nat.le_of_ble_eq_true rfl) rfl rfl ⟨Nat.le_of_ble_eq_true rfl, Nat.le_of_ble_eq_true rfl⟩ ⟨Nat.le_of_ble_eq_true rfl, Nat.le_of_ble_eq_true rfl⟩ ?_
    refine z_pop X dX12_line_141 rfl ?_
    exact z_at (pc2 := 142) (lv2 := [(0, .ref (aO 0)), (1, .int x1), (2, .ref (aB 0))]) (st2 := []) (ws2 := [wX12 (zcT C) aO sO, wJ4 (zcT C) aB o138]) rfl rfl rfl [0, 1, 2] rfl (bX12_line_142 X Y hQ  h)
theorem bX12_line_106 {C : zCtx} (X : zFx C cX12_line 5 RX12 rmX12_line (some (.object "java/lang/StringBuilder"))) {base : Nat} (Y : zSy C base) {aO : Nat → Nat} {aB : Nat → Nat} {sO : zSt} {k10 : zSt → Int32 → Int32 → Option (zSt)} {sB : zSt} {x1 : Int32} {x3 : Int32} {out : zSt} (hQ : ∀ lv : List (Nat × Value), zG C 5 [1] 2 20 [wX12 (zcT C) aO sO, wJ4 (zcT C) aB out] 174 lv [.ref (aB 0)]) (hk10 : ∀ (sB : zSt) (x1 : Int32) (x3 : Int32), k10 sB x1 x3 = some out → zG C 5 [1] 2 20 [wX12 (zcT C) aO sO, wJ4 (zcT C) aB sB] 10 [(0, .ref (aO 0)), (1, .int x1), (2, .ref (aB 0)), (3, .int x3)] []) (h : fX12_line_106 sO k10 sB x1 x3 = some out) : zG C 5 [1] 2 20 [wX12 (zcT C) aO sO, wJ4 (zcT C) aB sB] 106 [(0, .ref (aO 0)), (1, .int x1), (2, .ref (aB 0)), (3, .int x3)] [] := by
  unfold fX12_line_106 at h
  obtain ⟨v106, ev106, h⟩ := zlet_of h
  refine z_iinc (v := v106) (lv2 := [(3, .int v106), (0, .ref (aO 0)), (1, .int x1), (2, .ref (aB 0))]) X dX12_line_106 (k := 3) rfl (by rw [ev106]; rfl) (by decide) rfl ?_
  refine z_goto (tgt := 10) X dX12_line_109 (by decide) ?_
  exact z_at (pc2 := 10) (lv2 := [(0, .ref (aO 0)), (1, .int x1), (2, .ref (aB 0)), (3, .int v106)]) (st2 := []) (ws2 := [wX12 (zcT C) aO sO, wJ4 (zcT C) aB sB]) rfl rfl rfl [1, 2, 3, 0] rfl (hk10 sB x1 v106 h)
theorem bX12_line_96 {C : zCtx} (X : zFx C cX12_line 5 RX12 rmX12_line (some (.object "java/lang/StringBuilder"))) {base : Nat} (Y : zSy C base) {aO : Nat → Nat} {aB : Nat → Nat} {sO : zSt} {k10 : zSt → Int32 → Int32 → Option (zSt)} {sB : zSt} {x1 : Int32} {x3 : Int32} {out : zSt} (hQ : ∀ lv : List (Nat × Value), zG C 5 [1] 2 20 [wX12 (zcT C) aO sO, wJ4 (zcT C) aB out] 174 lv [.ref (aB 0)]) (hk10 : ∀ (sB : zSt) (x1 : Int32) (x3 : Int32), k10 sB x1 x3 = some out → zG C 5 [1] 2 20 [wX12 (zcT C) aO sO, wJ4 (zcT C) aB sB] 10 [(0, .ref (aO 0)), (1, .int x1), (2, .ref (aB 0)), (3, .int x3)] []) (h : fX12_line_96 sO k10 sB x1 x3 = some out) : zG C 5 [1] 2 20 [wX12 (zcT C) aO sO, wJ4 (zcT C) aB sB] 96 [(0, .ref (aO 0)), (1, .int x1), (2, .ref (aB 0)), (3, .int x3)] [] := by
  unfold fX12_line_96 at h
  refine z_aload_n X dX12_line_96 2 rfl ?_
  refine z_bipush (v := (97 : Int32)) X dX12_line_97 rfl ?_
  refine z_iload_n X dX12_line_99 3 rfl ?_
  refine z_iadd X dX12_line_100 ?_
  refine z_i2c X dX12_line_101 ?_
  obtain ⟨o102, ho102, h⟩ := zbind_of h
  refine z_sVr (st := []) (ws2 := [wX12 (zcT C) aO sO, wJ4 (zcT C) aB o102]) X Y (metfJ4_append_cf468 (zcl C) (zcD C) (zcT C) aB ho102) zmJ4_append_cf468 zw1636 dX12_line_102 1 0 0 rfl rfl rfl rfl [1] rfl rfl [1] rfl (by decide) ⟨zsJ4 , trivial⟩ rfl rfl rfl (Nat.le_of_ble_eq_true rfl) rfl rfl ⟨Nat.le_of_ble_eq_true rfl, Nat.le_of_ble_eq_true rfl⟩ ⟨Nat.le_of_ble_eq_true rfl, Nat.le_of_ble_eq_true rfl⟩ ?_
  refine z_pop X dX12_line_105 rfl ?_
  exact z_at (pc2 := 106) (lv2 := [(0, .ref (aO 0)), (1, .int x1), (2, .ref (aB 0)), (3, .int x3)]) (st2 := []) (ws2 := [wX12 (zcT C) aO sO, wJ4 (zcT C) aB o102]) rfl rfl rfl [0, 1, 2, 3] rfl (bX12_line_106 X Y hQ hk10 h)
theorem bX12_line_92 {C : zCtx} (X : zFx C cX12_line 5 RX12 rmX12_line (some (.object "java/lang/StringBuilder"))) {base : Nat} (Y : zSy C base) {aO : Nat → Nat} {aB : Nat → Nat} {sO : zSt} {k10 : zSt → Int32 → Int32 → Option (zSt)} {sB : zSt} {x1 : Int32} {x3 : Int32} {y1 : Int32} {out : zSt} (hQ : ∀ lv : List (Nat × Value), zG C 5 [1] 2 20 [wX12 (zcT C) aO sO, wJ4 (zcT C) aB out] 174 lv [.ref (aB 0)]) (hk10 : ∀ (sB : zSt) (x1 : Int32) (x3 : Int32), k10 sB x1 x3 = some out → zG C 5 [1] 2 20 [wX12 (zcT C) aO sO, wJ4 (zcT C) aB sB] 10 [(0, .ref (aO 0)), (1, .int x1), (2, .ref (aB 0)), (3, .int x3)] []) (h : fX12_line_92 sO k10 sB x1 x3 y1 = some out) : zG C 5 [1] 2 20 [wX12 (zcT C) aO sO, wJ4 (zcT C) aB sB] 92 [(0, .ref (aO 0)), (1, .int x1), (2, .ref (aB 0)), (3, .int x3)] [.int y1, .ref (aB 0)] := by
  unfold fX12_line_92 at h
  obtain ⟨o92, ho92, h⟩ := zbind_of h
  refine z_sVr (st := []) (ws2 := [wX12 (zcT C) aO sO, wJ4 (zcT C) aB o92]) X Y (metfJ4_append_bf812 (zcl C) (zcD C) (zcT C) aB ho92) zmJ4_append_bf812 zw1738 dX12_line_92 1 0 0 rfl rfl rfl rfl [1] rfl rfl [1] rfl (by decide) ⟨zsJ4 , trivial⟩ rfl rfl rfl (Nat.le_of_ble_eq_true rfl) rfl rfl ⟨Nat.le_of_ble_eq_true rfl, Nat.le_of_ble_eq_true rfl⟩ ⟨Nat.le_of_ble_eq_true rfl, Nat.le_of_ble_eq_true rfl⟩ ?_
  refine z_pop X dX12_line_95 rfl ?_
  exact z_at (pc2 := 96) (lv2 := [(0, .ref (aO 0)), (1, .int x1), (2, .ref (aB 0)), (3, .int x3)]) (st2 := []) (ws2 := [wX12 (zcT C) aO sO, wJ4 (zcT C) aB o92]) rfl rfl rfl [0, 1, 2, 3] rfl (bX12_line_96 X Y hQ hk10 h)
theorem bX12_line_78 {C : zCtx} (X : zFx C cX12_line 5 RX12 rmX12_line (some (.object "java/lang/StringBuilder"))) {base : Nat} (Y : zSy C base) {aO : Nat → Nat} {aB : Nat → Nat} {sO : zSt} {k10 : zSt → Int32 → Int32 → Option (zSt)} {sB : zSt} {x1 : Int32} {x3 : Int32} {x4 : Int32} {out : zSt} (hQ : ∀ lv : List (Nat × Value), zG C 5 [1] 2 20 [wX12 (zcT C) aO sO, wJ4 (zcT C) aB out] 174 lv [.ref (aB 0)]) (hk10 : ∀ (sB : zSt) (x1 : Int32) (x3 : Int32), k10 sB x1 x3 = some out → zG C 5 [1] 2 20 [wX12 (zcT C) aO sO, wJ4 (zcT C) aB sB] 10 [(0, .ref (aO 0)), (1, .int x1), (2, .ref (aB 0)), (3, .int x3)] []) (h : fX12_line_78 sO k10 sB x1 x3 x4 = some out) : zG C 5 [1] 2 20 [wX12 (zcT C) aO sO, wJ4 (zcT C) aB sB] 78 [(0, .ref (aO 0)), (1, .int x1), (2, .ref (aB 0)), (3, .int x3), (4, .int x4)] [] := by
  unfold fX12_line_78 at h
  refine z_aload_n X dX12_line_78 2 rfl ?_
  refine z_iload X dX12_line_79 4 rfl ?_
  refine z_if_ge (tgt := 90) X dX12_line_81 (by decide) (fun c81 => ?_) (fun c81 => ?_)
  · replace h := zif_t h c81
    refine z_iload X dX12_line_90 4 rfl ?_
    exact z_at (pc2 := 92) (lv2 := [(0, .ref (aO 0)), (1, .int x1), (2, .ref (aB 0)), (3, .int x3)]) (st2 := [.int x4, .ref (aB 0)]) (ws2 := [wX12 (zcT C) aO sO, wJ4 (zcT C) aB sB]) rfl rfl rfl [0, 1, 2, 3] rfl (bX12_line_92 X Y hQ hk10 h)
  · replace h := zif_f h c81
    refine z_iload X dX12_line_84 4 rfl ?_
    refine z_ineg X dX12_line_86 ?_
    refine z_goto (tgt := 92) X dX12_line_87 (by decide) ?_
    exact z_at (pc2 := 92) (lv2 := [(0, .ref (aO 0)), (1, .int x1), (2, .ref (aB 0)), (3, .int x3)]) (st2 := [.int (-x4), .ref (aB 0)]) (ws2 := [wX12 (zcT C) aO sO, wJ4 (zcT C) aB sB]) rfl rfl rfl [0, 1, 2, 3] rfl (bX12_line_92 X Y hQ hk10 h)
theorem bX12_line_66 {C : zCtx} (X : zFx C cX12_line 5 RX12 rmX12_line (some (.object "java/lang/StringBuilder"))) {base : Nat} (Y : zSy C base) {aO : Nat → Nat} {aB : Nat → Nat} {sO : zSt} {k10 : zSt → Int32 → Int32 → Option (zSt)} {sB : zSt} {x1 : Int32} {x3 : Int32} {x4 : Int32} {out : zSt} (hQ : ∀ lv : List (Nat × Value), zG C 5 [1] 2 20 [wX12 (zcT C) aO sO, wJ4 (zcT C) aB out] 174 lv [.ref (aB 0)]) (hk10 : ∀ (sB : zSt) (x1 : Int32) (x3 : Int32), k10 sB x1 x3 = some out → zG C 5 [1] 2 20 [wX12 (zcT C) aO sO, wJ4 (zcT C) aB sB] 10 [(0, .ref (aO 0)), (1, .int x1), (2, .ref (aB 0)), (3, .int x3)] []) (h : fX12_line_66 sO k10 sB x1 x3 x4 = some out) : zG C 5 [1] 2 20 [wX12 (zcT C) aO sO, wJ4 (zcT C) aB sB] 66 [(0, .ref (aO 0)), (1, .int x1), (2, .ref (aB 0)), (3, .int x3), (4, .int x4)] [] := by
  unfold fX12_line_66 at h
  refine z_iload X dX12_line_66 4 rfl ?_
  refine z_iconst (v := (1 : Int32)) X dX12_line_68 rfl ?_
  refine z_icmp_gt (tgt := 78) X dX12_line_69 (by decide) (fun c69 => ?_) (fun c69 => ?_)
  · replace h := zif_t h c69
    exact z_at (pc2 := 78) (lv2 := [(0, .ref (aO 0)), (1, .int x1), (2, .ref (aB 0)), (3, .int x3), (4, .int x4)]) (st2 := []) (ws2 := [wX12 (zcT C) aO sO, wJ4 (zcT C) aB sB]) rfl rfl rfl [0, 1, 2, 3, 4] rfl (bX12_line_78 X Y hQ hk10 h)
  · replace h := zif_f h c69
    refine z_iload X dX12_line_72 4 rfl ?_
    refine z_iconst (v := (-1 : Int32)) X dX12_line_74 rfl ?_
    refine z_icmp_ge (tgt := 96) X dX12_line_75 (by decide) (fun c75 => ?_) (fun c75 => ?_)
    · replace h := zif_t h c75
      exact z_at (pc2 := 96) (lv2 := [(0, .ref (aO 0)), (1, .int x1), (2, .ref (aB 0)), (3, .int x3)]) (st2 := []) (ws2 := [wX12 (zcT C) aO sO, wJ4 (zcT C) aB sB]) rfl rfl rfl [0, 1, 2, 3] rfl (bX12_line_96 X Y hQ hk10 h)
    · replace h := zif_f h c75
      exact z_at (pc2 := 78) (lv2 := [(0, .ref (aO 0)), (1, .int x1), (2, .ref (aB 0)), (3, .int x3), (4, .int x4)]) (st2 := []) (ws2 := [wX12 (zcT C) aO sO, wJ4 (zcT C) aB sB]) rfl rfl rfl [0, 1, 2, 3, 4] rfl (bX12_line_78 X Y hQ hk10 h)
theorem bX12_line_47 {C : zCtx} (X : zFx C cX12_line 5 RX12 rmX12_line (some (.object "java/lang/StringBuilder"))) {base : Nat} (Y : zSy C base) {aO : Nat → Nat} {aB : Nat → Nat} {sO : zSt} {k10 : zSt → Int32 → Int32 → Option (zSt)} {sB : zSt} {x1 : Int32} {x3 : Int32} {x4 : Int32} {out : zSt} (hQ : ∀ lv : List (Nat × Value), zG C 5 [1] 2 20 [wX12 (zcT C) aO sO, wJ4 (zcT C) aB out] 174 lv [.ref (aB 0)]) (hk10 : ∀ (sB : zSt) (x1 : Int32) (x3 : Int32), k10 sB x1 x3 = some out → zG C 5 [1] 2 20 [wX12 (zcT C) aO sO, wJ4 (zcT C) aB sB] 10 [(0, .ref (aO 0)), (1, .int x1), (2, .ref (aB 0)), (3, .int x3)] []) (h : fX12_line_47 sO k10 sB x1 x3 x4 = some out) : zG C 5 [1] 2 20 [wX12 (zcT C) aO sO, wJ4 (zcT C) aB sB] 47 [(0, .ref (aO 0)), (1, .int x1), (2, .ref (aB 0)), (3, .int x3), (4, .int x4)] [] := by
  unfold fX12_line_47 at h
  refine z_iload X dX12_line_47 4 rfl ?_
  refine z_if_le (tgt := 66) X dX12_line_49 (by decide) (fun c49 => ?_) (fun c49 => ?_)
  · replace h := zif_t h c49
    exact z_at (pc2 := 66) (lv2 := [(0, .ref (aO 0)), (1, .int x1), (2, .ref (aB 0)), (3, .int x3), (4, .int x4)]) (st2 := []) (ws2 := [wX12 (zcT C) aO sO, wJ4 (zcT C) aB sB]) rfl rfl rfl [0, 1, 2, 3, 4] rfl (bX12_line_66 X Y hQ hk10 h)
  · replace h := zif_f h c49
    refine z_aload_n X dX12_line_52 2 rfl ?_
    obtain ⟨o53, ho53, h⟩ := zbind_of h
    refine z_sVi (st := []) (ws2 := [wX12 (zcT C) aO sO, wJ4 (zcT C) aB sB]) X Y (metfJ4_length_8abf5 (zcl C) (zcD C) (zcT C) aB ho53) zmJ4_length_8abf5 zw1731 dX12_line_53 1 0 0 rfl rfl rfl rfl [1] rfl rfl [] rfl (by decide) trivial rfl rfl rfl (Nat.le_of_ble_eq_true rfl) rfl rfl ⟨Nat.le_of_ble_eq_true rfl, Nat.le_of_ble_eq_true rfl⟩ ⟨Nat.le_of_ble_eq_true rfl, Nat.le_of_ble_eq_true rfl⟩ ?_
    refine z_if_le (tgt := 66) X dX12_line_56 (by decide) (fun c56 => ?_) (fun c56 => ?_)
    · replace h := zif_t h c56
      exact z_at (pc2 := 66) (lv2 := [(0, .ref (aO 0)), (1, .int x1), (2, .ref (aB 0)), (3, .int x3), (4, .int x4)]) (st2 := []) (ws2 := [wX12 (zcT C) aO sO, wJ4 (zcT C) aB sB]) rfl rfl rfl [0, 1, 2, 3, 4] rfl (bX12_line_66 X Y hQ hk10 h)
    · replace h := zif_f h c56
      refine z_aload_n X dX12_line_59 2 rfl ?_
      refine z_bipush (v := (43 : Int32)) X dX12_line_60 rfl ?_
      obtain ⟨o62, ho62, h⟩ := zbind_of h
      refine z_sVr (st := []) (ws2 := [wX12 (zcT C) aO sO, wJ4 (zcT C) aB o62]) X Y (metfJ4_append_cf468 (zcl C) (zcD C) (zcT C) aB ho62) zmJ4_append_cf468 zw1636 dX12_line_62 1 0 0 rfl rfl rfl rfl [1] rfl rfl [1] rfl (by decide) ⟨zsJ4 , trivial⟩ rfl rfl rfl (Nat.le_of_ble_eq_true rfl) rfl rfl ⟨Nat.le_of_ble_eq_true rfl, Nat.le_of_ble_eq_true rfl⟩ ⟨Nat.le_of_ble_eq_true rfl, Nat.le_of_ble_eq_true rfl⟩ ?_
      refine z_pop X dX12_line_65 rfl ?_
      exact z_at (pc2 := 66) (lv2 := [(0, .ref (aO 0)), (1, .int x1), (2, .ref (aB 0)), (3, .int x3), (4, .int x4)]) (st2 := []) (ws2 := [wX12 (zcT C) aO sO, wJ4 (zcT C) aB o62]) rfl rfl rfl [0, 1, 2, 3, 4] rfl (bX12_line_66 X Y hQ hk10 h)
theorem bX12_line_10 {C : zCtx} (X : zFx C cX12_line 5 RX12 rmX12_line (some (.object "java/lang/StringBuilder"))) {base : Nat} (Y : zSy C base) {aO : Nat → Nat} {aB : Nat → Nat} {sO : zSt} {out : zSt} (hQ : ∀ lv : List (Nat × Value), zG C 5 [1] 2 20 [wX12 (zcT C) aO sO, wJ4 (zcT C) aB out] 174 lv [.ref (aB 0)]) : ∀ (n : Nat) (sB : zSt) (x1 : Int32) (x3 : Int32), fX12_line_10 sO n sB x1 x3 = some out → zG C 5 [1] 2 20 [wX12 (zcT C) aO sO, wJ4 (zcT C) aB sB] 10 [(0, .ref (aO 0)), (1, .int x1), (2, .ref (aB 0)), (3, .int x3)] [] := by
  intro n
  induction n with
  | zero =>
    intro sB x1 x3 h
    rw [fX12_line_10] at h
    exact zno h
  | succ n ih =>
    intro sB x1 x3 h
    rw [fX12_line_10] at h
    refine z_iload_n X dX12_line_10 3 rfl ?_
    refine z_iconst (v := (3 : Int32)) X dX12_line_11 rfl ?_
    refine z_icmp_ge (tgt := 112) X dX12_line_12 (by decide) (fun c12 => ?_) (fun c12 => ?_)
    · replace h := zif_t h c12
      refine z_aload_n X dX12_line_112 2 rfl ?_
      obtain ⟨o113, ho113, h⟩ := zbind_of h
      refine z_sVi (st := []) (ws2 := [wX12 (zcT C) aO sO, wJ4 (zcT C) aB sB]) X Y (metfJ4_length_8abf5 (zcl C) (zcD C) (zcT C) aB ho113) zmJ4_length_8abf5 zw1731 dX12_line_113 1 0 0 rfl rfl rfl rfl [1] rfl rfl [] rfl (by decide) trivial rfl rfl rfl (Nat.le_of_ble_eq_true rfl) rfl rfl ⟨Nat.le_of_ble_eq_true rfl, Nat.le_of_ble_eq_true rfl⟩ ⟨Nat.le_of_ble_eq_true rfl, Nat.le_of_ble_eq_true rfl⟩ ?_
      refine z_if_ne (tgt := 126) X dX12_line_116 (by decide) (fun c116 => ?_) (fun c116 => ?_)
      · replace h := zif_f h c116
        exact z_at (pc2 := 126) (lv2 := [(0, .ref (aO 0)), (1, .int x1), (2, .ref (aB 0))]) (st2 := []) (ws2 := [wX12 (zcT C) aO sO, wJ4 (zcT C) aB sB]) rfl rfl rfl [0, 1, 2] rfl (bX12_line_126 X Y hQ  h)
      · replace h := zif_t h c116
        refine z_aload_n X dX12_line_119 2 rfl ?_
        refine z_bipush (v := (48 : Int32)) X dX12_line_120 rfl ?_
        obtain ⟨o122, ho122, h⟩ := zbind_of h
        refine z_sVr (st := []) (ws2 := [wX12 (zcT C) aO sO, wJ4 (zcT C) aB o122]) X Y (metfJ4_append_cf468 (zcl C) (zcD C) (zcT C) aB ho122) zmJ4_append_cf468 zw1636 dX12_line_122 1 0 0 rfl rfl rfl rfl [1] rfl rfl [1] rfl (by decide) ⟨zsJ4 , trivial⟩ rfl rfl rfl (Nat.le_of_ble_eq_true rfl) rfl rfl ⟨Nat.le_of_ble_eq_true rfl, Nat.le_of_ble_eq_true rfl⟩ ⟨Nat.le_of_ble_eq_true rfl, Nat.le_of_ble_eq_true rfl⟩ ?_
        refine z_pop X dX12_line_125 rfl ?_
        exact z_at (pc2 := 126) (lv2 := [(0, .ref (aO 0)), (1, .int x1), (2, .ref (aB 0))]) (st2 := []) (ws2 := [wX12 (zcT C) aO sO, wJ4 (zcT C) aB o122]) rfl rfl rfl [0, 1, 2] rfl (bX12_line_126 X Y hQ  h)
    · replace h := zif_f h c12
      refine z_aload_n X dX12_line_15 0 rfl ?_
      refine z_get (v := .ref (aO 3)) X 0 0 13 2 ziX12 rfl (by decide) zw1338 rfl dX12_line_16 rfl rfl rfl ?_
      refine z_iconst (v := (3 : Int32)) X dX12_line_19 rfl ?_
      refine z_iload_n X dX12_line_20 1 rfl ?_
      refine z_imul X dX12_line_21 ?_
      refine z_iload_n X dX12_line_22 3 rfl ?_
      refine z_iadd X dX12_line_23 ?_
      obtain ⟨g24, h⟩ := zgd_of h
      refine z_iald X 0 3 g24 dX12_line_24 rfl rfl ?_
      obtain ⟨v25, ev25, h⟩ := zlet_of h
      refine z_topi ev25 ?_
      refine z_istore (lv2 := [(4, .int v25), (0, .ref (aO 0)), (1, .int x1), (2, .ref (aB 0)), (3, .int x3)]) X dX12_line_25 (by decide) rfl ?_
      refine z_iload X dX12_line_27 0 rfl ?_
      refine z_if_ne (tgt := 35) X dX12_line_29 (by decide) (fun c29 => ?_) (fun c29 => ?_)
      · replace h := zif_f h c29
        refine z_iload X dX12_line_35 0 rfl ?_
        refine z_if_ge (tgt := 47) X dX12_line_37 (by decide) (fun c37 => ?_) (fun c37 => ?_)
        · replace h := zif_t h c37
          exact z_at (pc2 := 47) (lv2 := [(0, .ref (aO 0)), (1, .int x1), (2, .ref (aB 0)), (3, .int x3), (4, .int v25)]) (st2 := []) (ws2 := [wX12 (zcT C) aO sO, wJ4 (zcT C) aB sB]) rfl rfl rfl [1, 2, 3, 4, 0] rfl (bX12_line_47 X Y hQ ih h)
        · replace h := zif_f h c37
          refine z_aload_n X dX12_line_40 3 rfl ?_
          refine z_bipush (v := (45 : Int32)) X dX12_line_41 rfl ?_
          obtain ⟨o43, ho43, h⟩ := zbind_of h
          refine z_sVr (st := []) (ws2 := [wX12 (zcT C) aO sO, wJ4 (zcT C) aB o43]) X Y (metfJ4_append_cf468 (zcl C) (zcD C) (zcT C) aB ho43) zmJ4_append_cf468 zw1636 dX12_line_43 1 0 0 rfl rfl rfl rfl [1] rfl rfl [1] rfl (by decide) ⟨zsJ4 , trivial⟩ rfl rfl rfl (Nat.le_of_ble_eq_true rfl) rfl rfl ⟨Nat.le_of_ble_eq_true rfl, Nat.le_of_ble_eq_true rfl⟩ ⟨Nat.le_of_ble_eq_true rfl, Nat.le_of_ble_eq_true rfl⟩ ?_
          refine z_pop X dX12_line_46 rfl ?_
          exact z_at (pc2 := 47) (lv2 := [(0, .ref (aO 0)), (1, .int x1), (2, .ref (aB 0)), (3, .int x3), (4, .int v25)]) (st2 := []) (ws2 := [wX12 (zcT C) aO sO, wJ4 (zcT C) aB o43]) rfl rfl rfl [1, 2, 3, 4, 0] rfl (bX12_line_47 X Y hQ ih h)
      · replace h := zif_t h c29
        refine z_goto (tgt := 106) X dX12_line_32 (by decide) ?_
        exact z_at (pc2 := 106) (lv2 := [(0, .ref (aO 0)), (1, .int x1), (2, .ref (aB 0)), (3, .int x3)]) (st2 := []) (ws2 := [wX12 (zcT C) aO sO, wJ4 (zcT C) aB sB]) rfl rfl rfl [1, 2, 3, 4] rfl (bX12_line_106 X Y hQ ih h)
theorem bX12_line_0 {C : zCtx} (X : zFx C cX12_line 5 RX12 rmX12_line (some (.object "java/lang/StringBuilder"))) {base : Nat} (Y : zSy C base) {aO : Nat → Nat} {aB : Nat → Nat} {sO : zSt} {sB : zSt} {x1 : Int32} {out : zSt} (hQ : ∀ lv : List (Nat × Value), zG C 5 [1] 2 20 [wX12 (zcT C) aO sO, wJ4 (zcT C) aB out] 174 lv [.ref (aB 0)]) (h : fX12_line sO sB x1 = some out) : zG C 5 [1] 2 20 [wX12 (zcT C) aO sO, wJ4 (zcT C) aB sB] 8 [(0, .ref (aO 0)), (1, .int x1), (2, .ref (aB 0))] [] := by
  unfold fX12_line at h
  refine z_iconst (v := (0 : Int32)) X dX12_line_8 rfl ?_
  refine z_istore_n (lv2 := [(3, .int (0 : Int32)), (0, .ref (aO 0)), (1, .int x1), (2, .ref (aB 0))]) X dX12_line_9 rfl (by decide) rfl ?_
  exact z_at (pc2 := 10) (lv2 := [(0, .ref (aO 0)), (1, .int x1), (2, .ref (aB 0)), (3, .int (0 : Int32))]) (st2 := []) (ws2 := [wX12 (zcT C) aO sO, wJ4 (zcT C) aB sB]) rfl rfl rfl [1, 2, 3, 0] rfl (bX12_line_10 X Y hQ  6000 sB x1 (0 : Int32) h)
