/-- public int dropAims(); of TableaufloorModel -/
abbrev rmX12_dropAims : Room := { frames := 0, cells := 0, slots := 0, locals := 0 }
def fX12_dropAims (sO : zSt) : Option (Int32 × zSt) :=
  (zlet (zsi sO 9 (0 : Int32)) (fun sO2 =>
    (zlet (zgi sO2 12) (fun v9 =>
    (zlet (zsi sO2 12 (0 : Int32)) (fun sO12 =>
    some (v9, sO12)))))))
theorem bX12_dropAims_0 {C : zCtx} (X : zFx C cX12_dropAims 2 RX12 rmX12_dropAims (some .int)) {aO : Nat → Nat} {sO : zSt} {out : Int32 × zSt} (hQ : zHi C out.1 [wX12 (zcT C) aO out.2] 0 0) (h : fX12_dropAims sO = some out) : zG C 2 [0] 0 0 [wX12 (zcT C) aO sO] 0 [(0, .ref (aO 0))] [] := by
  unfold fX12_dropAims at h
  refine z_aload_n X dX12_dropAims_0 0 rfl ?_
  refine z_iconst (v := (0 : Int32)) X dX12_dropAims_1 rfl ?_
  obtain ⟨sO2, esO2, h⟩ := zlet_of h
  refine z_put (ws2 := [wX12 (zcT C) aO sO2]) X 0 0 13 9 ziX12 rfl tyX12 tyX12_ok nmX12 (by decide) zw1345 rfl rfl (ty := .int) (by decide +kernel) rfl rfl (by show 9 < 40; decide) dX12_dropAims_2 rfl rfl (by decide) (w2 := wX12 (zcT C) aO sO2) (by rw [esO2]; rfl) rfl ?_
  refine z_aload_n X dX12_dropAims_5 0 rfl ?_
  refine z_get (v := .int (zgi sO2 12)) X 0 0 13 12 ziX12 rfl (by decide) zw1348 rfl dX12_dropAims_6 rfl rfl rfl ?_
  obtain ⟨v9, ev9, h⟩ := zlet_of h
  refine z_topi ev9 ?_
  refine z_istore_n (lv2 := [(1, .int v9), (0, .ref (aO 0))]) X dX12_dropAims_9 rfl (by decide) rfl ?_
  refine z_aload_n X dX12_dropAims_10 1 rfl ?_
  refine z_iconst (v := (0 : Int32)) X dX12_dropAims_11 rfl ?_
  obtain ⟨sO12, esO12, h⟩ := zlet_of h
  refine z_put (ws2 := [wX12 (zcT C) aO sO12]) X 0 0 13 12 ziX12 rfl tyX12 tyX12_ok nmX12 (by decide) zw1348 rfl rfl (ty := .int) (by decide +kernel) rfl rfl (by show 12 < 40; decide) dX12_dropAims_12 rfl rfl (by decide) (w2 := wX12 (zcT C) aO sO12) (by rw [esO12]; rfl) rfl ?_
  refine z_iload_n X dX12_dropAims_15 0 rfl ?_
  cases h
  exact z_iret X hQ dX12_dropAims_16 rfl [0] rfl (by decide) (by decide)
theorem metX12_dropAims (l : Launch) (D : va_G) (T : Nat → ClassId) (aO : Nat → Nat) {sO : zSt} {out : Int32 × zSt} (hf : fX12_dropAims sO = some out) (sz : Nat) : Met l yX12_dropAims (zws yX12_dropAims cX12_dropAims 2 (some .int)) rmX12_dropAims (zPc D T [.ref (aO 0)] [wX12 T aO sO] sz) (zQi D out.1 [wX12 T aO out.2] (zA [wX12 T aO sO] sz)) 0 0 (zA [wX12 T aO sO] sz) :=
  zMet (D := D) (T := T) (av := [.ref (aO 0)]) (ws := fun T => [wX12 T aO sO]) (wm := fun T => [wX12 T aO sO]) (lv0 := [(0, .ref (aO 0))]) [0] (Qc := fun D T A => zQi D out.1 [wX12 T aO out.2] A) (by decide +kernel) rfl (Nat.le_of_ble_eq_true rfl) rfl (fun C X hQ => bX12_dropAims_0 X hQ hf) sz
/-- public int coefficient(int, int); of TableaufloorModel -/
abbrev rmX12_coefficient : Room := { frames := 2, cells := 0, slots := 0, locals := 43 }
def fX12_coefficient_42 (sO : zSt) (y0 : Int32) : Option (Int32 × zSt) :=
  some (y0, sO)
def fX12_coefficient_22 (sO : zSt) (x1 : Int32) (x2 : Int32) (y1 : Int32) : Option (Int32 × zSt) :=
  ((fX12_checked sO y1).bind (fun o22 =>
    (if o22.1 ≤ 0 then
    (if zin (((3 : Int32) * x1) + x2) 36 = true then
      (fX12_coefficient_42 o22.2 (zga o22.2 2 ((((3 : Int32) * x1) + x2)).toNatClampNeg)) else none)
  else
    (fX12_coefficient_42 o22.2 (0 : Int32)))))
def fX12_coefficient_21 (sO : zSt) (x1 : Int32) (x2 : Int32) : Option (Int32 × zSt) :=
  (fX12_coefficient_22 sO x1 x2 (0 : Int32))
def fX12_coefficient (sO : zSt) (x1 : Int32) (x2 : Int32) : Option (Int32 × zSt) :=
  ((fX12_isRow sO x1).bind (fun o3 =>
    (if o3 = 0 then
    (fX12_coefficient_21 sO x1 x2)
  else
    ((fX12_isVariable sO x2).bind (fun o11 =>
      (if o11 = 0 then
      (fX12_coefficient_21 sO x1 x2)
    else
      (fX12_coefficient_22 sO x1 x2 (1 : Int32))))))))
theorem bX12_coefficient_42 {C : zCtx} (X : zFx C cX12_coefficient 3 RX12 rmX12_coefficient (some .int)) {aO : Nat → Nat} {sO : zSt} {y0 : Int32} {out : Int32 × zSt} (hQ : zHi C out.1 [wX12 (zcT C) aO out.2] 0 0) (h : fX12_coefficient_42 sO y0 = some out) : zG C 3 [0] 0 0 [wX12 (zcT C) aO sO] 42 [] [.int y0] := by
  unfold fX12_coefficient_42 at h
  cases h
  exact z_iret X hQ dX12_coefficient_42 rfl [0] rfl (by decide) (by decide)
theorem bX12_coefficient_22 {C : zCtx} (X : zFx C cX12_coefficient 3 RX12 rmX12_coefficient (some .int)) {aO : Nat → Nat} {sO : zSt} {x1 : Int32} {x2 : Int32} {y1 : Int32} {out : Int32 × zSt} (hQ : zHi C out.1 [wX12 (zcT C) aO out.2] 0 0) (h : fX12_coefficient_22 sO x1 x2 y1 = some out) : zG C 3 [0] 0 0 [wX12 (zcT C) aO sO] 22 [(0, .ref (aO 0)), (1, .int x1), (2, .int x2)] [.int y1, .ref (aO 0)] := by
  unfold fX12_coefficient_22 at h
  obtain ⟨o22, ho22, h⟩ := zbind_of h
  refine z_callVi (st := []) (ws2 := [wX12 (zcT C) aO o22.2]) X (metX12_checked (zcl C) (zcD C) (zcT C) aO ho22) zmX12_checked zw1550 dX12_coefficient_22 0 0 13 rfl rfl rfl rfl [0] rfl rfl [0] rfl (by decide) ⟨zsX12 , trivial⟩ rfl rfl rfl (Nat.le_of_ble_eq_true rfl) rfl rfl ⟨Nat.le_of_ble_eq_true rfl, Nat.le_of_ble_eq_true rfl⟩ ⟨Nat.le_of_ble_eq_true rfl, Nat.le_of_ble_eq_true rfl⟩ ?_
  refine z_if_le (tgt := 32) X dX12_coefficient_25 (by decide) (fun c25 => ?_) (fun c25 => ?_)
  · replace h := zif_t h c25
    refine z_aload_n X dX12_coefficient_32 0 rfl ?_
    refine z_get (v := .ref (aO 3)) X 0 0 13 2 ziX12 rfl (by decide) zw1338 rfl dX12_coefficient_33 rfl rfl rfl ?_
    refine z_iconst (v := (3 : Int32)) X dX12_coefficient_36 rfl ?_
    refine z_iload_n X dX12_coefficient_37 1 rfl ?_
    refine z_imul X dX12_coefficient_38 ?_
    refine z_iload_n X dX12_coefficient_39 2 rfl ?_
    refine z_iadd X dX12_coefficient_40 ?_
    obtain ⟨g41, h⟩ := zgd_of h
    refine z_iald X 0 3 g41 dX12_coefficient_41 rfl rfl ?_
    exact z_at (pc2 := 42) (lv2 := []) (st2 := [.int (zga o22.2 2 ((((3 : Int32) * x1) + x2)).toNatClampNeg)]) (ws2 := [wX12 (zcT C) aO o22.2]) rfl rfl rfl [] rfl (bX12_coefficient_42 X hQ  h)
  · replace h := zif_f h c25
    refine z_iconst (v := (0 : Int32)) X dX12_coefficient_28 rfl ?_
    refine z_goto (tgt := 42) X dX12_coefficient_29 (by decide) ?_
    exact z_at (pc2 := 42) (lv2 := []) (st2 := [.int (0 : Int32)]) (ws2 := [wX12 (zcT C) aO o22.2]) rfl rfl rfl [] rfl (bX12_coefficient_42 X hQ  h)
theorem bX12_coefficient_21 {C : zCtx} (X : zFx C cX12_coefficient 3 RX12 rmX12_coefficient (some .int)) {aO : Nat → Nat} {sO : zSt} {x1 : Int32} {x2 : Int32} {out : Int32 × zSt} (hQ : zHi C out.1 [wX12 (zcT C) aO out.2] 0 0) (h : fX12_coefficient_21 sO x1 x2 = some out) : zG C 3 [0] 0 0 [wX12 (zcT C) aO sO] 21 [(0, .ref (aO 0)), (1, .int x1), (2, .int x2)] [.ref (aO 0)] := by
  unfold fX12_coefficient_21 at h
  refine z_iconst (v := (0 : Int32)) X dX12_coefficient_21 rfl ?_
  exact z_at (pc2 := 22) (lv2 := [(0, .ref (aO 0)), (1, .int x1), (2, .int x2)]) (st2 := [.int (0 : Int32), .ref (aO 0)]) (ws2 := [wX12 (zcT C) aO sO]) rfl rfl rfl [0, 1, 2] rfl (bX12_coefficient_22 X hQ  h)
theorem bX12_coefficient_0 {C : zCtx} (X : zFx C cX12_coefficient 3 RX12 rmX12_coefficient (some .int)) {aO : Nat → Nat} {sO : zSt} {x1 : Int32} {x2 : Int32} {out : Int32 × zSt} (hQ : zHi C out.1 [wX12 (zcT C) aO out.2] 0 0) (h : fX12_coefficient sO x1 x2 = some out) : zG C 3 [0] 0 0 [wX12 (zcT C) aO sO] 0 [(0, .ref (aO 0)), (1, .int x1), (2, .int x2)] [] := by
  unfold fX12_coefficient at h
  refine z_aload_n X dX12_coefficient_0 0 rfl ?_
  refine z_aload_n X dX12_coefficient_1 0 rfl ?_
  refine z_iload_n X dX12_coefficient_2 1 rfl ?_
  obtain ⟨o3, ho3, h⟩ := zbind_of h
  refine z_callVi (st := [.ref (aO 0)]) (ws2 := [wX12 (zcT C) aO sO]) X (metX12_isRow (zcl C) (zcD C) (zcT C) aO ho3) zmX12_isRow zw1578 dX12_coefficient_3 0 0 13 rfl rfl rfl rfl [0] rfl rfl [] rfl (by decide) trivial rfl rfl rfl (Nat.le_of_ble_eq_true rfl) rfl rfl ⟨Nat.le_of_ble_eq_true rfl, Nat.le_of_ble_eq_true rfl⟩ ⟨Nat.le_of_ble_eq_true rfl, Nat.le_of_ble_eq_true rfl⟩ ?_
  refine z_if_eq (tgt := 21) X dX12_coefficient_6 (by decide) (fun c6 => ?_) (fun c6 => ?_)
  · replace h := zif_t h c6
    exact z_at (pc2 := 21) (lv2 := [(0, .ref (aO 0)), (1, .int x1), (2, .int x2)]) (st2 := [.ref (aO 0)]) (ws2 := [wX12 (zcT C) aO sO]) rfl rfl rfl [0, 1, 2] rfl (bX12_coefficient_21 X hQ  h)
  · replace h := zif_f h c6
    refine z_aload_n X dX12_coefficient_9 0 rfl ?_
    refine z_iload_n X dX12_coefficient_10 2 rfl ?_
    obtain ⟨o11, ho11, h⟩ := zbind_of h
    refine z_callVi (st := [.ref (aO 0)]) (ws2 := [wX12 (zcT C) aO sO]) X (metX12_isVariable (zcl C) (zcD C) (zcT C) aO ho11) zmX12_isVariable zw1472 dX12_coefficient_11 0 0 13 rfl rfl rfl rfl [0] rfl rfl [] rfl (by decide) trivial rfl rfl rfl (Nat.le_of_ble_eq_true rfl) rfl rfl ⟨Nat.le_of_ble_eq_true rfl, Nat.le_of_ble_eq_true rfl⟩ ⟨Nat.le_of_ble_eq_true rfl, Nat.le_of_ble_eq_true rfl⟩ ?_
    refine z_if_eq (tgt := 21) X dX12_coefficient_14 (by decide) (fun c14 => ?_) (fun c14 => ?_)
    · replace h := zif_t h c14
      exact z_at (pc2 := 21) (lv2 := [(0, .ref (aO 0)), (1, .int x1), (2, .int x2)]) (st2 := [.ref (aO 0)]) (ws2 := [wX12 (zcT C) aO sO]) rfl rfl rfl [0, 1, 2] rfl (bX12_coefficient_21 X hQ  h)
    · replace h := zif_f h c14
      refine z_iconst (v := (1 : Int32)) X dX12_coefficient_17 rfl ?_
      refine z_goto (tgt := 22) X dX12_coefficient_18 (by decide) ?_
      exact z_at (pc2 := 22) (lv2 := [(0, .ref (aO 0)), (1, .int x1), (2, .int x2)]) (st2 := [.int (1 : Int32), .ref (aO 0)]) (ws2 := [wX12 (zcT C) aO sO]) rfl rfl rfl [0, 1, 2] rfl (bX12_coefficient_22 X hQ  h)
theorem metX12_coefficient (l : Launch) (D : va_G) (T : Nat → ClassId) (aO : Nat → Nat) {sO : zSt} {x1 : Int32} {x2 : Int32} {out : Int32 × zSt} (hf : fX12_coefficient sO x1 x2 = some out) (sz : Nat) : Met l yX12_coefficient (zws yX12_coefficient cX12_coefficient 3 (some .int)) rmX12_coefficient (zPc D T [.ref (aO 0), .int x1, .int x2] [wX12 T aO sO] sz) (zQi D out.1 [wX12 T aO out.2] (zA [wX12 T aO sO] sz)) 0 0 (zA [wX12 T aO sO] sz) :=
  zMet (D := D) (T := T) (av := [.ref (aO 0), .int x1, .int x2]) (ws := fun T => [wX12 T aO sO]) (wm := fun T => [wX12 T aO sO]) (lv0 := [(0, .ref (aO 0)), (1, .int x1), (2, .int x2)]) [0] (Qc := fun D T A => zQi D out.1 [wX12 T aO out.2] A) (by decide +kernel) rfl (Nat.le_of_ble_eq_true rfl) rfl (fun C X hQ => bX12_coefficient_0 X hQ hf) sz
/-- public char relation(int); of TableaufloorModel -/
abbrev rmX12_relation : Room := { frames := 2, cells := 0, slots := 0, locals := 43 }
def fX12_relation_48 (sO : zSt) (y0 : Int32) : Option (Int32 × zSt) :=
  (if znar .char y0 = true then
    some (y0, sO) else none)
def fX12_relation (sO : zSt) (x1 : Int32) : Option (Int32 × zSt) :=
  ((fX12_isRow sO x1).bind (fun o3 =>
    ((fX12_checked sO o3).bind (fun o6 =>
    (if o6.1 ≤ 0 then
    (if zin x1 12 = true then
      (if (zga o6.2 3 (x1).toNatClampNeg) = 0 then
      (fX12_relation_48 o6.2 (60 : Int32))
    else
      (if zin x1 12 = true then
        (if (zga o6.2 3 (x1).toNatClampNeg) = (1 : Int32) then
        (fX12_relation_48 o6.2 (62 : Int32))
      else
        (fX12_relation_48 o6.2 (61 : Int32))) else none)) else none)
  else
    (fX12_relation_48 o6.2 (32 : Int32)))))))
theorem bX12_relation_48 {C : zCtx} (X : zFx C cX12_relation 2 RX12 rmX12_relation (some .char)) {aO : Nat → Nat} {sO : zSt} {y0 : Int32} {out : Int32 × zSt} (hQ : zHi C out.1 [wX12 (zcT C) aO out.2] 0 0) (h : fX12_relation_48 sO y0 = some out) : zG C 2 [0] 0 0 [wX12 (zcT C) aO sO] 48 [] [.int y0] := by
  unfold fX12_relation_48 at h
  obtain ⟨g48, h⟩ := zgd_of h
  cases h
  exact z_nret X hQ g48 dX12_relation_48 rfl [0] rfl (by decide) (by decide)
theorem bX12_relation_0 {C : zCtx} (X : zFx C cX12_relation 2 RX12 rmX12_relation (some .char)) {aO : Nat → Nat} {sO : zSt} {x1 : Int32} {out : Int32 × zSt} (hQ : zHi C out.1 [wX12 (zcT C) aO out.2] 0 0) (h : fX12_relation sO x1 = some out) : zG C 2 [0] 0 0 [wX12 (zcT C) aO sO] 0 [(0, .ref (aO 0)), (1, .int x1)] [] := by
  unfold fX12_relation at h
  refine z_aload_n X dX12_relation_0 0 rfl ?_
  refine z_aload_n X dX12_relation_1 0 rfl ?_
  refine z_iload_n X dX12_relation_2 1 rfl ?_
  obtain ⟨o3, ho3, h⟩ := zbind_of h
  refine z_callVi (st := [.ref (aO 0)]) (ws2 := [wX12 (zcT C) aO sO]) X (metX12_isRow (zcl C) (zcD C) (zcT C) aO ho3) zmX12_isRow zw1578 dX12_relation_3 0 0 13 rfl rfl rfl rfl [0] rfl rfl [] rfl (by decide) trivial rfl rfl rfl (Nat.le_of_ble_eq_true rfl) rfl rfl ⟨Nat.le_of_ble_eq_true rfl, Nat.le_of_ble_eq_true rfl⟩ ⟨Nat.le_of_ble_eq_true rfl, Nat.le_of_ble_eq_true rfl⟩ ?_
  obtain ⟨o6, ho6, h⟩ := zbind_of h
  refine z_callVi (st := []) (ws2 := [wX12 (zcT C) aO o6.2]) X (metX12_checked (zcl C) (zcD C) (zcT C) aO ho6) zmX12_checked zw1550 dX12_relation_6 0 0 13 rfl rfl rfl rfl [0] rfl rfl [0] rfl (by decide) ⟨zsX12 , trivial⟩ rfl rfl rfl (Nat.le_of_ble_eq_true rfl) rfl rfl ⟨Nat.le_of_ble_eq_true rfl, Nat.le_of_ble_eq_true rfl⟩ ⟨Nat.le_of_ble_eq_true rfl, Nat.le_of_ble_eq_true rfl⟩ ?_
  refine z_if_le (tgt := 17) X dX12_relation_9 (by decide) (fun c9 => ?_) (fun c9 => ?_)
  · replace h := zif_t h c9
    refine z_aload_n X dX12_relation_17 0 rfl ?_
    refine z_get (v := .ref (aO 4)) X 0 0 13 3 ziX12 rfl (by decide) zw1339 rfl dX12_relation_18 rfl rfl rfl ?_
    refine z_iload_n X dX12_relation_21 1 rfl ?_
    obtain ⟨g22, h⟩ := zgd_of h
    refine z_iald X 0 4 g22 dX12_relation_22 rfl rfl ?_
    refine z_if_ne (tgt := 31) X dX12_relation_23 (by decide) (fun c23 => ?_) (fun c23 => ?_)
    · replace h := zif_f h c23
      refine z_aload_n X dX12_relation_31 0 rfl ?_
      refine z_get (v := .ref (aO 4)) X 0 0 13 3 ziX12 rfl (by decide) zw1339 rfl dX12_relation_32 rfl rfl rfl ?_
      refine z_iload_n X dX12_relation_35 1 rfl ?_
      obtain ⟨g36, h⟩ := zgd_of h
      refine z_iald X 0 4 g36 dX12_relation_36 rfl rfl ?_
      refine z_iconst (v := (1 : Int32)) X dX12_relation_37 rfl ?_
      refine z_icmp_ne (tgt := 46) X dX12_relation_38 (by decide) (fun c38 => ?_) (fun c38 => ?_)
      · replace h := zif_f h c38
        refine z_bipush (v := (61 : Int32)) X dX12_relation_46 rfl ?_
        exact z_at (pc2 := 48) (lv2 := []) (st2 := [.int (61 : Int32)]) (ws2 := [wX12 (zcT C) aO o6.2]) rfl rfl rfl [] rfl (bX12_relation_48 X hQ  h)
      · replace h := zif_t h c38
        refine z_bipush (v := (62 : Int32)) X dX12_relation_41 rfl ?_
        refine z_goto (tgt := 48) X dX12_relation_43 (by decide) ?_
        exact z_at (pc2 := 48) (lv2 := []) (st2 := [.int (62 : Int32)]) (ws2 := [wX12 (zcT C) aO o6.2]) rfl rfl rfl [] rfl (bX12_relation_48 X hQ  h)
    · replace h := zif_t h c23
      refine z_bipush (v := (60 : Int32)) X dX12_relation_26 rfl ?_
      refine z_goto (tgt := 48) X dX12_relation_28 (by decide) ?_
      exact z_at (pc2 := 48) (lv2 := []) (st2 := [.int (60 : Int32)]) (ws2 := [wX12 (zcT C) aO o6.2]) rfl rfl rfl [] rfl (bX12_relation_48 X hQ  h)
  · replace h := zif_f h c9
    refine z_bipush (v := (32 : Int32)) X dX12_relation_12 rfl ?_
    refine z_goto (tgt := 48) X dX12_relation_14 (by decide) ?_
    exact z_at (pc2 := 48) (lv2 := []) (st2 := [.int (32 : Int32)]) (ws2 := [wX12 (zcT C) aO o6.2]) rfl rfl rfl [] rfl (bX12_relation_48 X hQ  h)
theorem metX12_relation (l : Launch) (D : va_G) (T : Nat → ClassId) (aO : Nat → Nat) {sO : zSt} {x1 : Int32} {out : Int32 × zSt} (hf : fX12_relation sO x1 = some out) (sz : Nat) : Met l yX12_relation (zws yX12_relation cX12_relation 2 (some .char)) rmX12_relation (zPc D T [.ref (aO 0), .int x1] [wX12 T aO sO] sz) (zQi D out.1 [wX12 T aO out.2] (zA [wX12 T aO sO] sz)) 0 0 (zA [wX12 T aO sO] sz) :=
  zMet (D := D) (T := T) (av := [.ref (aO 0), .int x1]) (ws := fun T => [wX12 T aO sO]) (wm := fun T => [wX12 T aO sO]) (lv0 := [(0, .ref (aO 0)), (1, .int x1)]) [0] (Qc := fun D T A => zQi D out.1 [wX12 T aO out.2] A) (by decide +kernel) rfl (Nat.le_of_ble_eq_true rfl) rfl (fun C X hQ => bX12_relation_0 X hQ hf) sz
/-- private void addPlane(long, long, long, int, long); of TableaufloorModel -/
abbrev rmX12_addPlane : Room := { frames := 0, cells := 0, slots := 0, locals := 0 }
def fX12_addPlane (sO : zSt) (x1 : Int64) (x3 : Int64) (x5 : Int64) (x7 : Int32) (x8 : Int64) : Option (zSt) :=
  (if zin ((3 : Int32) * (zgi sO 31)) 48 = true then
    (zlet (zsb sO 19 (vp_updL (zgb sO 19) (((3 : Int32) * (zgi sO 31))).toNatClampNeg x1)) (fun sO11 =>
    (if zin (((3 : Int32) * (zgi sO11 31)) + (1 : Int32)) 48 = true then
    (zlet (zsb sO11 19 (vp_updL (zgb sO11 19) ((((3 : Int32) * (zgi sO11 31)) + (1 : Int32))).toNatClampNeg x3)) (fun sO25 =>
    (if zin (((3 : Int32) * (zgi sO25 31)) + (2 : Int32)) 48 = true then
    (zlet (zsb sO25 19 (vp_updL (zgb sO25 19) ((((3 : Int32) * (zgi sO25 31)) + (2 : Int32))).toNatClampNeg x5)) (fun sO40 =>
    (if zin (zgi sO40 31) 16 = true then
    (zlet (zsa sO40 24 (upd (zga sO40 24) ((zgi sO40 31)).toNatClampNeg x7)) (fun sO51 =>
    (if zin (zgi sO51 31) 16 = true then
    (zlet (zsb sO51 20 (vp_updL (zgb sO51 20) ((zgi sO51 31)).toNatClampNeg x8)) (fun sO62 =>
    (zlet (zsi sO62 31 ((zgi sO62 31) + (1 : Int32))) (fun sO70 =>
    some (sO70))))) else none))) else none))) else none))) else none))) else none)
theorem bX12_addPlane_0 {C : zCtx} (X : zFx C cX12_addPlane 10 RX12 rmX12_addPlane none) {aO : Nat → Nat} {sO : zSt} {x1 : Int64} {x3 : Int64} {x5 : Int64} {x7 : Int32} {x8 : Int64} {out : zSt} (hQ : zHv C [wX12 (zcT C) aO out] 0 0) (h : fX12_addPlane sO x1 x3 x5 x7 x8 = some out) : zG C 10 [0] 0 0 [wX12 (zcT C) aO sO] 0 [(0, .ref (aO 0)), (1, .long x1), (3, .long x3), (5, .long x5), (7, .int x7), (8, .long x8)] [] := by
  unfold fX12_addPlane at h
  refine z_aload_n X dX12_addPlane_0 0 rfl ?_
  refine z_get (v := .ref (aO 20)) X 0 0 13 19 ziX12 rfl (by decide) zw1355 rfl dX12_addPlane_1 rfl rfl rfl ?_
  refine z_iconst (v := (3 : Int32)) X dX12_addPlane_4 rfl ?_
  refine z_aload_n X dX12_addPlane_5 0 rfl ?_
  refine z_get (v := .int (zgi sO 31)) X 0 0 13 31 ziX12 rfl (by decide) zw1367 rfl dX12_addPlane_6 rfl rfl rfl ?_
  refine z_imul X dX12_addPlane_9 ?_
  refine z_lload_n X dX12_addPlane_10 1 rfl ?_
  obtain ⟨g11, h⟩ := zgd_of h
  obtain ⟨sO11, esO11, h⟩ := zlet_of h
  refine z_last (ws2 := [wX12 (zcT C) aO sO11]) X 0 11 g11 dX12_addPlane_11 rfl rfl (by decide) (w2 := wX12 (zcT C) aO sO11) (by rw [esO11]; rfl) rfl ?_
  refine z_aload_n X dX12_addPlane_12 0 rfl ?_
  refine z_get (v := .ref (aO 20)) X 0 0 13 19 ziX12 rfl (by decide) zw1355 rfl dX12_addPlane_13 rfl rfl rfl ?_
  refine z_iconst (v := (3 : Int32)) X dX12_addPlane_16 rfl ?_
  refine z_aload_n X dX12_addPlane_17 0 rfl ?_
  refine z_get (v := .int (zgi sO11 31)) X 0 0 13 31 ziX12 rfl (by decide) zw1367 rfl dX12_addPlane_18 rfl rfl rfl ?_
  refine z_imul X dX12_addPlane_21 ?_
  refine z_iconst (v := (1 : Int32)) X dX12_addPlane_22 rfl ?_
  refine z_iadd X dX12_addPlane_23 ?_
  refine z_lload_n X dX12_addPlane_24 2 rfl ?_
  obtain ⟨g25, h⟩ := zgd_of h
  obtain ⟨sO25, esO25, h⟩ := zlet_of h
  refine z_last (ws2 := [wX12 (zcT C) aO sO25]) X 0 11 g25 dX12_addPlane_25 rfl rfl (by decide) (w2 := wX12 (zcT C) aO sO25) (by rw [esO25]; rfl) rfl ?_
  refine z_aload_n X dX12_addPlane_26 0 rfl ?_
  refine z_get (v := .ref (aO 20)) X 0 0 13 19 ziX12 rfl (by decide) zw1355 rfl dX12_addPlane_27 rfl rfl rfl ?_
  refine z_iconst (v := (3 : Int32)) X dX12_addPlane_30 rfl ?_
  refine z_aload_n X dX12_addPlane_31 0 rfl ?_
  refine z_get (v := .int (zgi sO25 31)) X 0 0 13 31 ziX12 rfl (by decide) zw1367 rfl dX12_addPlane_32 rfl rfl rfl ?_
  refine z_imul X dX12_addPlane_35 ?_
  refine z_iconst (v := (2 : Int32)) X dX12_addPlane_36 rfl ?_
  refine z_iadd X dX12_addPlane_37 ?_
  refine z_lload X dX12_addPlane_38 3 rfl ?_
  obtain ⟨g40, h⟩ := zgd_of h
  obtain ⟨sO40, esO40, h⟩ := zlet_of h
  refine z_last (ws2 := [wX12 (zcT C) aO sO40]) X 0 11 g40 dX12_addPlane_40 rfl rfl (by decide) (w2 := wX12 (zcT C) aO sO40) (by rw [esO40]; rfl) rfl ?_
  refine z_aload_n X dX12_addPlane_41 0 rfl ?_
  refine z_get (v := .ref (aO 25)) X 0 0 13 24 ziX12 rfl (by decide) zw1360 rfl dX12_addPlane_42 rfl rfl rfl ?_
  refine z_aload_n X dX12_addPlane_45 0 rfl ?_
  refine z_get (v := .int (zgi sO40 31)) X 0 0 13 31 ziX12 rfl (by decide) zw1367 rfl dX12_addPlane_46 rfl rfl rfl ?_
  refine z_iload X dX12_addPlane_49 4 rfl ?_
  obtain ⟨g51, h⟩ := zgd_of h
  obtain ⟨sO51, esO51, h⟩ := zlet_of h
  refine z_iast (ws2 := [wX12 (zcT C) aO sO51]) X 0 16 g51 dX12_addPlane_51 rfl rfl (by decide) (w2 := wX12 (zcT C) aO sO51) (by rw [esO51]; rfl) rfl ?_
  refine z_aload_n X dX12_addPlane_52 0 rfl ?_
  refine z_get (v := .ref (aO 21)) X 0 0 13 20 ziX12 rfl (by decide) zw1356 rfl dX12_addPlane_53 rfl rfl rfl ?_
  refine z_aload_n X dX12_addPlane_56 0 rfl ?_
  refine z_get (v := .int (zgi sO51 31)) X 0 0 13 31 ziX12 rfl (by decide) zw1367 rfl dX12_addPlane_57 rfl rfl rfl ?_
  refine z_lload X dX12_addPlane_60 5 rfl ?_
  obtain ⟨g62, h⟩ := zgd_of h
  obtain ⟨sO62, esO62, h⟩ := zlet_of h
  refine z_last (ws2 := [wX12 (zcT C) aO sO62]) X 0 12 g62 dX12_addPlane_62 rfl rfl (by decide) (w2 := wX12 (zcT C) aO sO62) (by rw [esO62]; rfl) rfl ?_
  refine z_aload_n X dX12_addPlane_63 0 rfl ?_
  refine z_dup X dX12_addPlane_64 rfl ?_
  refine z_get (v := .int (zgi sO62 31)) X 0 0 13 31 ziX12 rfl (by decide) zw1367 rfl dX12_addPlane_65 rfl rfl rfl ?_
  refine z_iconst (v := (1 : Int32)) X dX12_addPlane_68 rfl ?_
  refine z_iadd X dX12_addPlane_69 ?_
  obtain ⟨sO70, esO70, h⟩ := zlet_of h
  refine z_put (ws2 := [wX12 (zcT C) aO sO70]) X 0 0 13 31 ziX12 rfl tyX12 tyX12_ok nmX12 (by decide) zw1367 rfl rfl (ty := .int) (by decide +kernel) rfl rfl (by show 31 < 40; decide) dX12_addPlane_70 rfl rfl (by decide) (w2 := wX12 (zcT C) aO sO70) (by rw [esO70]; rfl) rfl ?_
  cases h
  exact z_vret X hQ dX12_addPlane_73 [0] rfl (by decide) (by decide)
theorem metX12_addPlane (l : Launch) (D : va_G) (T : Nat → ClassId) (aO : Nat → Nat) {sO : zSt} {x1 : Int64} {x3 : Int64} {x5 : Int64} {x7 : Int32} {x8 : Int64} {out : zSt} (hf : fX12_addPlane sO x1 x3 x5 x7 x8 = some out) (sz : Nat) : Met l yX12_addPlane (zws yX12_addPlane cX12_addPlane 10 none) rmX12_addPlane (zPc D T [.ref (aO 0), .long x1, .long x3, .long x5, .int x7, .long x8] [wX12 T aO sO] sz) (zQv D [wX12 T aO out] (zA [wX12 T aO sO] sz)) 0 0 (zA [wX12 T aO sO] sz) :=
  zMet (D := D) (T := T) (av := [.ref (aO 0), .long x1, .long x3, .long x5, .int x7, .long x8]) (ws := fun T => [wX12 T aO sO]) (wm := fun T => [wX12 T aO sO]) (lv0 := [(0, .ref (aO 0)), (1, .long x1), (3, .long x3), (5, .long x5), (7, .int x7), (8, .long x8)]) [0] (Qc := fun D T A => zQv D [wX12 T aO out] A) (by decide +kernel) rfl (Nat.le_of_ble_eq_true rfl) rfl (fun C X hQ => bX12_addPlane_0 X hQ hf) sz
/-- private void addBound(int, int, long); of TableaufloorModel -/
abbrev rmX12_addBound : Room := { frames := 1, cells := 0, slots := 0, locals := 29 }
def fX12_addBound_30 (sO : zSt) (x2 : Int32) (x3 : Int64) (y1 : Int64) (y2 : Int64) (y3 : Int64) : Option (zSt) :=
  ((fX12_addPlane sO y1 y2 y3 x2 x3).bind (fun o32 =>
    some (o32)))
def fX12_addBound_20 (sO : zSt) (x1 : Int32) (x2 : Int32) (x3 : Int64) (y1 : Int64) (y2 : Int64) : Option (zSt) :=
  (if x1 = (2 : Int32) then
    (fX12_addBound_30 sO x2 x3 y1 y2 (1 : Int64))
  else
    (fX12_addBound_30 sO x2 x3 y1 y2 (0 : Int64)))
def fX12_addBound_10 (sO : zSt) (x1 : Int32) (x2 : Int32) (x3 : Int64) (y1 : Int64) : Option (zSt) :=
  (if x1 = (1 : Int32) then
    (fX12_addBound_20 sO x1 x2 x3 y1 (1 : Int64))
  else
    (fX12_addBound_20 sO x1 x2 x3 y1 (0 : Int64)))
def fX12_addBound (sO : zSt) (x1 : Int32) (x2 : Int32) (x3 : Int64) : Option (zSt) :=
  (if x1 = 0 then
    (fX12_addBound_10 sO x1 x2 x3 (1 : Int64))
  else
    (fX12_addBound_10 sO x1 x2 x3 (0 : Int64)))
theorem bX12_addBound_30 {C : zCtx} (X : zFx C cX12_addBound 5 RX12 rmX12_addBound none) {aO : Nat → Nat} {sO : zSt} {x2 : Int32} {x3 : Int64} {y1 : Int64} {y2 : Int64} {y3 : Int64} {out : zSt} (hQ : zHv C [wX12 (zcT C) aO out] 0 0) (h : fX12_addBound_30 sO x2 x3 y1 y2 y3 = some out) : zG C 5 [0] 0 0 [wX12 (zcT C) aO sO] 30 [(2, .int x2), (3, .long x3)] [.long y3, .long y2, .long y1, .ref (aO 0)] := by
  unfold fX12_addBound_30 at h
  refine z_iload_n X dX12_addBound_30 0 rfl ?_
  refine z_lload_n X dX12_addBound_31 1 rfl ?_
  obtain ⟨o32, ho32, h⟩ := zbind_of h
  refine z_callVv (st := []) (ws2 := [wX12 (zcT C) aO o32]) X (metX12_addPlane (zcl C) (zcD C) (zcT C) aO ho32) zmX12_addPlane zw1816 dX12_addBound_32 0 0 13 rfl rfl rfl rfl [0] rfl rfl [0] rfl (by decide) ⟨zsX12 , trivial⟩ rfl rfl rfl (Nat.le_of_ble_eq_true rfl) rfl rfl ⟨Nat.le_of_ble_eq_true rfl, Nat.le_of_ble_eq_true rfl⟩ ⟨Nat.le_of_ble_eq_true rfl, Nat.le_of_ble_eq_true rfl⟩ ?_
  cases h
  exact z_vret X hQ dX12_addBound_35 [0] rfl (by decide) (by decide)
theorem bX12_addBound_20 {C : zCtx} (X : zFx C cX12_addBound 5 RX12 rmX12_addBound none) {aO : Nat → Nat} {sO : zSt} {x1 : Int32} {x2 : Int32} {x3 : Int64} {y1 : Int64} {y2 : Int64} {out : zSt} (hQ : zHv C [wX12 (zcT C) aO out] 0 0) (h : fX12_addBound_20 sO x1 x2 x3 y1 y2 = some out) : zG C 5 [0] 0 0 [wX12 (zcT C) aO sO] 20 [(1, .int x1), (2, .int x2), (3, .long x3)] [.long y2, .long y1, .ref (aO 0)] := by
  unfold fX12_addBound_20 at h
  refine z_iload_n X dX12_addBound_20 0 rfl ?_
  refine z_iconst (v := (2 : Int32)) X dX12_addBound_21 rfl ?_
  refine z_icmp_ne (tgt := 29) X dX12_addBound_22 (by decide) (fun c22 => ?_) (fun c22 => ?_)
  · replace h := zif_f h c22
    refine z_lconst (v := (0 : Int64)) X dX12_addBound_29 rfl ?_
    exact z_at (pc2 := 30) (lv2 := [(2, .int x2), (3, .long x3)]) (st2 := [.long (0 : Int64), .long y2, .long y1, .ref (aO 0)]) (ws2 := [wX12 (zcT C) aO sO]) rfl rfl rfl [1, 2] rfl (bX12_addBound_30 X hQ  h)
  · replace h := zif_t h c22
    refine z_lconst (v := (1 : Int64)) X dX12_addBound_25 rfl ?_
    refine z_goto (tgt := 30) X dX12_addBound_26 (by decide) ?_
    exact z_at (pc2 := 30) (lv2 := [(2, .int x2), (3, .long x3)]) (st2 := [.long (1 : Int64), .long y2, .long y1, .ref (aO 0)]) (ws2 := [wX12 (zcT C) aO sO]) rfl rfl rfl [1, 2] rfl (bX12_addBound_30 X hQ  h)
theorem bX12_addBound_10 {C : zCtx} (X : zFx C cX12_addBound 5 RX12 rmX12_addBound none) {aO : Nat → Nat} {sO : zSt} {x1 : Int32} {x2 : Int32} {x3 : Int64} {y1 : Int64} {out : zSt} (hQ : zHv C [wX12 (zcT C) aO out] 0 0) (h : fX12_addBound_10 sO x1 x2 x3 y1 = some out) : zG C 5 [0] 0 0 [wX12 (zcT C) aO sO] 10 [(1, .int x1), (2, .int x2), (3, .long x3)] [.long y1, .ref (aO 0)] := by
  unfold fX12_addBound_10 at h
  refine z_iload_n X dX12_addBound_10 0 rfl ?_
  refine z_iconst (v := (1 : Int32)) X dX12_addBound_11 rfl ?_
  refine z_icmp_ne (tgt := 19) X dX12_addBound_12 (by decide) (fun c12 => ?_) (fun c12 => ?_)
  · replace h := zif_f h c12
    refine z_lconst (v := (0 : Int64)) X dX12_addBound_19 rfl ?_
    exact z_at (pc2 := 20) (lv2 := [(1, .int x1), (2, .int x2), (3, .long x3)]) (st2 := [.long (0 : Int64), .long y1, .ref (aO 0)]) (ws2 := [wX12 (zcT C) aO sO]) rfl rfl rfl [0, 1, 2] rfl (bX12_addBound_20 X hQ  h)
  · replace h := zif_t h c12
    refine z_lconst (v := (1 : Int64)) X dX12_addBound_15 rfl ?_
    refine z_goto (tgt := 20) X dX12_addBound_16 (by decide) ?_
    exact z_at (pc2 := 20) (lv2 := [(1, .int x1), (2, .int x2), (3, .long x3)]) (st2 := [.long (1 : Int64), .long y1, .ref (aO 0)]) (ws2 := [wX12 (zcT C) aO sO]) rfl rfl rfl [0, 1, 2] rfl (bX12_addBound_20 X hQ  h)
theorem bX12_addBound_0 {C : zCtx} (X : zFx C cX12_addBound 5 RX12 rmX12_addBound none) {aO : Nat → Nat} {sO : zSt} {x1 : Int32} {x2 : Int32} {x3 : Int64} {out : zSt} (hQ : zHv C [wX12 (zcT C) aO out] 0 0) (h : fX12_addBound sO x1 x2 x3 = some out) : zG C 5 [0] 0 0 [wX12 (zcT C) aO sO] 0 [(0, .ref (aO 0)), (1, .int x1), (2, .int x2), (3, .long x3)] [] := by
  unfold fX12_addBound at h
  refine z_aload_n X dX12_addBound_0 0 rfl ?_
  refine z_iload_n X dX12_addBound_1 1 rfl ?_
  refine z_if_ne (tgt := 9) X dX12_addBound_2 (by decide) (fun c2 => ?_) (fun c2 => ?_)
  · replace h := zif_f h c2
    refine z_lconst (v := (0 : Int64)) X dX12_addBound_9 rfl ?_
    exact z_at (pc2 := 10) (lv2 := [(1, .int x1), (2, .int x2), (3, .long x3)]) (st2 := [.long (0 : Int64), .ref (aO 0)]) (ws2 := [wX12 (zcT C) aO sO]) rfl rfl rfl [1, 2, 3] rfl (bX12_addBound_10 X hQ  h)
  · replace h := zif_t h c2
    refine z_lconst (v := (1 : Int64)) X dX12_addBound_5 rfl ?_
    refine z_goto (tgt := 10) X dX12_addBound_6 (by decide) ?_
    exact z_at (pc2 := 10) (lv2 := [(1, .int x1), (2, .int x2), (3, .long x3)]) (st2 := [.long (1 : Int64), .ref (aO 0)]) (ws2 := [wX12 (zcT C) aO sO]) rfl rfl rfl [1, 2, 3] rfl (bX12_addBound_10 X hQ  h)
theorem metX12_addBound (l : Launch) (D : va_G) (T : Nat → ClassId) (aO : Nat → Nat) {sO : zSt} {x1 : Int32} {x2 : Int32} {x3 : Int64} {out : zSt} (hf : fX12_addBound sO x1 x2 x3 = some out) (sz : Nat) : Met l yX12_addBound (zws yX12_addBound cX12_addBound 5 none) rmX12_addBound (zPc D T [.ref (aO 0), .int x1, .int x2, .long x3] [wX12 T aO sO] sz) (zQv D [wX12 T aO out] (zA [wX12 T aO sO] sz)) 0 0 (zA [wX12 T aO sO] sz) :=
  zMet (D := D) (T := T) (av := [.ref (aO 0), .int x1, .int x2, .long x3]) (ws := fun T => [wX12 T aO sO]) (wm := fun T => [wX12 T aO sO]) (lv0 := [(0, .ref (aO 0)), (1, .int x1), (2, .int x2), (3, .long x3)]) [0] (Qc := fun D T A => zQv D [wX12 T aO out] A) (by decide +kernel) rfl (Nat.le_of_ble_eq_true rfl) rfl (fun C X hQ => bX12_addBound_0 X hQ hf) sz
/-- private void laysPlanes(int, int, boolean); of TableaufloorModel -/
abbrev rmX12_laysPlanes : Room := { frames := 2, cells := 0, slots := 0, locals := 53 }
def fX12_laysPlanes_208 (k116 : zSt → Int32 → Int32 → Int32 → Int32 → Option (zSt)) (sO : zSt) (x1 : Int32) (x2 : Int32) (x3 : Int32) (x4 : Int32) : Option (zSt) :=
  (zlet (x4 + 1) (fun v208 =>
    (k116 sO x1 x2 x3 v208)))
def fX12_laysPlanes_205 (k116 : zSt → Int32 → Int32 → Int32 → Int32 → Option (zSt)) (sO : zSt) (x1 : Int32) (x2 : Int32) (x3 : Int32) (x4 : Int32) (y1 : Int64) (y2 : Int64) (y3 : Int64) (y4 : Int32) (y5 : Int64) : Option (zSt) :=
  ((fX12_addPlane sO y1 y2 y3 y4 y5).bind (fun o205 =>
    (fX12_laysPlanes_208 k116 o205 x1 x2 x3 x4)))
def fX12_laysPlanes_204 (k116 : zSt → Int32 → Int32 → Int32 → Int32 → Option (zSt)) (sO : zSt) (x1 : Int32) (x2 : Int32) (x3 : Int32) (x4 : Int32) (y1 : Int64) (y2 : Int64) (y3 : Int64) (y4 : Int32) (y5 : Int64) (y6 : Int64) : Option (zSt) :=
  (fX12_laysPlanes_205 k116 sO x1 x2 x3 x4 y1 y2 y3 y4 (y5 + y6))
def fX12_laysPlanes_116 : Nat → zSt → Int32 → Int32 → Int32 → Int32 → Option (zSt)
  | 0, _, _, _, _, _ => none
  | n + 1, sO, x1, x2, x3, x4 =>
    (if (zgi sO 11) ≤ x4 then
      some (sO)
    else
      (if ((x1 >>> (x4 &&& 31)) - (x1 >>> (x4 &&& 31)) / (2 : Int32) * (2 : Int32)) = (1 : Int32) then
        (if zin ((3 : Int32) * x4) 36 = true then
          (if zin (((3 : Int32) * x4) + (1 : Int32)) 36 = true then
          (if zin (((3 : Int32) * x4) + (2 : Int32)) 36 = true then
          (if zin x4 12 = true then
          (if x3 = 0 then
          (if zin x4 12 = true then
            (if x4 = x2 then
            (fX12_laysPlanes_204 (fX12_laysPlanes_116 n) sO x1 x2 x3 x4 (((zga sO 2 (((3 : Int32) * x4)).toNatClampNeg)).toInt64) (((zga sO 2 ((((3 : Int32) * x4) + (1 : Int32))).toNatClampNeg)).toInt64) (((zga sO 2 ((((3 : Int32) * x4) + (2 : Int32))).toNatClampNeg)).toInt64) (zga sO 3 (x4).toNatClampNeg) (((zga sO 4 (x4).toNatClampNeg)).toInt64) (1 : Int64))
          else
            (fX12_laysPlanes_204 (fX12_laysPlanes_116 n) sO x1 x2 x3 x4 (((zga sO 2 (((3 : Int32) * x4)).toNatClampNeg)).toInt64) (((zga sO 2 ((((3 : Int32) * x4) + (1 : Int32))).toNatClampNeg)).toInt64) (((zga sO 2 ((((3 : Int32) * x4) + (2 : Int32))).toNatClampNeg)).toInt64) (zga sO 3 (x4).toNatClampNeg) (((zga sO 4 (x4).toNatClampNeg)).toInt64) (0 : Int64))) else none)
        else
          (fX12_laysPlanes_205 (fX12_laysPlanes_116 n) sO x1 x2 x3 x4 (((zga sO 2 (((3 : Int32) * x4)).toNatClampNeg)).toInt64) (((zga sO 2 ((((3 : Int32) * x4) + (1 : Int32))).toNatClampNeg)).toInt64) (((zga sO 2 ((((3 : Int32) * x4) + (2 : Int32))).toNatClampNeg)).toInt64) (zga sO 3 (x4).toNatClampNeg) (0 : Int64))) else none) else none) else none) else none)
      else
        (fX12_laysPlanes_208 (fX12_laysPlanes_116 n) sO x1 x2 x3 x4)))
def fX12_laysPlanes_107 (k8 : zSt → Int32 → Int32 → Int32 → Int32 → Option (zSt)) (sO : zSt) (x1 : Int32) (x2 : Int32) (x3 : Int32) (x4 : Int32) : Option (zSt) :=
  (zlet (x4 + 1) (fun v107 =>
    (k8 sO x1 x2 x3 v107)))
def fX12_laysPlanes_104 (k8 : zSt → Int32 → Int32 → Int32 → Int32 → Option (zSt)) (sO : zSt) (x1 : Int32) (x2 : Int32) (x3 : Int32) (x4 : Int32) (y1 : Int32) (y2 : Int32) (y3 : Int64) : Option (zSt) :=
  ((fX12_addBound sO y1 y2 y3).bind (fun o104 =>
    (fX12_laysPlanes_107 k8 o104 x1 x2 x3 x4)))
def fX12_laysPlanes_64 (k8 : zSt → Int32 → Int32 → Int32 → Int32 → Option (zSt)) (sO : zSt) (x1 : Int32) (x2 : Int32) (x3 : Int32) (x4 : Int32) (x5 : Int32) (y1 : Int32) (y2 : Int32) (y3 : Int64) : Option (zSt) :=
  ((fX12_addBound sO y1 y2 y3).bind (fun o64 =>
    (if x5 = 0 then
    (fX12_laysPlanes_107 k8 o64 x1 x2 x3 x4)
  else
    (if zin x4 3 = true then
      (if (100 : Int32) ≤ (zga o64 1 (x4).toNatClampNeg) then
      (fX12_laysPlanes_107 k8 o64 x1 x2 x3 x4)
    else
      (if x3 = 0 then
        (if zin x4 3 = true then
          (fX12_laysPlanes_104 k8 o64 x1 x2 x3 x4 x4 (0 : Int32) (((zga o64 1 (x4).toNatClampNeg)).toInt64)) else none)
      else
        (fX12_laysPlanes_104 k8 o64 x1 x2 x3 x4 x4 (0 : Int32) (0 : Int64)))) else none))))
def fX12_laysPlanes_63 (k8 : zSt → Int32 → Int32 → Int32 → Int32 → Option (zSt)) (sO : zSt) (x1 : Int32) (x2 : Int32) (x3 : Int32) (x4 : Int32) (x5 : Int32) (y1 : Int32) (y2 : Int32) : Option (zSt) :=
  (fX12_laysPlanes_64 k8 sO x1 x2 x3 x4 x5 y1 y2 (0 : Int64))
def fX12_laysPlanes_43 (k8 : zSt → Int32 → Int32 → Int32 → Int32 → Option (zSt)) (sO : zSt) (x1 : Int32) (x2 : Int32) (x3 : Int32) (x4 : Int32) (x5 : Int32) (y1 : Int32) (y2 : Int32) : Option (zSt) :=
  (if x5 = 0 then
    (fX12_laysPlanes_63 k8 sO x1 x2 x3 x4 x5 y1 y2)
  else
    (if x3 = 0 then
      (if zin x4 3 = true then
        (fX12_laysPlanes_64 k8 sO x1 x2 x3 x4 x5 y1 y2 (((zga sO 0 (x4).toNatClampNeg)).toInt64)) else none)
    else
      (fX12_laysPlanes_63 k8 sO x1 x2 x3 x4 x5 y1 y2)))
def fX12_laysPlanes_28 (k8 : zSt → Int32 → Int32 → Int32 → Int32 → Option (zSt)) (sO : zSt) (x1 : Int32) (x2 : Int32) (x3 : Int32) (x4 : Int32) (y0 : Int32) : Option (zSt) :=
  (if y0 = 0 then
    (fX12_laysPlanes_43 k8 sO x1 x2 x3 x4 y0 x4 (2 : Int32))
  else
    (fX12_laysPlanes_43 k8 sO x1 x2 x3 x4 y0 x4 (1 : Int32)))
def fX12_laysPlanes_8 : Nat → zSt → Int32 → Int32 → Int32 → Int32 → Option (zSt)
  | 0, _, _, _, _, _ => none
  | n + 1, sO, x1, x2, x3, x4 =>
    (if (3 : Int32) ≤ x4 then
      (fX12_laysPlanes_116 6000 sO x1 x2 x3 (0 : Int32))
    else
      (if (zgi sO 10) ≤ x4 then
        (fX12_laysPlanes_28 (fX12_laysPlanes_8 n) sO x1 x2 x3 x4 (0 : Int32))
      else
        (fX12_laysPlanes_28 (fX12_laysPlanes_8 n) sO x1 x2 x3 x4 (1 : Int32))))
def fX12_laysPlanes (sO : zSt) (x1 : Int32) (x2 : Int32) (x3 : Int32) : Option (zSt) :=
  (zlet (zsi sO 31 (0 : Int32)) (fun sO2 =>
    (fX12_laysPlanes_8 6000 sO2 x1 x2 x3 (0 : Int32))))
theorem bX12_laysPlanes_208 {C : zCtx} (X : zFx C cX12_laysPlanes 6 RX12 rmX12_laysPlanes none) {aO : Nat → Nat} {k116 : zSt → Int32 → Int32 → Int32 → Int32 → Option (zSt)} {sO : zSt} {x1 : Int32} {x2 : Int32} {x3 : Int32} {x4 : Int32} {out : zSt} (hQ : zHv C [wX12 (zcT C) aO out] 0 0) (hk116 : ∀ (sO : zSt) (x1 : Int32) (x2 : Int32) (x3 : Int32) (x4 : Int32), k116 sO x1 x2 x3 x4 = some out → zG C 6 [0] 0 0 [wX12 (zcT C) aO sO] 116 [(0, .ref (aO 0)), (1, .int x1), (2, .int x2), (3, .int x3), (4, .int x4)] []) (h : fX12_laysPlanes_208 k116 sO x1 x2 x3 x4 = some out) : zG C 6 [0] 0 0 [wX12 (zcT C) aO sO] 208 [(0, .ref (aO 0)), (1, .int x1), (2, .int x2), (3, .int x3), (4, .int x4)] [] := by
  unfold fX12_laysPlanes_208 at h
  obtain ⟨v208, ev208, h⟩ := zlet_of h
  refine z_iinc (v := v208) (lv2 := [(4, .int v208), (0, .ref (aO 0)), (1, .int x1), (2, .int x2), (3, .int x3)]) X dX12_laysPlanes_208 (k := 4) rfl (by rw [ev208]; rfl) (by decide) rfl ?_
  refine z_goto (tgt := 116) X dX12_laysPlanes_211 (by decide) ?_
  exact z_at (pc2 := 116) (lv2 := [(0, .ref (aO 0)), (1, .int x1), (2, .int x2), (3, .int x3), (4, .int v208)]) (st2 := []) (ws2 := [wX12 (zcT C) aO sO]) rfl rfl rfl [1, 2, 3, 4, 0] rfl (hk116 sO x1 x2 x3 v208 h)
theorem bX12_laysPlanes_205 {C : zCtx} (X : zFx C cX12_laysPlanes 6 RX12 rmX12_laysPlanes none) {aO : Nat → Nat} {k116 : zSt → Int32 → Int32 → Int32 → Int32 → Option (zSt)} {sO : zSt} {x1 : Int32} {x2 : Int32} {x3 : Int32} {x4 : Int32} {y1 : Int64} {y2 : Int64} {y3 : Int64} {y4 : Int32} {y5 : Int64} {out : zSt} (hQ : zHv C [wX12 (zcT C) aO out] 0 0) (hk116 : ∀ (sO : zSt) (x1 : Int32) (x2 : Int32) (x3 : Int32) (x4 : Int32), k116 sO x1 x2 x3 x4 = some out → zG C 6 [0] 0 0 [wX12 (zcT C) aO sO] 116 [(0, .ref (aO 0)), (1, .int x1), (2, .int x2), (3, .int x3), (4, .int x4)] []) (h : fX12_laysPlanes_205 k116 sO x1 x2 x3 x4 y1 y2 y3 y4 y5 = some out) : zG C 6 [0] 0 0 [wX12 (zcT C) aO sO] 205 [(0, .ref (aO 0)), (1, .int x1), (2, .int x2), (3, .int x3), (4, .int x4)] [.long y5, .int y4, .long y3, .long y2, .long y1, .ref (aO 0)] := by
  unfold fX12_laysPlanes_205 at h
  obtain ⟨o205, ho205, h⟩ := zbind_of h
  refine z_callVv (st := []) (ws2 := [wX12 (zcT C) aO o205]) X (metX12_addPlane (zcl C) (zcD C) (zcT C) aO ho205) zmX12_addPlane zw1816 dX12_laysPlanes_205 0 0 13 rfl rfl rfl rfl [0] rfl rfl [0] rfl (by decide) ⟨zsX12 , trivial⟩ rfl rfl rfl (Nat.le_of_ble_eq_true rfl) rfl rfl ⟨Nat.le_of_ble_eq_true rfl, Nat.le_of_ble_eq_true rfl⟩ ⟨Nat.le_of_ble_eq_true rfl, Nat.le_of_ble_eq_true rfl⟩ ?_
  exact z_at (pc2 := 208) (lv2 := [(0, .ref (aO 0)), (1, .int x1), (2, .int x2), (3, .int x3), (4, .int x4)]) (st2 := []) (ws2 := [wX12 (zcT C) aO o205]) rfl rfl rfl [0, 1, 2, 3, 4] rfl (bX12_laysPlanes_208 X hQ hk116 h)
theorem bX12_laysPlanes_204 {C : zCtx} (X : zFx C cX12_laysPlanes 6 RX12 rmX12_laysPlanes none) {aO : Nat → Nat} {k116 : zSt → Int32 → Int32 → Int32 → Int32 → Option (zSt)} {sO : zSt} {x1 : Int32} {x2 : Int32} {x3 : Int32} {x4 : Int32} {y1 : Int64} {y2 : Int64} {y3 : Int64} {y4 : Int32} {y5 : Int64} {y6 : Int64} {out : zSt} (hQ : zHv C [wX12 (zcT C) aO out] 0 0) (hk116 : ∀ (sO : zSt) (x1 : Int32) (x2 : Int32) (x3 : Int32) (x4 : Int32), k116 sO x1 x2 x3 x4 = some out → zG C 6 [0] 0 0 [wX12 (zcT C) aO sO] 116 [(0, .ref (aO 0)), (1, .int x1), (2, .int x2), (3, .int x3), (4, .int x4)] []) (h : fX12_laysPlanes_204 k116 sO x1 x2 x3 x4 y1 y2 y3 y4 y5 y6 = some out) : zG C 6 [0] 0 0 [wX12 (zcT C) aO sO] 204 [(0, .ref (aO 0)), (1, .int x1), (2, .int x2), (3, .int x3), (4, .int x4)] [.long y6, .long y5, .int y4, .long y3, .long y2, .long y1, .ref (aO 0)] := by
  unfold fX12_laysPlanes_204 at h
  refine z_ladd X dX12_laysPlanes_204 ?_
  exact z_at (pc2 := 205) (lv2 := [(0, .ref (aO 0)), (1, .int x1), (2, .int x2), (3, .int x3), (4, .int x4)]) (st2 := [.long (y5 + y6), .int y4, .long y3, .long y2, .long y1, .ref (aO 0)]) (ws2 := [wX12 (zcT C) aO sO]) rfl rfl rfl [0, 1, 2, 3, 4] rfl (bX12_laysPlanes_205 X hQ hk116 h)
theorem bX12_laysPlanes_116 {C : zCtx} (X : zFx C cX12_laysPlanes 6 RX12 rmX12_laysPlanes none) {aO : Nat → Nat} {out : zSt} (hQ : zHv C [wX12 (zcT C) aO out] 0 0) : ∀ (n : Nat) (sO : zSt) (x1 : Int32) (x2 : Int32) (x3 : Int32) (x4 : Int32), fX12_laysPlanes_116 n sO x1 x2 x3 x4 = some out → zG C 6 [0] 0 0 [wX12 (zcT C) aO sO] 116 [(0, .ref (aO 0)), (1, .int x1), (2, .int x2), (3, .int x3), (4, .int x4)] [] := by
  intro n
  induction n with
  | zero =>
    intro sO x1 x2 x3 x4 h
    rw [fX12_laysPlanes_116] at h
    exact zno h
  | succ n ih =>
    intro sO x1 x2 x3 x4 h
    rw [fX12_laysPlanes_116] at h
    refine z_iload X dX12_laysPlanes_116 4 rfl ?_
    refine z_aload_n X dX12_laysPlanes_118 0 rfl ?_
    refine z_get (v := .int (zgi sO 11)) X 0 0 13 11 ziX12 rfl (by decide) zw1347 rfl dX12_laysPlanes_119 rfl rfl rfl ?_
    refine z_icmp_ge (tgt := 214) X dX12_laysPlanes_122 (by decide) (fun c122 => ?_) (fun c122 => ?_)
    · replace h := zif_t h c122
      cases h
      exact z_vret X hQ dX12_laysPlanes_214 [0] rfl (by decide) (by decide)
    · replace h := zif_f h c122
      refine z_iload_n X dX12_laysPlanes_125 1 rfl ?_
      refine z_iload X dX12_laysPlanes_126 4 rfl ?_
      refine z_ishr X dX12_laysPlanes_128 ?_
      refine z_iconst (v := (2 : Int32)) X dX12_laysPlanes_129 rfl ?_
      refine z_irem X dX12_laysPlanes_130 (by decide) ?_
      refine z_iconst (v := (1 : Int32)) X dX12_laysPlanes_131 rfl ?_
      refine z_icmp_ne (tgt := 208) X dX12_laysPlanes_132 (by decide) (fun c132 => ?_) (fun c132 => ?_)
      · replace h := zif_f h c132
        exact z_at (pc2 := 208) (lv2 := [(0, .ref (aO 0)), (1, .int x1), (2, .int x2), (3, .int x3), (4, .int x4)]) (st2 := []) (ws2 := [wX12 (zcT C) aO sO]) rfl rfl rfl [0, 1, 2, 3, 4] rfl (bX12_laysPlanes_208 X hQ ih h)
      · replace h := zif_t h c132
        refine z_aload_n X dX12_laysPlanes_135 0 rfl ?_
        refine z_aload_n X dX12_laysPlanes_136 0 rfl ?_
        refine z_get (v := .ref (aO 3)) X 0 0 13 2 ziX12 rfl (by decide) zw1338 rfl dX12_laysPlanes_137 rfl rfl rfl ?_
        refine z_iconst (v := (3 : Int32)) X dX12_laysPlanes_140 rfl ?_
        refine z_iload X dX12_laysPlanes_141 4 rfl ?_
        refine z_imul X dX12_laysPlanes_143 ?_
        obtain ⟨g144, h⟩ := zgd_of h
        refine z_iald X 0 3 g144 dX12_laysPlanes_144 rfl rfl ?_
        refine z_i2l X dX12_laysPlanes_145 ?_
        refine z_aload_n X dX12_laysPlanes_146 0 rfl ?_
        refine z_get (v := .ref (aO 3)) X 0 0 13 2 ziX12 rfl (by decide) zw1338 rfl dX12_laysPlanes_147 rfl rfl rfl ?_
        refine z_iconst (v := (3 : Int32)) X dX12_laysPlanes_150 rfl ?_
        refine z_iload X dX12_laysPlanes_151 4 rfl ?_
        refine z_imul X dX12_laysPlanes_153 ?_
        refine z_iconst (v := (1 : Int32)) X dX12_laysPlanes_154 rfl ?_
        refine z_iadd X dX12_laysPlanes_155 ?_
        obtain ⟨g156, h⟩ := zgd_of h
        refine z_iald X 0 3 g156 dX12_laysPlanes_156 rfl rfl ?_
        refine z_i2l X dX12_laysPlanes_157 ?_
        refine z_aload_n X dX12_laysPlanes_158 0 rfl ?_
        refine z_get (v := .ref (aO 3)) X 0 0 13 2 ziX12 rfl (by decide) zw1338 rfl dX12_laysPlanes_159 rfl rfl rfl ?_
        refine z_iconst (v := (3 : Int32)) X dX12_laysPlanes_162 rfl ?_
        refine z_iload X dX12_laysPlanes_163 4 rfl ?_
        refine z_imul X dX12_laysPlanes_165 ?_
        refine z_iconst (v := (2 : Int32)) X dX12_laysPlanes_166 rfl ?_
        refine z_iadd X dX12_laysPlanes_167 ?_
        obtain ⟨g168, h⟩ := zgd_of h
        refine z_iald X 0 3 g168 dX12_laysPlanes_168 rfl rfl ?_
        refine z_i2l X dX12_laysPlanes_169 ?_
        refine z_aload_n X dX12_laysPlanes_170 0 rfl ?_
        refine z_get (v := .ref (aO 4)) X 0 0 13 3 ziX12 rfl (by decide) zw1339 rfl dX12_laysPlanes_171 rfl rfl rfl ?_
        refine z_iload X dX12_laysPlanes_174 4 rfl ?_
        obtain ⟨g176, h⟩ := zgd_of h
        refine z_iald X 0 4 g176 dX12_laysPlanes_176 rfl rfl ?_
        refine z_iload_n X dX12_laysPlanes_177 3 rfl ?_
        refine z_if_eq (tgt := 185) X dX12_laysPlanes_178 (by decide) (fun c178 => ?_) (fun c178 => ?_)
        · replace h := zif_t h c178
          refine z_aload_n X dX12_laysPlanes_185 0 rfl ?_
          refine z_get (v := .ref (aO 5)) X 0 0 13 4 ziX12 rfl (by decide) zw1340 rfl dX12_laysPlanes_186 rfl rfl rfl ?_
          refine z_iload X dX12_laysPlanes_189 4 rfl ?_
          obtain ⟨g191, h⟩ := zgd_of h
          refine z_iald X 0 5 g191 dX12_laysPlanes_191 rfl rfl ?_
          refine z_i2l X dX12_laysPlanes_192 ?_
          refine z_iload X dX12_laysPlanes_193 4 rfl ?_
          refine z_iload_n X dX12_laysPlanes_195 2 rfl ?_
          refine z_icmp_ne (tgt := 203) X dX12_laysPlanes_196 (by decide) (fun c196 => ?_) (fun c196 => ?_)
          · replace h := zif_f h c196
            refine z_lconst (v := (0 : Int64)) X dX12_laysPlanes_203 rfl ?_
            exact z_at (pc2 := 204) (lv2 := [(0, .ref (aO 0)), (1, .int x1), (2, .int x2), (3, .int x3), (4, .int x4)]) (st2 := [.long (0 : Int64), .long (((zga sO 4 (x4).toNatClampNeg)).toInt64), .int (zga sO 3 (x4).toNatClampNeg), .long (((zga sO 2 ((((3 : Int32) * x4) + (2 : Int32))).toNatClampNeg)).toInt64), .long (((zga sO 2 ((((3 : Int32) * x4) + (1 : Int32))).toNatClampNeg)).toInt64), .long (((zga sO 2 (((3 : Int32) * x4)).toNatClampNeg)).toInt64), .ref (aO 0)]) (ws2 := [wX12 (zcT C) aO sO]) rfl rfl rfl [0, 1, 2, 3, 4] rfl (bX12_laysPlanes_204 X hQ ih h)
          · replace h := zif_t h c196
            refine z_lconst (v := (1 : Int64)) X dX12_laysPlanes_199 rfl ?_
            refine z_goto (tgt := 204) X dX12_laysPlanes_200 (by decide) ?_
            exact z_at (pc2 := 204) (lv2 := [(0, .ref (aO 0)), (1, .int x1), (2, .int x2), (3, .int x3), (4, .int x4)]) (st2 := [.long (1 : Int64), .long (((zga sO 4 (x4).toNatClampNeg)).toInt64), .int (zga sO 3 (x4).toNatClampNeg), .long (((zga sO 2 ((((3 : Int32) * x4) + (2 : Int32))).toNatClampNeg)).toInt64), .long (((zga sO 2 ((((3 : Int32) * x4) + (1 : Int32))).toNatClampNeg)).toInt64), .long (((zga sO 2 (((3 : Int32) * x4)).toNatClampNeg)).toInt64), .ref (aO 0)]) (ws2 := [wX12 (zcT C) aO sO]) rfl rfl rfl [0, 1, 2, 3, 4] rfl (bX12_laysPlanes_204 X hQ ih h)
        · replace h := zif_f h c178
          refine z_lconst (v := (0 : Int64)) X dX12_laysPlanes_181 rfl ?_
          refine z_goto (tgt := 205) X dX12_laysPlanes_182 (by decide) ?_
          exact z_at (pc2 := 205) (lv2 := [(0, .ref (aO 0)), (1, .int x1), (2, .int x2), (3, .int x3), (4, .int x4)]) (st2 := [.long (0 : Int64), .int (zga sO 3 (x4).toNatClampNeg), .long (((zga sO 2 ((((3 : Int32) * x4) + (2 : Int32))).toNatClampNeg)).toInt64), .long (((zga sO 2 ((((3 : Int32) * x4) + (1 : Int32))).toNatClampNeg)).toInt64), .long (((zga sO 2 (((3 : Int32) * x4)).toNatClampNeg)).toInt64), .ref (aO 0)]) (ws2 := [wX12 (zcT C) aO sO]) rfl rfl rfl [0, 1, 2, 3, 4] rfl (bX12_laysPlanes_205 X hQ ih h)
theorem bX12_laysPlanes_107 {C : zCtx} (X : zFx C cX12_laysPlanes 6 RX12 rmX12_laysPlanes none) {aO : Nat → Nat} {k8 : zSt → Int32 → Int32 → Int32 → Int32 → Option (zSt)} {sO : zSt} {x1 : Int32} {x2 : Int32} {x3 : Int32} {x4 : Int32} {out : zSt} (hQ : zHv C [wX12 (zcT C) aO out] 0 0) (hk8 : ∀ (sO : zSt) (x1 : Int32) (x2 : Int32) (x3 : Int32) (x4 : Int32), k8 sO x1 x2 x3 x4 = some out → zG C 6 [0] 0 0 [wX12 (zcT C) aO sO] 8 [(0, .ref (aO 0)), (1, .int x1), (2, .int x2), (3, .int x3), (4, .int x4)] []) (h : fX12_laysPlanes_107 k8 sO x1 x2 x3 x4 = some out) : zG C 6 [0] 0 0 [wX12 (zcT C) aO sO] 107 [(0, .ref (aO 0)), (1, .int x1), (2, .int x2), (3, .int x3), (4, .int x4)] [] := by
  unfold fX12_laysPlanes_107 at h
  obtain ⟨v107, ev107, h⟩ := zlet_of h
  refine z_iinc (v := v107) (lv2 := [(4, .int v107), (0, .ref (aO 0)), (1, .int x1), (2, .int x2), (3, .int x3)]) X dX12_laysPlanes_107 (k := 4) rfl (by rw [ev107]; rfl) (by decide) rfl ?_
  refine z_goto (tgt := 8) X dX12_laysPlanes_110 (by decide) ?_
  exact z_at (pc2 := 8) (lv2 := [(0, .ref (aO 0)), (1, .int x1), (2, .int x2), (3, .int x3), (4, .int v107)]) (st2 := []) (ws2 := [wX12 (zcT C) aO sO]) rfl rfl rfl [1, 2, 3, 4, 0] rfl (hk8 sO x1 x2 x3 v107 h)
theorem bX12_laysPlanes_104 {C : zCtx} (X : zFx C cX12_laysPlanes 6 RX12 rmX12_laysPlanes none) {aO : Nat → Nat} {k8 : zSt → Int32 → Int32 → Int32 → Int32 → Option (zSt)} {sO : zSt} {x1 : Int32} {x2 : Int32} {x3 : Int32} {x4 : Int32} {y1 : Int32} {y2 : Int32} {y3 : Int64} {out : zSt} (hQ : zHv C [wX12 (zcT C) aO out] 0 0) (hk8 : ∀ (sO : zSt) (x1 : Int32) (x2 : Int32) (x3 : Int32) (x4 : Int32), k8 sO x1 x2 x3 x4 = some out → zG C 6 [0] 0 0 [wX12 (zcT C) aO sO] 8 [(0, .ref (aO 0)), (1, .int x1), (2, .int x2), (3, .int x3), (4, .int x4)] []) (h : fX12_laysPlanes_104 k8 sO x1 x2 x3 x4 y1 y2 y3 = some out) : zG C 6 [0] 0 0 [wX12 (zcT C) aO sO] 104 [(0, .ref (aO 0)), (1, .int x1), (2, .int x2), (3, .int x3), (4, .int x4)] [.long y3, .int y2, .int y1, .ref (aO 0)] := by
  unfold fX12_laysPlanes_104 at h
  obtain ⟨o104, ho104, h⟩ := zbind_of h
  refine z_callVv (st := []) (ws2 := [wX12 (zcT C) aO o104]) X (metX12_addBound (zcl C) (zcD C) (zcT C) aO ho104) zmX12_addBound zw1812 dX12_laysPlanes_104 0 0 13 rfl rfl rfl rfl [0] rfl rfl [0] rfl (by decide) ⟨zsX12 , trivial⟩ rfl rfl rfl (Nat.le_of_ble_eq_true rfl) rfl rfl ⟨Nat.le_of_ble_eq_true rfl, Nat.le_of_ble_eq_true rfl⟩ ⟨Nat.le_of_ble_eq_true rfl, Nat.le_of_ble_eq_true rfl⟩ ?_
  exact z_at (pc2 := 107) (lv2 := [(0, .ref (aO 0)), (1, .int x1), (2, .int x2), (3, .int x3), (4, .int x4)]) (st2 := []) (ws2 := [wX12 (zcT C) aO o104]) rfl rfl rfl [0, 1, 2, 3, 4] rfl (bX12_laysPlanes_107 X hQ hk8 h)
theorem bX12_laysPlanes_64 {C : zCtx} (X : zFx C cX12_laysPlanes 6 RX12 rmX12_laysPlanes none) {aO : Nat → Nat} {k8 : zSt → Int32 → Int32 → Int32 → Int32 → Option (zSt)} {sO : zSt} {x1 : Int32} {x2 : Int32} {x3 : Int32} {x4 : Int32} {x5 : Int32} {y1 : Int32} {y2 : Int32} {y3 : Int64} {out : zSt} (hQ : zHv C [wX12 (zcT C) aO out] 0 0) (hk8 : ∀ (sO : zSt) (x1 : Int32) (x2 : Int32) (x3 : Int32) (x4 : Int32), k8 sO x1 x2 x3 x4 = some out → zG C 6 [0] 0 0 [wX12 (zcT C) aO sO] 8 [(0, .ref (aO 0)), (1, .int x1), (2, .int x2), (3, .int x3), (4, .int x4)] []) (h : fX12_laysPlanes_64 k8 sO x1 x2 x3 x4 x5 y1 y2 y3 = some out) : zG C 6 [0] 0 0 [wX12 (zcT C) aO sO] 64 [(0, .ref (aO 0)), (1, .int x1), (2, .int x2), (3, .int x3), (4, .int x4), (5, .int x5)] [.long y3, .int y2, .int y1, .ref (aO 0)] := by
  unfold fX12_laysPlanes_64 at h
  obtain ⟨o64, ho64, h⟩ := zbind_of h
  refine z_callVv (st := []) (ws2 := [wX12 (zcT C) aO o64]) X (metX12_addBound (zcl C) (zcD C) (zcT C) aO ho64) zmX12_addBound zw1812 dX12_laysPlanes_64 0 0 13 rfl rfl rfl rfl [0] rfl rfl [0] rfl (by decide) ⟨zsX12 , trivial⟩ rfl rfl rfl (Nat.le_of_ble_eq_true rfl) rfl rfl ⟨Nat.le_of_ble_eq_true rfl, Nat.le_of_ble_eq_true rfl⟩ ⟨Nat.le_of_ble_eq_true rfl, Nat.le_of_ble_eq_true rfl⟩ ?_
  refine z_iload X dX12_laysPlanes_67 5 rfl ?_
  refine z_if_eq (tgt := 107) X dX12_laysPlanes_69 (by decide) (fun c69 => ?_) (fun c69 => ?_)
  · replace h := zif_t h c69
    exact z_at (pc2 := 107) (lv2 := [(0, .ref (aO 0)), (1, .int x1), (2, .int x2), (3, .int x3), (4, .int x4)]) (st2 := []) (ws2 := [wX12 (zcT C) aO o64]) rfl rfl rfl [0, 1, 2, 3, 4] rfl (bX12_laysPlanes_107 X hQ hk8 h)
  · replace h := zif_f h c69
    refine z_aload_n X dX12_laysPlanes_72 0 rfl ?_
    refine z_get (v := .ref (aO 2)) X 0 0 13 1 ziX12 rfl (by decide) zw1337 rfl dX12_laysPlanes_73 rfl rfl rfl ?_
    refine z_iload X dX12_laysPlanes_76 4 rfl ?_
    obtain ⟨g78, h⟩ := zgd_of h
    refine z_iald X 0 2 g78 dX12_laysPlanes_78 rfl rfl ?_
    refine z_bipush (v := (100 : Int32)) X dX12_laysPlanes_79 rfl ?_
    refine z_icmp_ge (tgt := 107) X dX12_laysPlanes_81 (by decide) (fun c81 => ?_) (fun c81 => ?_)
    · replace h := zif_t h c81
      exact z_at (pc2 := 107) (lv2 := [(0, .ref (aO 0)), (1, .int x1), (2, .int x2), (3, .int x3), (4, .int x4)]) (st2 := []) (ws2 := [wX12 (zcT C) aO o64]) rfl rfl rfl [0, 1, 2, 3, 4] rfl (bX12_laysPlanes_107 X hQ hk8 h)
    · replace h := zif_f h c81
      refine z_aload_n X dX12_laysPlanes_84 0 rfl ?_
      refine z_iload X dX12_laysPlanes_85 4 rfl ?_
      refine z_iconst (v := (0 : Int32)) X dX12_laysPlanes_87 rfl ?_
      refine z_iload_n X dX12_laysPlanes_88 3 rfl ?_
      refine z_if_eq (tgt := 96) X dX12_laysPlanes_89 (by decide) (fun c89 => ?_) (fun c89 => ?_)
      · replace h := zif_t h c89
        refine z_aload_n X dX12_laysPlanes_96 0 rfl ?_
        refine z_get (v := .ref (aO 2)) X 0 0 13 1 ziX12 rfl (by decide) zw1337 rfl dX12_laysPlanes_97 rfl rfl rfl ?_
        refine z_iload X dX12_laysPlanes_100 4 rfl ?_
        obtain ⟨g102, h⟩ := zgd_of h
        refine z_iald X 0 2 g102 dX12_laysPlanes_102 rfl rfl ?_
        refine z_i2l X dX12_laysPlanes_103 ?_
        exact z_at (pc2 := 104) (lv2 := [(0, .ref (aO 0)), (1, .int x1), (2, .int x2), (3, .int x3), (4, .int x4)]) (st2 := [.long (((zga o64 1 (x4).toNatClampNeg)).toInt64), .int (0 : Int32), .int x4, .ref (aO 0)]) (ws2 := [wX12 (zcT C) aO o64]) rfl rfl rfl [0, 1, 2, 3, 4] rfl (bX12_laysPlanes_104 X hQ hk8 h)
      · replace h := zif_f h c89
        refine z_lconst (v := (0 : Int64)) X dX12_laysPlanes_92 rfl ?_
        refine z_goto (tgt := 104) X dX12_laysPlanes_93 (by decide) ?_
        exact z_at (pc2 := 104) (lv2 := [(0, .ref (aO 0)), (1, .int x1), (2, .int x2), (3, .int x3), (4, .int x4)]) (st2 := [.long (0 : Int64), .int (0 : Int32), .int x4, .ref (aO 0)]) (ws2 := [wX12 (zcT C) aO o64]) rfl rfl rfl [0, 1, 2, 3, 4] rfl (bX12_laysPlanes_104 X hQ hk8 h)
theorem bX12_laysPlanes_63 {C : zCtx} (X : zFx C cX12_laysPlanes 6 RX12 rmX12_laysPlanes none) {aO : Nat → Nat} {k8 : zSt → Int32 → Int32 → Int32 → Int32 → Option (zSt)} {sO : zSt} {x1 : Int32} {x2 : Int32} {x3 : Int32} {x4 : Int32} {x5 : Int32} {y1 : Int32} {y2 : Int32} {out : zSt} (hQ : zHv C [wX12 (zcT C) aO out] 0 0) (hk8 : ∀ (sO : zSt) (x1 : Int32) (x2 : Int32) (x3 : Int32) (x4 : Int32), k8 sO x1 x2 x3 x4 = some out → zG C 6 [0] 0 0 [wX12 (zcT C) aO sO] 8 [(0, .ref (aO 0)), (1, .int x1), (2, .int x2), (3, .int x3), (4, .int x4)] []) (h : fX12_laysPlanes_63 k8 sO x1 x2 x3 x4 x5 y1 y2 = some out) : zG C 6 [0] 0 0 [wX12 (zcT C) aO sO] 63 [(0, .ref (aO 0)), (1, .int x1), (2, .int x2), (3, .int x3), (4, .int x4), (5, .int x5)] [.int y2, .int y1, .ref (aO 0)] := by
  unfold fX12_laysPlanes_63 at h
  refine z_lconst (v := (0 : Int64)) X dX12_laysPlanes_63 rfl ?_
  exact z_at (pc2 := 64) (lv2 := [(0, .ref (aO 0)), (1, .int x1), (2, .int x2), (3, .int x3), (4, .int x4), (5, .int x5)]) (st2 := [.long (0 : Int64), .int y2, .int y1, .ref (aO 0)]) (ws2 := [wX12 (zcT C) aO sO]) rfl rfl rfl [0, 1, 2, 3, 4, 5] rfl (bX12_laysPlanes_64 X hQ hk8 h)
theorem bX12_laysPlanes_43 {C : zCtx} (X : zFx C cX12_laysPlanes 6 RX12 rmX12_laysPlanes none) {aO : Nat → Nat} {k8 : zSt → Int32 → Int32 → Int32 → Int32 → Option (zSt)} {sO : zSt} {x1 : Int32} {x2 : Int32} {x3 : Int32} {x4 : Int32} {x5 : Int32} {y1 : Int32} {y2 : Int32} {out : zSt} (hQ : zHv C [wX12 (zcT C) aO out] 0 0) (hk8 : ∀ (sO : zSt) (x1 : Int32) (x2 : Int32) (x3 : Int32) (x4 : Int32), k8 sO x1 x2 x3 x4 = some out → zG C 6 [0] 0 0 [wX12 (zcT C) aO sO] 8 [(0, .ref (aO 0)), (1, .int x1), (2, .int x2), (3, .int x3), (4, .int x4)] []) (h : fX12_laysPlanes_43 k8 sO x1 x2 x3 x4 x5 y1 y2 = some out) : zG C 6 [0] 0 0 [wX12 (zcT C) aO sO] 43 [(0, .ref (aO 0)), (1, .int x1), (2, .int x2), (3, .int x3), (4, .int x4), (5, .int x5)] [.int y2, .int y1, .ref (aO 0)] := by
  unfold fX12_laysPlanes_43 at h
  refine z_iload X dX12_laysPlanes_43 5 rfl ?_
  refine z_if_eq (tgt := 63) X dX12_laysPlanes_45 (by decide) (fun c45 => ?_) (fun c45 => ?_)
  · replace h := zif_t h c45
    exact z_at (pc2 := 63) (lv2 := [(0, .ref (aO 0)), (1, .int x1), (2, .int x2), (3, .int x3), (4, .int x4), (5, .int x5)]) (st2 := [.int y2, .int y1, .ref (aO 0)]) (ws2 := [wX12 (zcT C) aO sO]) rfl rfl rfl [0, 1, 2, 3, 4, 5] rfl (bX12_laysPlanes_63 X hQ hk8 h)
  · replace h := zif_f h c45
    refine z_iload_n X dX12_laysPlanes_48 3 rfl ?_
    refine z_if_ne (tgt := 63) X dX12_laysPlanes_49 (by decide) (fun c49 => ?_) (fun c49 => ?_)
    · replace h := zif_f h c49
      exact z_at (pc2 := 63) (lv2 := [(0, .ref (aO 0)), (1, .int x1), (2, .int x2), (3, .int x3), (4, .int x4), (5, .int x5)]) (st2 := [.int y2, .int y1, .ref (aO 0)]) (ws2 := [wX12 (zcT C) aO sO]) rfl rfl rfl [0, 1, 2, 3, 4, 5] rfl (bX12_laysPlanes_63 X hQ hk8 h)
    · replace h := zif_t h c49
      refine z_aload_n X dX12_laysPlanes_52 0 rfl ?_
      refine z_get (v := .ref (aO 1)) X 0 0 13 0 ziX12 rfl (by decide) zw1336 rfl dX12_laysPlanes_53 rfl rfl rfl ?_
      refine z_iload X dX12_laysPlanes_56 4 rfl ?_
      obtain ⟨g58, h⟩ := zgd_of h
      refine z_iald X 0 1 g58 dX12_laysPlanes_58 rfl rfl ?_
      refine z_i2l X dX12_laysPlanes_59 ?_
      refine z_goto (tgt := 64) X dX12_laysPlanes_60 (by decide) ?_
      exact z_at (pc2 := 64) (lv2 := [(0, .ref (aO 0)), (1, .int x1), (2, .int x2), (3, .int x3), (4, .int x4), (5, .int x5)]) (st2 := [.long (((zga sO 0 (x4).toNatClampNeg)).toInt64), .int y2, .int y1, .ref (aO 0)]) (ws2 := [wX12 (zcT C) aO sO]) rfl rfl rfl [0, 1, 2, 3, 4, 5] rfl (bX12_laysPlanes_64 X hQ hk8 h)
theorem bX12_laysPlanes_28 {C : zCtx} (X : zFx C cX12_laysPlanes 6 RX12 rmX12_laysPlanes none) {aO : Nat → Nat} {k8 : zSt → Int32 → Int32 → Int32 → Int32 → Option (zSt)} {sO : zSt} {x1 : Int32} {x2 : Int32} {x3 : Int32} {x4 : Int32} {y0 : Int32} {out : zSt} (hQ : zHv C [wX12 (zcT C) aO out] 0 0) (hk8 : ∀ (sO : zSt) (x1 : Int32) (x2 : Int32) (x3 : Int32) (x4 : Int32), k8 sO x1 x2 x3 x4 = some out → zG C 6 [0] 0 0 [wX12 (zcT C) aO sO] 8 [(0, .ref (aO 0)), (1, .int x1), (2, .int x2), (3, .int x3), (4, .int x4)] []) (h : fX12_laysPlanes_28 k8 sO x1 x2 x3 x4 y0 = some out) : zG C 6 [0] 0 0 [wX12 (zcT C) aO sO] 28 [(0, .ref (aO 0)), (1, .int x1), (2, .int x2), (3, .int x3), (4, .int x4)] [.int y0] := by
  unfold fX12_laysPlanes_28 at h
  refine z_istore (lv2 := [(5, .int y0), (0, .ref (aO 0)), (1, .int x1), (2, .int x2), (3, .int x3), (4, .int x4)]) X dX12_laysPlanes_28 (by decide) rfl ?_
  refine z_aload_n X dX12_laysPlanes_30 1 rfl ?_
  refine z_iload X dX12_laysPlanes_31 5 rfl ?_
  refine z_iload X dX12_laysPlanes_33 0 rfl ?_
  refine z_if_eq (tgt := 42) X dX12_laysPlanes_35 (by decide) (fun c35 => ?_) (fun c35 => ?_)
  · replace h := zif_t h c35
    refine z_iconst (v := (2 : Int32)) X dX12_laysPlanes_42 rfl ?_
    exact z_at (pc2 := 43) (lv2 := [(0, .ref (aO 0)), (1, .int x1), (2, .int x2), (3, .int x3), (4, .int x4), (5, .int y0)]) (st2 := [.int (2 : Int32), .int x4, .ref (aO 0)]) (ws2 := [wX12 (zcT C) aO sO]) rfl rfl rfl [1, 2, 3, 4, 5, 0] rfl (bX12_laysPlanes_43 X hQ hk8 h)
  · replace h := zif_f h c35
    refine z_iconst (v := (1 : Int32)) X dX12_laysPlanes_38 rfl ?_
    refine z_goto (tgt := 43) X dX12_laysPlanes_39 (by decide) ?_
    exact z_at (pc2 := 43) (lv2 := [(0, .ref (aO 0)), (1, .int x1), (2, .int x2), (3, .int x3), (4, .int x4), (5, .int y0)]) (st2 := [.int (1 : Int32), .int x4, .ref (aO 0)]) (ws2 := [wX12 (zcT C) aO sO]) rfl rfl rfl [1, 2, 3, 4, 5, 0] rfl (bX12_laysPlanes_43 X hQ hk8 h)
theorem bX12_laysPlanes_8 {C : zCtx} (X : zFx C cX12_laysPlanes 6 RX12 rmX12_laysPlanes none) {aO : Nat → Nat} {out : zSt} (hQ : zHv C [wX12 (zcT C) aO out] 0 0) : ∀ (n : Nat) (sO : zSt) (x1 : Int32) (x2 : Int32) (x3 : Int32) (x4 : Int32), fX12_laysPlanes_8 n sO x1 x2 x3 x4 = some out → zG C 6 [0] 0 0 [wX12 (zcT C) aO sO] 8 [(0, .ref (aO 0)), (1, .int x1), (2, .int x2), (3, .int x3), (4, .int x4)] [] := by
  intro n
  induction n with
  | zero =>
    intro sO x1 x2 x3 x4 h
    rw [fX12_laysPlanes_8] at h
    exact zno h
  | succ n ih =>
    intro sO x1 x2 x3 x4 h
    rw [fX12_laysPlanes_8] at h
    refine z_iload X dX12_laysPlanes_8 4 rfl ?_
    refine z_iconst (v := (3 : Int32)) X dX12_laysPlanes_10 rfl ?_
    refine z_icmp_ge (tgt := 113) X dX12_laysPlanes_11 (by decide) (fun c11 => ?_) (fun c11 => ?_)
    · replace h := zif_t h c11
      refine z_iconst (v := (0 : Int32)) X dX12_laysPlanes_113 rfl ?_
      refine z_istore (lv2 := [(4, .int (0 : Int32)), (0, .ref (aO 0)), (1, .int x1), (2, .int x2), (3, .int x3)]) X dX12_laysPlanes_114 (by decide) rfl ?_
      exact z_at (pc2 := 116) (lv2 := [(0, .ref (aO 0)), (1, .int x1), (2, .int x2), (3, .int x3), (4, .int (0 : Int32))]) (st2 := []) (ws2 := [wX12 (zcT C) aO sO]) rfl rfl rfl [1, 2, 3, 4, 0] rfl (bX12_laysPlanes_116 X hQ  6000 sO x1 x2 x3 (0 : Int32) h)
    · replace h := zif_f h c11
      refine z_iload X dX12_laysPlanes_14 4 rfl ?_
      refine z_aload_n X dX12_laysPlanes_16 0 rfl ?_
      refine z_get (v := .int (zgi sO 10)) X 0 0 13 10 ziX12 rfl (by decide) zw1346 rfl dX12_laysPlanes_17 rfl rfl rfl ?_
      refine z_icmp_ge (tgt := 27) X dX12_laysPlanes_20 (by decide) (fun c20 => ?_) (fun c20 => ?_)
      · replace h := zif_t h c20
        refine z_iconst (v := (0 : Int32)) X dX12_laysPlanes_27 rfl ?_
        exact z_at (pc2 := 28) (lv2 := [(0, .ref (aO 0)), (1, .int x1), (2, .int x2), (3, .int x3), (4, .int x4)]) (st2 := [.int (0 : Int32)]) (ws2 := [wX12 (zcT C) aO sO]) rfl rfl rfl [0, 1, 2, 3, 4] rfl (bX12_laysPlanes_28 X hQ ih h)
      · replace h := zif_f h c20
        refine z_iconst (v := (1 : Int32)) X dX12_laysPlanes_23 rfl ?_
        refine z_goto (tgt := 28) X dX12_laysPlanes_24 (by decide) ?_
        exact z_at (pc2 := 28) (lv2 := [(0, .ref (aO 0)), (1, .int x1), (2, .int x2), (3, .int x3), (4, .int x4)]) (st2 := [.int (1 : Int32)]) (ws2 := [wX12 (zcT C) aO sO]) rfl rfl rfl [0, 1, 2, 3, 4] rfl (bX12_laysPlanes_28 X hQ ih h)
theorem bX12_laysPlanes_0 {C : zCtx} (X : zFx C cX12_laysPlanes 6 RX12 rmX12_laysPlanes none) {aO : Nat → Nat} {sO : zSt} {x1 : Int32} {x2 : Int32} {x3 : Int32} {out : zSt} (hQ : zHv C [wX12 (zcT C) aO out] 0 0) (h : fX12_laysPlanes sO x1 x2 x3 = some out) : zG C 6 [0] 0 0 [wX12 (zcT C) aO sO] 0 [(0, .ref (aO 0)), (1, .int x1), (2, .int x2), (3, .int x3)] [] := by
  unfold fX12_laysPlanes at h
  refine z_aload_n X dX12_laysPlanes_0 0 rfl ?_
  refine z_iconst (v := (0 : Int32)) X dX12_laysPlanes_1 rfl ?_
  obtain ⟨sO2, esO2, h⟩ := zlet_of h
  refine z_put (ws2 := [wX12 (zcT C) aO sO2]) X 0 0 13 31 ziX12 rfl tyX12 tyX12_ok nmX12 (by decide) zw1367 rfl rfl (ty := .int) (by decide +kernel) rfl rfl (by show 31 < 40; decide) dX12_laysPlanes_2 rfl rfl (by decide) (w2 := wX12 (zcT C) aO sO2) (by rw [esO2]; rfl) rfl ?_
  refine z_iconst (v := (0 : Int32)) X dX12_laysPlanes_5 rfl ?_
  refine z_istore (lv2 := [(4, .int (0 : Int32)), (0, .ref (aO 0)), (1, .int x1), (2, .int x2), (3, .int x3)]) X dX12_laysPlanes_6 (by decide) rfl ?_
  exact z_at (pc2 := 8) (lv2 := [(0, .ref (aO 0)), (1, .int x1), (2, .int x2), (3, .int x3), (4, .int (0 : Int32))]) (st2 := []) (ws2 := [wX12 (zcT C) aO sO2]) rfl rfl rfl [1, 2, 3, 4, 0] rfl (bX12_laysPlanes_8 X hQ  6000 sO2 x1 x2 x3 (0 : Int32) h)
theorem metX12_laysPlanes (l : Launch) (D : va_G) (T : Nat → ClassId) (aO : Nat → Nat) {sO : zSt} {x1 : Int32} {x2 : Int32} {x3 : Int32} {out : zSt} (hf : fX12_laysPlanes sO x1 x2 x3 = some out) (sz : Nat) : Met l yX12_laysPlanes (zws yX12_laysPlanes cX12_laysPlanes 6 none) rmX12_laysPlanes (zPc D T [.ref (aO 0), .int x1, .int x2, .int x3] [wX12 T aO sO] sz) (zQv D [wX12 T aO out] (zA [wX12 T aO sO] sz)) 0 0 (zA [wX12 T aO sO] sz) :=
  zMet (D := D) (T := T) (av := [.ref (aO 0), .int x1, .int x2, .int x3]) (ws := fun T => [wX12 T aO sO]) (wm := fun T => [wX12 T aO sO]) (lv0 := [(0, .ref (aO 0)), (1, .int x1), (2, .int x2), (3, .int x3)]) [0] (Qc := fun D T A => zQv D [wX12 T aO out] A) (by decide +kernel) rfl (Nat.le_of_ble_eq_true rfl) rfl (fun C X hQ => bX12_laysPlanes_0 X hQ hf) sz
