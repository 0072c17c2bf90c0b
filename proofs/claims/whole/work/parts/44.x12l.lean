/-- public int brokenBy(int); of TableaufloorModel -/
abbrev rmX12_brokenBy : Room := { frames := 7, cells := 0, slots := 0, locals := 168 }
def fX12_brokenBy_65 (sO : zSt) (y0 : Int32) : Option (Int32 × zSt) :=
  some (y0, sO)
def fX12_brokenBy_46 (sO : zSt) (x1 : Int32) (y1 : Int32) : Option (Int32 × zSt) :=
  (zlet (zsi sO 9 y1) (fun sO46 =>
    (if (zgi sO46 9) ≤ 0 then
    ((fX12_breaks sO46 x1).bind (fun o62 =>
      (fX12_brokenBy_65 sO46 o62)))
  else
    (fX12_brokenBy_65 sO46 (0 : Int32)))))
def fX12_brokenBy (sO : zSt) (x1 : Int32) : Option (Int32 × zSt) :=
  ((fX12_in x1 (0 : Int32) (3 : Int32)).bind (fun o4 =>
    (if o4 = 0 then
    (fX12_brokenBy_46 sO x1 (1 : Int32))
  else
    ((fX12_how sO x1).bind (fun o16 =>
      (if o16.1 = (120 : Int32) then
      (if zin x1 4 = true then
        (if (zga o16.2 39 (x1).toNatClampNeg) = (zgi o16.2 10) then
        (fX12_brokenBy_46 o16.2 x1 (0 : Int32))
      else
        (fX12_brokenBy_46 o16.2 x1 (3 : Int32))) else none)
    else
      (fX12_brokenBy_46 o16.2 x1 (2 : Int32))))))))
theorem bX12_brokenBy_65 {C : zCtx} (X : zFx C cX12_brokenBy 2 RX12 rmX12_brokenBy (some .int)) {aO : Nat → Nat} {sO : zSt} {y0 : Int32} {out : Int32 × zSt} (hQ : zHi C out.1 [wX12 (zcT C) aO out.2] 0 0) (h : fX12_brokenBy_65 sO y0 = some out) : zG C 2 [0] 0 0 [wX12 (zcT C) aO sO] 65 [] [.int y0] := by
  unfold fX12_brokenBy_65 at h
  cases h
  exact z_iret X hQ dX12_brokenBy_65 rfl [0] rfl (by decide) (by decide)
theorem bX12_brokenBy_46 {C : zCtx} (X : zFx C cX12_brokenBy 2 RX12 rmX12_brokenBy (some .int)) {aO : Nat → Nat} {sO : zSt} {x1 : Int32} {y1 : Int32} {out : Int32 × zSt} (hQ : zHi C out.1 [wX12 (zcT C) aO out.2] 0 0) (h : fX12_brokenBy_46 sO x1 y1 = some out) : zG C 2 [0] 0 0 [wX12 (zcT C) aO sO] 46 [(0, .ref (aO 0)), (1, .int x1)] [.int y1, .ref (aO 0)] := by
  unfold fX12_brokenBy_46 at h
  obtain ⟨sO46, esO46, h⟩ := zlet_of h
  refine z_put (ws2 := [wX12 (zcT C) aO sO46]) X 0 0 13 9 ziX12 rfl tyX12 tyX12_ok nmX12 (by decide) zw1345 rfl rfl (ty := .int) (by decide +kernel) rfl rfl (by show 9 < 40; decide) dX12_brokenBy_46 rfl rfl (by decide) (w2 := wX12 (zcT C) aO sO46) (by rw [esO46]; rfl) rfl ?_
  refine z_aload_n X dX12_brokenBy_49 0 rfl ?_
  refine z_get (v := .int (zgi sO46 9)) X 0 0 13 9 ziX12 rfl (by decide) zw1345 rfl dX12_brokenBy_50 rfl rfl rfl ?_
  refine z_if_le (tgt := 60) X dX12_brokenBy_53 (by decide) (fun c53 => ?_) (fun c53 => ?_)
  · replace h := zif_t h c53
    refine z_aload_n X dX12_brokenBy_60 0 rfl ?_
    refine z_iload_n X dX12_brokenBy_61 1 rfl ?_
    obtain ⟨o62, ho62, h⟩ := zbind_of h
    refine z_callVi (st := []) (ws2 := [wX12 (zcT C) aO sO46]) X (metX12_breaks (zcl C) (zcD C) (zcT C) aO ho62) zmX12_breaks zw1968 dX12_brokenBy_62 0 0 13 rfl rfl rfl rfl [0] rfl rfl [] rfl (by decide) trivial rfl rfl rfl (Nat.le_of_ble_eq_true rfl) rfl rfl ⟨Nat.le_of_ble_eq_true rfl, Nat.le_of_ble_eq_true rfl⟩ ⟨Nat.le_of_ble_eq_true rfl, Nat.le_of_ble_eq_true rfl⟩ ?_
    exact z_at (pc2 := 65) (lv2 := []) (st2 := [.int o62]) (ws2 := [wX12 (zcT C) aO sO46]) rfl rfl rfl [] rfl (bX12_brokenBy_65 X hQ  h)
  · replace h := zif_f h c53
    refine z_iconst (v := (0 : Int32)) X dX12_brokenBy_56 rfl ?_
    refine z_goto (tgt := 65) X dX12_brokenBy_57 (by decide) ?_
    exact z_at (pc2 := 65) (lv2 := []) (st2 := [.int (0 : Int32)]) (ws2 := [wX12 (zcT C) aO sO46]) rfl rfl rfl [] rfl (bX12_brokenBy_65 X hQ  h)
theorem bX12_brokenBy_0 {C : zCtx} (X : zFx C cX12_brokenBy 2 RX12 rmX12_brokenBy (some .int)) {aO : Nat → Nat} {sO : zSt} {x1 : Int32} {out : Int32 × zSt} (hQ : zHi C out.1 [wX12 (zcT C) aO out.2] 0 0) (h : fX12_brokenBy sO x1 = some out) : zG C 2 [0] 0 0 [wX12 (zcT C) aO sO] 0 [(0, .ref (aO 0)), (1, .int x1)] [] := by
  unfold fX12_brokenBy at h
  refine z_aload_n X dX12_brokenBy_0 0 rfl ?_
  refine z_iload_n X dX12_brokenBy_1 1 rfl ?_
  refine z_iconst (v := (0 : Int32)) X dX12_brokenBy_2 rfl ?_
  refine z_iconst (v := (3 : Int32)) X dX12_brokenBy_3 rfl ?_
  obtain ⟨o4, ho4, h⟩ := zbind_of h
  refine z_callSi (st := [.ref (aO 0)]) (ws2 := [wX12 (zcT C) aO sO]) X (metX12_in (zcl C) (zcD C) (zcT C)  ho4) zmX12_in zw1465 dX12_brokenBy_4 [] rfl rfl [] rfl (by decide) trivial rfl rfl rfl (Nat.le_of_ble_eq_true rfl) rfl rfl ⟨Nat.le_of_ble_eq_true rfl, Nat.le_of_ble_eq_true rfl⟩ ⟨Nat.le_of_ble_eq_true rfl, Nat.le_of_ble_eq_true rfl⟩ ?_
  refine z_if_ne (tgt := 14) X dX12_brokenBy_7 (by decide) (fun c7 => ?_) (fun c7 => ?_)
  · replace h := zif_f h c7
    refine z_aload_n X dX12_brokenBy_14 0 rfl ?_
    refine z_iload_n X dX12_brokenBy_15 1 rfl ?_
    obtain ⟨o16, ho16, h⟩ := zbind_of h
    refine z_callVi (st := [.ref (aO 0)]) (ws2 := [wX12 (zcT C) aO o16.2]) X (metX12_how (zcl C) (zcD C) (zcT C) aO ho16) zmX12_how zw1964 dX12_brokenBy_16 0 0 13 rfl rfl rfl rfl [0] rfl rfl [0] rfl (by decide) ⟨zsX12 , trivial⟩ rfl rfl rfl (Nat.le_of_ble_eq_true rfl) rfl rfl ⟨Nat.le_of_ble_eq_true rfl, Nat.le_of_ble_eq_true rfl⟩ ⟨Nat.le_of_ble_eq_true rfl, Nat.le_of_ble_eq_true rfl⟩ ?_
    refine z_bipush (v := (120 : Int32)) X dX12_brokenBy_19 rfl ?_
    refine z_icmp_eq (tgt := 28) X dX12_brokenBy_21 (by decide) (fun c21 => ?_) (fun c21 => ?_)
    · replace h := zif_t h c21
      refine z_aload_n X dX12_brokenBy_28 0 rfl ?_
      refine z_get (v := .ref (aO 40)) X 0 0 13 39 ziX12 rfl (by decide) zw1375 rfl dX12_brokenBy_29 rfl rfl rfl ?_
      refine z_iload_n X dX12_brokenBy_32 1 rfl ?_
      obtain ⟨g33, h⟩ := zgd_of h
      refine z_iald X 0 25 g33 dX12_brokenBy_33 rfl rfl ?_
      refine z_aload_n X dX12_brokenBy_34 0 rfl ?_
      refine z_get (v := .int (zgi o16.2 10)) X 0 0 13 10 ziX12 rfl (by decide) zw1346 rfl dX12_brokenBy_35 rfl rfl rfl ?_
      refine z_icmp_eq (tgt := 45) X dX12_brokenBy_38 (by decide) (fun c38 => ?_) (fun c38 => ?_)
      · replace h := zif_t h c38
        refine z_iconst (v := (0 : Int32)) X dX12_brokenBy_45 rfl ?_
        exact z_at (pc2 := 46) (lv2 := [(0, .ref (aO 0)), (1, .int x1)]) (st2 := [.int (0 : Int32), .ref (aO 0)]) (ws2 := [wX12 (zcT C) aO o16.2]) rfl rfl rfl [0, 1] rfl (bX12_brokenBy_46 X hQ  h)
      · replace h := zif_f h c38
        refine z_iconst (v := (3 : Int32)) X dX12_brokenBy_41 rfl ?_
        refine z_goto (tgt := 46) X dX12_brokenBy_42 (by decide) ?_
        exact z_at (pc2 := 46) (lv2 := [(0, .ref (aO 0)), (1, .int x1)]) (st2 := [.int (3 : Int32), .ref (aO 0)]) (ws2 := [wX12 (zcT C) aO o16.2]) rfl rfl rfl [0, 1] rfl (bX12_brokenBy_46 X hQ  h)
    · replace h := zif_f h c21
      refine z_iconst (v := (2 : Int32)) X dX12_brokenBy_24 rfl ?_
      refine z_goto (tgt := 46) X dX12_brokenBy_25 (by decide) ?_
      exact z_at (pc2 := 46) (lv2 := [(0, .ref (aO 0)), (1, .int x1)]) (st2 := [.int (2 : Int32), .ref (aO 0)]) (ws2 := [wX12 (zcT C) aO o16.2]) rfl rfl rfl [0, 1] rfl (bX12_brokenBy_46 X hQ  h)
  · replace h := zif_t h c7
    refine z_iconst (v := (1 : Int32)) X dX12_brokenBy_10 rfl ?_
    refine z_goto (tgt := 46) X dX12_brokenBy_11 (by decide) ?_
    exact z_at (pc2 := 46) (lv2 := [(0, .ref (aO 0)), (1, .int x1)]) (st2 := [.int (1 : Int32), .ref (aO 0)]) (ws2 := [wX12 (zcT C) aO sO]) rfl rfl rfl [0, 1] rfl (bX12_brokenBy_46 X hQ  h)
theorem metX12_brokenBy (l : Launch) (D : va_G) (T : Nat → ClassId) (aO : Nat → Nat) {sO : zSt} {x1 : Int32} {out : Int32 × zSt} (hf : fX12_brokenBy sO x1 = some out) (sz : Nat) : Met l yX12_brokenBy (zws yX12_brokenBy cX12_brokenBy 2 (some .int)) rmX12_brokenBy (zPc D T [.ref (aO 0), .int x1] [wX12 T aO sO] sz) (zQi D out.1 [wX12 T aO out.2] (zA [wX12 T aO sO] sz)) 0 0 (zA [wX12 T aO sO] sz) :=
  zMet (D := D) (T := T) (av := [.ref (aO 0), .int x1]) (ws := fun T => [wX12 T aO sO]) (wm := fun T => [wX12 T aO sO]) (lv0 := [(0, .ref (aO 0)), (1, .int x1)]) [0] (Qc := fun D T A => zQi D out.1 [wX12 T aO out.2] A) (by decide +kernel) rfl (Nat.le_of_ble_eq_true rfl) rfl (fun C X hQ => bX12_brokenBy_0 X hQ hf) sz
/-- public float tightShare(); of TableaufloorModel -/
abbrev rmX12_tightShare : Room := { frames := 6, cells := 0, slots := 0, locals := 147 }
def fX12_tightShare_47 (sO : zSt) (y0 : UInt32) : Option (UInt32 × zSt) :=
  some (y0, sO)
def fX12_tightShare_26 (sO : zSt) (y1 : Int32) : Option (UInt32 × zSt) :=
  ((fX12_checked sO y1).bind (fun o26 =>
    (if o26.1 ≤ 0 then
    ((fX12_tightRows o26.2).bind (fun o37 =>
      ((fX12_leftRows o26.2).bind (fun o42 =>
      (if zfn (FP.fdiv (FP.i2f o37) (FP.i2f o42)) = true then
      (fX12_tightShare_47 o26.2 (FP.fdiv (FP.i2f o37) (FP.i2f o42))) else none)))))
  else
    (fX12_tightShare_47 o26.2 (0 : UInt32)))))
def fX12_tightShare_25 (sO : zSt) : Option (UInt32 × zSt) :=
  (fX12_tightShare_26 sO (0 : Int32))
def fX12_tightShare (sO : zSt) : Option (UInt32 × zSt) :=
  ((fX12_looksNow sO).bind (fun o1 =>
    (if (zgi o1 36) = (111 : Int32) then
    ((fX12_leftRows o1).bind (fun o15 =>
      (if o15 ≤ 0 then
      (fX12_tightShare_25 o1)
    else
      (fX12_tightShare_26 o1 (1 : Int32)))))
  else
    (fX12_tightShare_25 o1))))
theorem bX12_tightShare_47 {C : zCtx} (X : zFx C cX12_tightShare 1 RX12 rmX12_tightShare (some .float)) {aO : Nat → Nat} {sO : zSt} {y0 : UInt32} {out : UInt32 × zSt} (hQ : zHf C out.1 [wX12 (zcT C) aO out.2] 0 0) (h : fX12_tightShare_47 sO y0 = some out) : zG C 1 [0] 0 0 [wX12 (zcT C) aO sO] 47 [] [.float y0] := by
  unfold fX12_tightShare_47 at h
  cases h
  exact z_fret X hQ dX12_tightShare_47 rfl [0] rfl (by decide) (by decide)
theorem bX12_tightShare_26 {C : zCtx} (X : zFx C cX12_tightShare 1 RX12 rmX12_tightShare (some .float)) {aO : Nat → Nat} {sO : zSt} {y1 : Int32} {out : UInt32 × zSt} (hQ : zHf C out.1 [wX12 (zcT C) aO out.2] 0 0) (h : fX12_tightShare_26 sO y1 = some out) : zG C 1 [0] 0 0 [wX12 (zcT C) aO sO] 26 [(0, .ref (aO 0))] [.int y1, .ref (aO 0)] := by
  unfold fX12_tightShare_26 at h
  obtain ⟨o26, ho26, h⟩ := zbind_of h
  refine z_callVi (st := []) (ws2 := [wX12 (zcT C) aO o26.2]) X (metX12_checked (zcl C) (zcD C) (zcT C) aO ho26) zmX12_checked zw1550 dX12_tightShare_26 0 0 13 rfl rfl rfl rfl [0] rfl rfl [0] rfl (by decide) ⟨zsX12 , trivial⟩ rfl rfl rfl (Nat.le_of_ble_eq_true rfl) rfl rfl ⟨Nat.le_of_ble_eq_true rfl, Nat.le_of_ble_eq_true rfl⟩ ⟨Nat.le_of_ble_eq_true rfl, Nat.le_of_ble_eq_true rfl⟩ ?_
  refine z_if_le (tgt := 36) X dX12_tightShare_29 (by decide) (fun c29 => ?_) (fun c29 => ?_)
  · replace h := zif_t h c29
    refine z_aload_n X dX12_tightShare_36 0 rfl ?_
    obtain ⟨o37, ho37, h⟩ := zbind_of h
    refine z_callVi (st := []) (ws2 := [wX12 (zcT C) aO o26.2]) X (metX12_tightRows (zcl C) (zcD C) (zcT C) aO ho37) zmX12_tightRows zw1912 dX12_tightShare_37 0 0 13 rfl rfl rfl rfl [0] rfl rfl [] rfl (by decide) trivial rfl rfl rfl (Nat.le_of_ble_eq_true rfl) rfl rfl ⟨Nat.le_of_ble_eq_true rfl, Nat.le_of_ble_eq_true rfl⟩ ⟨Nat.le_of_ble_eq_true rfl, Nat.le_of_ble_eq_true rfl⟩ ?_
    refine z_i2f X dX12_tightShare_40 ?_
    refine z_aload_n X dX12_tightShare_41 0 rfl ?_
    obtain ⟨o42, ho42, h⟩ := zbind_of h
    refine z_callVi (st := [.float (FP.i2f o37)]) (ws2 := [wX12 (zcT C) aO o26.2]) X (metX12_leftRows (zcl C) (zcD C) (zcT C) aO ho42) zmX12_leftRows zw1562 dX12_tightShare_42 0 0 13 rfl rfl rfl rfl [0] rfl rfl [] rfl (by decide) trivial rfl rfl rfl (Nat.le_of_ble_eq_true rfl) rfl rfl ⟨Nat.le_of_ble_eq_true rfl, Nat.le_of_ble_eq_true rfl⟩ ⟨Nat.le_of_ble_eq_true rfl, Nat.le_of_ble_eq_true rfl⟩ ?_
    refine z_i2f X dX12_tightShare_45 ?_
    obtain ⟨g46, h⟩ := zgd_of h
    refine z_fdiv X dX12_tightShare_46 (zfn_of g46) ?_
    exact z_at (pc2 := 47) (lv2 := []) (st2 := [.float (FP.fdiv (FP.i2f o37) (FP.i2f o42))]) (ws2 := [wX12 (zcT C) aO o26.2]) rfl rfl rfl [] rfl (bX12_tightShare_47 X hQ  h)
  · replace h := zif_f h c29
    refine z_fconst0 X dX12_tightShare_32 ?_
    refine z_goto (tgt := 47) X dX12_tightShare_33 (by decide) ?_
    exact z_at (pc2 := 47) (lv2 := []) (st2 := [.float (0 : UInt32)]) (ws2 := [wX12 (zcT C) aO o26.2]) rfl rfl rfl [] rfl (bX12_tightShare_47 X hQ  h)
theorem bX12_tightShare_25 {C : zCtx} (X : zFx C cX12_tightShare 1 RX12 rmX12_tightShare (some .float)) {aO : Nat → Nat} {sO : zSt} {out : UInt32 × zSt} (hQ : zHf C out.1 [wX12 (zcT C) aO out.2] 0 0) (h : fX12_tightShare_25 sO = some out) : zG C 1 [0] 0 0 [wX12 (zcT C) aO sO] 25 [(0, .ref (aO 0))] [.ref (aO 0)] := by
  unfold fX12_tightShare_25 at h
  refine z_iconst (v := (0 : Int32)) X dX12_tightShare_25 rfl ?_
  exact z_at (pc2 := 26) (lv2 := [(0, .ref (aO 0))]) (st2 := [.int (0 : Int32), .ref (aO 0)]) (ws2 := [wX12 (zcT C) aO sO]) rfl rfl rfl [0] rfl (bX12_tightShare_26 X hQ  h)
theorem bX12_tightShare_0 {C : zCtx} (X : zFx C cX12_tightShare 1 RX12 rmX12_tightShare (some .float)) {aO : Nat → Nat} {sO : zSt} {out : UInt32 × zSt} (hQ : zHf C out.1 [wX12 (zcT C) aO out.2] 0 0) (h : fX12_tightShare sO = some out) : zG C 1 [0] 0 0 [wX12 (zcT C) aO sO] 0 [(0, .ref (aO 0))] [] := by
  unfold fX12_tightShare at h
  refine z_aload_n X dX12_tightShare_0 0 rfl ?_
  obtain ⟨o1, ho1, h⟩ := zbind_of h
  refine z_callVv (st := []) (ws2 := [wX12 (zcT C) aO o1]) X (metX12_looksNow (zcl C) (zcD C) (zcT C) aO ho1) zmX12_looksNow zw1792 dX12_tightShare_1 0 0 13 rfl rfl rfl rfl [0] rfl rfl [0] rfl (by decide) ⟨zsX12 , trivial⟩ rfl rfl rfl (Nat.le_of_ble_eq_true rfl) rfl rfl ⟨Nat.le_of_ble_eq_true rfl, Nat.le_of_ble_eq_true rfl⟩ ⟨Nat.le_of_ble_eq_true rfl, Nat.le_of_ble_eq_true rfl⟩ ?_
  refine z_aload_n X dX12_tightShare_4 0 rfl ?_
  refine z_aload_n X dX12_tightShare_5 0 rfl ?_
  refine z_get (v := .int (zgi o1 36)) X 0 0 13 36 ziX12 rfl (by decide) zw1372 rfl dX12_tightShare_6 rfl rfl rfl ?_
  refine z_bipush (v := (111 : Int32)) X dX12_tightShare_9 rfl ?_
  refine z_icmp_ne (tgt := 25) X dX12_tightShare_11 (by decide) (fun c11 => ?_) (fun c11 => ?_)
  · replace h := zif_f h c11
    exact z_at (pc2 := 25) (lv2 := [(0, .ref (aO 0))]) (st2 := [.ref (aO 0)]) (ws2 := [wX12 (zcT C) aO o1]) rfl rfl rfl [0] rfl (bX12_tightShare_25 X hQ  h)
  · replace h := zif_t h c11
    refine z_aload_n X dX12_tightShare_14 0 rfl ?_
    obtain ⟨o15, ho15, h⟩ := zbind_of h
    refine z_callVi (st := [.ref (aO 0)]) (ws2 := [wX12 (zcT C) aO o1]) X (metX12_leftRows (zcl C) (zcD C) (zcT C) aO ho15) zmX12_leftRows zw1562 dX12_tightShare_15 0 0 13 rfl rfl rfl rfl [0] rfl rfl [] rfl (by decide) trivial rfl rfl rfl (Nat.le_of_ble_eq_true rfl) rfl rfl ⟨Nat.le_of_ble_eq_true rfl, Nat.le_of_ble_eq_true rfl⟩ ⟨Nat.le_of_ble_eq_true rfl, Nat.le_of_ble_eq_true rfl⟩ ?_
    refine z_if_le (tgt := 25) X dX12_tightShare_18 (by decide) (fun c18 => ?_) (fun c18 => ?_)
    · replace h := zif_t h c18
      exact z_at (pc2 := 25) (lv2 := [(0, .ref (aO 0))]) (st2 := [.ref (aO 0)]) (ws2 := [wX12 (zcT C) aO o1]) rfl rfl rfl [0] rfl (bX12_tightShare_25 X hQ  h)
    · replace h := zif_f h c18
      refine z_iconst (v := (1 : Int32)) X dX12_tightShare_21 rfl ?_
      refine z_goto (tgt := 26) X dX12_tightShare_22 (by decide) ?_
      exact z_at (pc2 := 26) (lv2 := [(0, .ref (aO 0))]) (st2 := [.int (1 : Int32), .ref (aO 0)]) (ws2 := [wX12 (zcT C) aO o1]) rfl rfl rfl [0] rfl (bX12_tightShare_26 X hQ  h)
theorem metX12_tightShare (l : Launch) (D : va_G) (T : Nat → ClassId) (aO : Nat → Nat) {sO : zSt} {out : UInt32 × zSt} (hf : fX12_tightShare sO = some out) (sz : Nat) : Met l yX12_tightShare (zws yX12_tightShare cX12_tightShare 1 (some .float)) rmX12_tightShare (zPc D T [.ref (aO 0)] [wX12 T aO sO] sz) (zQf D out.1 [wX12 T aO out.2] (zA [wX12 T aO sO] sz)) 0 0 (zA [wX12 T aO sO] sz) :=
  zMet (D := D) (T := T) (av := [.ref (aO 0)]) (ws := fun T => [wX12 T aO sO]) (wm := fun T => [wX12 T aO sO]) (lv0 := [(0, .ref (aO 0))]) [0] (Qc := fun D T A => zQf D out.1 [wX12 T aO out.2] A) (by decide +kernel) rfl (Nat.le_of_ble_eq_true rfl) rfl (fun C X hQ => bX12_tightShare_0 X hQ hf) sz
