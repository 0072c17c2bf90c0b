/-- public int open(); of TableaufloorModel -/
abbrev rmX12_open : Room := { frames := 6, cells := 0, slots := 0, locals := 147 }
def fX12_open_33 (sO : zSt) (y0 : Int32) : Option (Int32 × zSt) :=
  some (y0, sO)
def fX12_open_19 (sO : zSt) (y1 : Int32) : Option (Int32 × zSt) :=
  ((fX12_checked sO y1).bind (fun o19 =>
    (if o19.1 ≤ 0 then
    (fX12_open_33 o19.2 (zgi o19.2 34))
  else
    (fX12_open_33 o19.2 (0 : Int32)))))
def fX12_open (sO : zSt) : Option (Int32 × zSt) :=
  ((fX12_looksNow sO).bind (fun o1 =>
    (if (zgi o1 36) = (117 : Int32) then
    (fX12_open_19 o1 (1 : Int32))
  else
    (fX12_open_19 o1 (0 : Int32)))))
theorem bX12_open_33 {C : zCtx} (X : zFx C cX12_open 1 RX12 rmX12_open (some .int)) {aO : Nat → Nat} {sO : zSt} {y0 : Int32} {out : Int32 × zSt} (hQ : zHi C out.1 [wX12 (zcT C) aO out.2] 0 0) (h : fX12_open_33 sO y0 = some out) : zG C 1 [0] 0 0 [wX12 (zcT C) aO sO] 33 [] [.int y0] := by
  unfold fX12_open_33 at h
  cases h
  exact z_iret X hQ dX12_open_33 rfl [0] rfl (by decide) (by decide)
theorem bX12_open_19 {C : zCtx} (X : zFx C cX12_open 1 RX12 rmX12_open (some .int)) {aO : Nat → Nat} {sO : zSt} {y1 : Int32} {out : Int32 × zSt} (hQ : zHi C out.1 [wX12 (zcT C) aO out.2] 0 0) (h : fX12_open_19 sO y1 = some out) : zG C 1 [0] 0 0 [wX12 (zcT C) aO sO] 19 [(0, .ref (aO 0))] [.int y1, .ref (aO 0)] := by
  unfold fX12_open_19 at h
  obtain ⟨o19, ho19, h⟩ := zbind_of h
  refine z_callVi (st := []) (ws2 := [wX12 (zcT C) aO o19.2]) X (metX12_checked (zcl C) (zcD C) (zcT C) aO ho19) zmX12_checked zw1550 dX12_open_19 0 0 13 rfl rfl rfl rfl [0] rfl rfl [0] rfl (by decide) ⟨zsX12 , trivial⟩ rfl rfl rfl (Nat.le_of_ble_eq_true rfl) rfl rfl ⟨Nat.le_of_ble_eq_true rfl, Nat.le_of_ble_eq_true rfl⟩ ⟨Nat.le_of_ble_eq_true rfl, Nat.le_of_ble_eq_true rfl⟩ ?_
  refine z_if_le (tgt := 29) X dX12_open_22 (by decide) (fun c22 => ?_) (fun c22 => ?_)
  · replace h := zif_t h c22
    refine z_aload_n X dX12_open_29 0 rfl ?_
    refine z_get (v := .int (zgi o19.2 34)) X 0 0 13 34 ziX12 rfl (by decide) zw1370 rfl dX12_open_30 rfl rfl rfl ?_
    exact z_at (pc2 := 33) (lv2 := []) (st2 := [.int (zgi o19.2 34)]) (ws2 := [wX12 (zcT C) aO o19.2]) rfl rfl rfl [] rfl (bX12_open_33 X hQ  h)
  · replace h := zif_f h c22
    refine z_iconst (v := (0 : Int32)) X dX12_open_25 rfl ?_
    refine z_goto (tgt := 33) X dX12_open_26 (by decide) ?_
    exact z_at (pc2 := 33) (lv2 := []) (st2 := [.int (0 : Int32)]) (ws2 := [wX12 (zcT C) aO o19.2]) rfl rfl rfl [] rfl (bX12_open_33 X hQ  h)
theorem bX12_open_0 {C : zCtx} (X : zFx C cX12_open 1 RX12 rmX12_open (some .int)) {aO : Nat → Nat} {sO : zSt} {out : Int32 × zSt} (hQ : zHi C out.1 [wX12 (zcT C) aO out.2] 0 0) (h : fX12_open sO = some out) : zG C 1 [0] 0 0 [wX12 (zcT C) aO sO] 0 [(0, .ref (aO 0))] [] := by
  unfold fX12_open at h
  refine z_aload_n X dX12_open_0 0 rfl ?_
  obtain ⟨o1, ho1, h⟩ := zbind_of h
  refine z_callVv (st := []) (ws2 := [wX12 (zcT C) aO o1]) X (metX12_looksNow (zcl C) (zcD C) (zcT C) aO ho1) zmX12_looksNow zw1792 dX12_open_1 0 0 13 rfl rfl rfl rfl [0] rfl rfl [0] rfl (by decide) ⟨zsX12 , trivial⟩ rfl rfl rfl (Nat.le_of_ble_eq_true rfl) rfl rfl ⟨Nat.le_of_ble_eq_true rfl, Nat.le_of_ble_eq_true rfl⟩ ⟨Nat.le_of_ble_eq_true rfl, Nat.le_of_ble_eq_true rfl⟩ ?_
  refine z_aload_n X dX12_open_4 0 rfl ?_
  refine z_aload_n X dX12_open_5 0 rfl ?_
  refine z_get (v := .int (zgi o1 36)) X 0 0 13 36 ziX12 rfl (by decide) zw1372 rfl dX12_open_6 rfl rfl rfl ?_
  refine z_bipush (v := (117 : Int32)) X dX12_open_9 rfl ?_
  refine z_icmp_ne (tgt := 18) X dX12_open_11 (by decide) (fun c11 => ?_) (fun c11 => ?_)
  · replace h := zif_f h c11
    refine z_iconst (v := (0 : Int32)) X dX12_open_18 rfl ?_
    exact z_at (pc2 := 19) (lv2 := [(0, .ref (aO 0))]) (st2 := [.int (0 : Int32), .ref (aO 0)]) (ws2 := [wX12 (zcT C) aO o1]) rfl rfl rfl [0] rfl (bX12_open_19 X hQ  h)
  · replace h := zif_t h c11
    refine z_iconst (v := (1 : Int32)) X dX12_open_14 rfl ?_
    refine z_goto (tgt := 19) X dX12_open_15 (by decide) ?_
    exact z_at (pc2 := 19) (lv2 := [(0, .ref (aO 0))]) (st2 := [.int (1 : Int32), .ref (aO 0)]) (ws2 := [wX12 (zcT C) aO o1]) rfl rfl rfl [0] rfl (bX12_open_19 X hQ  h)
theorem metX12_open (l : Launch) (D : va_G) (T : Nat → ClassId) (aO : Nat → Nat) {sO : zSt} {out : Int32 × zSt} (hf : fX12_open sO = some out) (sz : Nat) : Met l yX12_open (zws yX12_open cX12_open 1 (some .int)) rmX12_open (zPc D T [.ref (aO 0)] [wX12 T aO sO] sz) (zQi D out.1 [wX12 T aO out.2] (zA [wX12 T aO sO] sz)) 0 0 (zA [wX12 T aO sO] sz) :=
  zMet (D := D) (T := T) (av := [.ref (aO 0)]) (ws := fun T => [wX12 T aO sO]) (wm := fun T => [wX12 T aO sO]) (lv0 := [(0, .ref (aO 0))]) [0] (Qc := fun D T A => zQi D out.1 [wX12 T aO out.2] A) (by decide +kernel) rfl (Nat.le_of_ble_eq_true rfl) rfl (fun C X hQ => bX12_open_0 X hQ hf) sz
/-- private int wrongValue(int); of TableaufloorModel -/
abbrev rmX12_wrongValue : Room := { frames := 6, cells := 0, slots := 0, locals := 147 }
def fX12_wrongValue_38 (sO : zSt) (y0 : Int32) : Option (Int32 × zSt) :=
  some (y0, sO)
def fX12_wrongValue_33 (sO : zSt) : Option (Int32 × zSt) :=
  (fX12_wrongValue_38 sO (2 : Int32))
def fX12_wrongValue (sO : zSt) (x1 : Int32) : Option (Int32 × zSt) :=
  ((fX12_looksNow sO).bind (fun o1 =>
    ((fX12_isAimIn o1 x1).bind (fun o6 =>
    (if o6 = 0 then
    (fX12_wrongValue_38 o1 (1 : Int32))
  else
    (if (zgi o1 36) = (105 : Int32) then
      (fX12_wrongValue_33 o1)
    else
      (if x1 < (zgi o1 34) then
        (fX12_wrongValue_38 o1 (0 : Int32))
      else
        (fX12_wrongValue_33 o1))))))))
theorem bX12_wrongValue_38 {C : zCtx} (X : zFx C cX12_wrongValue 2 RX12 rmX12_wrongValue (some .int)) {aO : Nat → Nat} {sO : zSt} {y0 : Int32} {out : Int32 × zSt} (hQ : zHi C out.1 [wX12 (zcT C) aO out.2] 0 0) (h : fX12_wrongValue_38 sO y0 = some out) : zG C 2 [0] 0 0 [wX12 (zcT C) aO sO] 38 [] [.int y0] := by
  unfold fX12_wrongValue_38 at h
  cases h
  exact z_iret X hQ dX12_wrongValue_38 rfl [0] rfl (by decide) (by decide)
theorem bX12_wrongValue_33 {C : zCtx} (X : zFx C cX12_wrongValue 2 RX12 rmX12_wrongValue (some .int)) {aO : Nat → Nat} {sO : zSt} {out : Int32 × zSt} (hQ : zHi C out.1 [wX12 (zcT C) aO out.2] 0 0) (h : fX12_wrongValue_33 sO = some out) : zG C 2 [0] 0 0 [wX12 (zcT C) aO sO] 33 [] [] := by
  unfold fX12_wrongValue_33 at h
  refine z_iconst (v := (2 : Int32)) X dX12_wrongValue_33 rfl ?_
  refine z_goto (tgt := 38) X dX12_wrongValue_34 (by decide) ?_
  exact z_at (pc2 := 38) (lv2 := []) (st2 := [.int (2 : Int32)]) (ws2 := [wX12 (zcT C) aO sO]) rfl rfl rfl [] rfl (bX12_wrongValue_38 X hQ  h)
theorem bX12_wrongValue_0 {C : zCtx} (X : zFx C cX12_wrongValue 2 RX12 rmX12_wrongValue (some .int)) {aO : Nat → Nat} {sO : zSt} {x1 : Int32} {out : Int32 × zSt} (hQ : zHi C out.1 [wX12 (zcT C) aO out.2] 0 0) (h : fX12_wrongValue sO x1 = some out) : zG C 2 [0] 0 0 [wX12 (zcT C) aO sO] 0 [(0, .ref (aO 0)), (1, .int x1)] [] := by
  unfold fX12_wrongValue at h
  refine z_aload_n X dX12_wrongValue_0 0 rfl ?_
  obtain ⟨o1, ho1, h⟩ := zbind_of h
  refine z_callVv (st := []) (ws2 := [wX12 (zcT C) aO o1]) X (metX12_looksNow (zcl C) (zcD C) (zcT C) aO ho1) zmX12_looksNow zw1792 dX12_wrongValue_1 0 0 13 rfl rfl rfl rfl [0] rfl rfl [0] rfl (by decide) ⟨zsX12 , trivial⟩ rfl rfl rfl (Nat.le_of_ble_eq_true rfl) rfl rfl ⟨Nat.le_of_ble_eq_true rfl, Nat.le_of_ble_eq_true rfl⟩ ⟨Nat.le_of_ble_eq_true rfl, Nat.le_of_ble_eq_true rfl⟩ ?_
  refine z_aload_n X dX12_wrongValue_4 0 rfl ?_
  refine z_iload_n X dX12_wrongValue_5 1 rfl ?_
  obtain ⟨o6, ho6, h⟩ := zbind_of h
  refine z_callVi (st := []) (ws2 := [wX12 (zcT C) aO o1]) X (metX12_isAimIn (zcl C) (zcD C) (zcT C) aO ho6) zmX12_isAimIn zw1876 dX12_wrongValue_6 0 0 13 rfl rfl rfl rfl [0] rfl rfl [] rfl (by decide) trivial rfl rfl rfl (Nat.le_of_ble_eq_true rfl) rfl rfl ⟨Nat.le_of_ble_eq_true rfl, Nat.le_of_ble_eq_true rfl⟩ ⟨Nat.le_of_ble_eq_true rfl, Nat.le_of_ble_eq_true rfl⟩ ?_
  refine z_if_ne (tgt := 16) X dX12_wrongValue_9 (by decide) (fun c9 => ?_) (fun c9 => ?_)
  · replace h := zif_f h c9
    refine z_aload_n X dX12_wrongValue_16 0 rfl ?_
    refine z_get (v := .int (zgi o1 36)) X 0 0 13 36 ziX12 rfl (by decide) zw1372 rfl dX12_wrongValue_17 rfl rfl rfl ?_
    refine z_bipush (v := (105 : Int32)) X dX12_wrongValue_20 rfl ?_
    refine z_icmp_eq (tgt := 33) X dX12_wrongValue_22 (by decide) (fun c22 => ?_) (fun c22 => ?_)
    · replace h := zif_t h c22
      exact z_at (pc2 := 33) (lv2 := []) (st2 := []) (ws2 := [wX12 (zcT C) aO o1]) rfl rfl rfl [] rfl (bX12_wrongValue_33 X hQ  h)
    · replace h := zif_f h c22
      refine z_iload_n X dX12_wrongValue_25 1 rfl ?_
      refine z_aload_n X dX12_wrongValue_26 0 rfl ?_
      refine z_get (v := .int (zgi o1 34)) X 0 0 13 34 ziX12 rfl (by decide) zw1370 rfl dX12_wrongValue_27 rfl rfl rfl ?_
      refine z_icmp_lt (tgt := 37) X dX12_wrongValue_30 (by decide) (fun c30 => ?_) (fun c30 => ?_)
      · replace h := zif_t h c30
        refine z_iconst (v := (0 : Int32)) X dX12_wrongValue_37 rfl ?_
        exact z_at (pc2 := 38) (lv2 := []) (st2 := [.int (0 : Int32)]) (ws2 := [wX12 (zcT C) aO o1]) rfl rfl rfl [] rfl (bX12_wrongValue_38 X hQ  h)
      · replace h := zif_f h c30
        exact z_at (pc2 := 33) (lv2 := []) (st2 := []) (ws2 := [wX12 (zcT C) aO o1]) rfl rfl rfl [] rfl (bX12_wrongValue_33 X hQ  h)
  · replace h := zif_t h c9
    refine z_iconst (v := (1 : Int32)) X dX12_wrongValue_12 rfl ?_
    refine z_goto (tgt := 38) X dX12_wrongValue_13 (by decide) ?_
    exact z_at (pc2 := 38) (lv2 := []) (st2 := [.int (1 : Int32)]) (ws2 := [wX12 (zcT C) aO o1]) rfl rfl rfl [] rfl (bX12_wrongValue_38 X hQ  h)
theorem metX12_wrongValue (l : Launch) (D : va_G) (T : Nat → ClassId) (aO : Nat → Nat) {sO : zSt} {x1 : Int32} {out : Int32 × zSt} (hf : fX12_wrongValue sO x1 = some out) (sz : Nat) : Met l yX12_wrongValue (zws yX12_wrongValue cX12_wrongValue 2 (some .int)) rmX12_wrongValue (zPc D T [.ref (aO 0), .int x1] [wX12 T aO sO] sz) (zQi D out.1 [wX12 T aO out.2] (zA [wX12 T aO sO] sz)) 0 0 (zA [wX12 T aO sO] sz) :=
  zMet (D := D) (T := T) (av := [.ref (aO 0), .int x1]) (ws := fun T => [wX12 T aO sO]) (wm := fun T => [wX12 T aO sO]) (lv0 := [(0, .ref (aO 0)), (1, .int x1)]) [0] (Qc := fun D T A => zQi D out.1 [wX12 T aO out.2] A) (by decide +kernel) rfl (Nat.le_of_ble_eq_true rfl) rfl (fun C X hQ => bX12_wrongValue_0 X hQ hf) sz
/-- public long valueTop(int); of TableaufloorModel -/
abbrev rmX12_valueTop : Room := { frames := 7, cells := 0, slots := 0, locals := 168 }
def fX12_valueTop_26 (sO : zSt) (y0 : Int64) : Option (Int64 × zSt) :=
  some (y0, sO)
def fX12_valueTop (sO : zSt) (x1 : Int32) : Option (Int64 × zSt) :=
  ((fX12_wrongValue sO x1).bind (fun o3 =>
    (zlet (zsi o3.2 9 o3.1) (fun sO6 =>
    (if (zgi sO6 9) ≤ 0 then
    (if zin x1 3 = true then
      (fX12_valueTop_26 sO6 (zgb sO6 28 (x1).toNatClampNeg)) else none)
  else
    (fX12_valueTop_26 sO6 (0 : Int64)))))))
theorem bX12_valueTop_26 {C : zCtx} (X : zFx C cX12_valueTop 2 RX12 rmX12_valueTop (some .long)) {aO : Nat → Nat} {sO : zSt} {y0 : Int64} {out : Int64 × zSt} (hQ : zHl C out.1 [wX12 (zcT C) aO out.2] 0 0) (h : fX12_valueTop_26 sO y0 = some out) : zG C 2 [0] 0 0 [wX12 (zcT C) aO sO] 26 [] [.long y0] := by
  unfold fX12_valueTop_26 at h
  cases h
  exact z_lret X hQ dX12_valueTop_26 rfl [0] rfl (by decide) (by decide)
theorem bX12_valueTop_0 {C : zCtx} (X : zFx C cX12_valueTop 2 RX12 rmX12_valueTop (some .long)) {aO : Nat → Nat} {sO : zSt} {x1 : Int32} {out : Int64 × zSt} (hQ : zHl C out.1 [wX12 (zcT C) aO out.2] 0 0) (h : fX12_valueTop sO x1 = some out) : zG C 2 [0] 0 0 [wX12 (zcT C) aO sO] 0 [(0, .ref (aO 0)), (1, .int x1)] [] := by
  unfold fX12_valueTop at h
  refine z_aload_n X dX12_valueTop_0 0 rfl ?_
  refine z_aload_n X dX12_valueTop_1 0 rfl ?_
  refine z_iload_n X dX12_valueTop_2 1 rfl ?_
  obtain ⟨o3, ho3, h⟩ := zbind_of h
  refine z_callVi (st := [.ref (aO 0)]) (ws2 := [wX12 (zcT C) aO o3.2]) X (metX12_wrongValue (zcl C) (zcD C) (zcT C) aO ho3) zmX12_wrongValue zw1872 dX12_valueTop_3 0 0 13 rfl rfl rfl rfl [0] rfl rfl [0] rfl (by decide) ⟨zsX12 , trivial⟩ rfl rfl rfl (Nat.le_of_ble_eq_true rfl) rfl rfl ⟨Nat.le_of_ble_eq_true rfl, Nat.le_of_ble_eq_true rfl⟩ ⟨Nat.le_of_ble_eq_true rfl, Nat.le_of_ble_eq_true rfl⟩ ?_
  obtain ⟨sO6, esO6, h⟩ := zlet_of h
  refine z_put (ws2 := [wX12 (zcT C) aO sO6]) X 0 0 13 9 ziX12 rfl tyX12 tyX12_ok nmX12 (by decide) zw1345 rfl rfl (ty := .int) (by decide +kernel) rfl rfl (by show 9 < 40; decide) dX12_valueTop_6 rfl rfl (by decide) (w2 := wX12 (zcT C) aO sO6) (by rw [esO6]; rfl) rfl ?_
  refine z_aload_n X dX12_valueTop_9 0 rfl ?_
  refine z_get (v := .int (zgi sO6 9)) X 0 0 13 9 ziX12 rfl (by decide) zw1345 rfl dX12_valueTop_10 rfl rfl rfl ?_
  refine z_if_le (tgt := 20) X dX12_valueTop_13 (by decide) (fun c13 => ?_) (fun c13 => ?_)
  · replace h := zif_t h c13
    refine z_aload_n X dX12_valueTop_20 0 rfl ?_
    refine z_get (v := .ref (aO 29)) X 0 0 13 28 ziX12 rfl (by decide) zw1364 rfl dX12_valueTop_21 rfl rfl rfl ?_
    refine z_iload_n X dX12_valueTop_24 1 rfl ?_
    obtain ⟨g25, h⟩ := zgd_of h
    refine z_lald X 0 20 g25 dX12_valueTop_25 rfl rfl ?_
    exact z_at (pc2 := 26) (lv2 := []) (st2 := [.long (zgb sO6 28 (x1).toNatClampNeg)]) (ws2 := [wX12 (zcT C) aO sO6]) rfl rfl rfl [] rfl (bX12_valueTop_26 X hQ  h)
  · replace h := zif_f h c13
    refine z_lconst (v := (0 : Int64)) X dX12_valueTop_16 rfl ?_
    refine z_goto (tgt := 26) X dX12_valueTop_17 (by decide) ?_
    exact z_at (pc2 := 26) (lv2 := []) (st2 := [.long (0 : Int64)]) (ws2 := [wX12 (zcT C) aO sO6]) rfl rfl rfl [] rfl (bX12_valueTop_26 X hQ  h)
theorem metX12_valueTop (l : Launch) (D : va_G) (T : Nat → ClassId) (aO : Nat → Nat) {sO : zSt} {x1 : Int32} {out : Int64 × zSt} (hf : fX12_valueTop sO x1 = some out) (sz : Nat) : Met l yX12_valueTop (zws yX12_valueTop cX12_valueTop 2 (some .long)) rmX12_valueTop (zPc D T [.ref (aO 0), .int x1] [wX12 T aO sO] sz) (zQl D out.1 [wX12 T aO out.2] (zA [wX12 T aO sO] sz)) 0 0 (zA [wX12 T aO sO] sz) :=
  zMet (D := D) (T := T) (av := [.ref (aO 0), .int x1]) (ws := fun T => [wX12 T aO sO]) (wm := fun T => [wX12 T aO sO]) (lv0 := [(0, .ref (aO 0)), (1, .int x1)]) [0] (Qc := fun D T A => zQl D out.1 [wX12 T aO out.2] A) (by decide +kernel) rfl (Nat.le_of_ble_eq_true rfl) rfl (fun C X hQ => bX12_valueTop_0 X hQ hf) sz
/-- public long valueBottom(int); of TableaufloorModel -/
abbrev rmX12_valueBottom : Room := { frames := 7, cells := 0, slots := 0, locals := 168 }
def fX12_valueBottom_26 (sO : zSt) (y0 : Int64) : Option (Int64 × zSt) :=
  some (y0, sO)
def fX12_valueBottom (sO : zSt) (x1 : Int32) : Option (Int64 × zSt) :=
  ((fX12_wrongValue sO x1).bind (fun o3 =>
    (zlet (zsi o3.2 9 o3.1) (fun sO6 =>
    (if (zgi sO6 9) ≤ 0 then
    (if zin x1 3 = true then
      (fX12_valueBottom_26 sO6 (zgb sO6 29 (x1).toNatClampNeg)) else none)
  else
    (fX12_valueBottom_26 sO6 (0 : Int64)))))))
theorem bX12_valueBottom_26 {C : zCtx} (X : zFx C cX12_valueBottom 2 RX12 rmX12_valueBottom (some .long)) {aO : Nat → Nat} {sO : zSt} {y0 : Int64} {out : Int64 × zSt} (hQ : zHl C out.1 [wX12 (zcT C) aO out.2] 0 0) (h : fX12_valueBottom_26 sO y0 = some out) : zG C 2 [0] 0 0 [wX12 (zcT C) aO sO] 26 [] [.long y0] := by
  unfold fX12_valueBottom_26 at h
  cases h
  exact z_lret X hQ dX12_valueBottom_26 rfl [0] rfl (by decide) (by decide)
theorem bX12_valueBottom_0 {C : zCtx} (X : zFx C cX12_valueBottom 2 RX12 rmX12_valueBottom (some .long)) {aO : Nat → Nat} {sO : zSt} {x1 : Int32} {out : Int64 × zSt} (hQ : zHl C out.1 [wX12 (zcT C) aO out.2] 0 0) (h : fX12_valueBottom sO x1 = some out) : zG C 2 [0] 0 0 [wX12 (zcT C) aO sO] 0 [(0, .ref (aO 0)), (1, .int x1)] [] := by
  unfold fX12_valueBottom at h
  refine z_aload_n X dX12_valueBottom_0 0 rfl ?_
  refine z_aload_n X dX12_valueBottom_1 0 rfl ?_
  refine z_iload_n X dX12_valueBottom_2 1 rfl ?_
  obtain ⟨o3, ho3, h⟩ := zbind_of h
  refine z_callVi (st := [.ref (aO 0)]) (ws2 := [wX12 (zcT C) aO o3.2]) X (metX12_wrongValue (zcl C) (zcD C) (zcT C) aO ho3) zmX12_wrongValue zw1872 dX12_valueBottom_3 0 0 13 rfl rfl rfl rfl [0] rfl rfl [0] rfl (by decide) ⟨zsX12 , trivial⟩ rfl rfl rfl (Nat.le_of_ble_eq_true rfl) rfl rfl ⟨Nat.le_of_ble_eq_true rfl, Nat.le_of_ble_eq_true rfl⟩ ⟨Nat.le_of_ble_eq_true rfl, Nat.le_of_ble_eq_true rfl⟩ ?_
  obtain ⟨sO6, esO6, h⟩ := zlet_of h
  refine z_put (ws2 := [wX12 (zcT C) aO sO6]) X 0 0 13 9 ziX12 rfl tyX12 tyX12_ok nmX12 (by decide) zw1345 rfl rfl (ty := .int) (by decide +kernel) rfl rfl (by show 9 < 40; decide) dX12_valueBottom_6 rfl rfl (by decide) (w2 := wX12 (zcT C) aO sO6) (by rw [esO6]; rfl) rfl ?_
  refine z_aload_n X dX12_valueBottom_9 0 rfl ?_
  refine z_get (v := .int (zgi sO6 9)) X 0 0 13 9 ziX12 rfl (by decide) zw1345 rfl dX12_valueBottom_10 rfl rfl rfl ?_
  refine z_if_le (tgt := 20) X dX12_valueBottom_13 (by decide) (fun c13 => ?_) (fun c13 => ?_)
  · replace h := zif_t h c13
    refine z_aload_n X dX12_valueBottom_20 0 rfl ?_
    refine z_get (v := .ref (aO 30)) X 0 0 13 29 ziX12 rfl (by decide) zw1365 rfl dX12_valueBottom_21 rfl rfl rfl ?_
    refine z_iload_n X dX12_valueBottom_24 1 rfl ?_
    obtain ⟨g25, h⟩ := zgd_of h
    refine z_lald X 0 21 g25 dX12_valueBottom_25 rfl rfl ?_
    exact z_at (pc2 := 26) (lv2 := []) (st2 := [.long (zgb sO6 29 (x1).toNatClampNeg)]) (ws2 := [wX12 (zcT C) aO sO6]) rfl rfl rfl [] rfl (bX12_valueBottom_26 X hQ  h)
  · replace h := zif_f h c13
    refine z_lconst (v := (0 : Int64)) X dX12_valueBottom_16 rfl ?_
    refine z_goto (tgt := 26) X dX12_valueBottom_17 (by decide) ?_
    exact z_at (pc2 := 26) (lv2 := []) (st2 := [.long (0 : Int64)]) (ws2 := [wX12 (zcT C) aO sO6]) rfl rfl rfl [] rfl (bX12_valueBottom_26 X hQ  h)
theorem metX12_valueBottom (l : Launch) (D : va_G) (T : Nat → ClassId) (aO : Nat → Nat) {sO : zSt} {x1 : Int32} {out : Int64 × zSt} (hf : fX12_valueBottom sO x1 = some out) (sz : Nat) : Met l yX12_valueBottom (zws yX12_valueBottom cX12_valueBottom 2 (some .long)) rmX12_valueBottom (zPc D T [.ref (aO 0), .int x1] [wX12 T aO sO] sz) (zQl D out.1 [wX12 T aO out.2] (zA [wX12 T aO sO] sz)) 0 0 (zA [wX12 T aO sO] sz) :=
  zMet (D := D) (T := T) (av := [.ref (aO 0), .int x1]) (ws := fun T => [wX12 T aO sO]) (wm := fun T => [wX12 T aO sO]) (lv0 := [(0, .ref (aO 0)), (1, .int x1)]) [0] (Qc := fun D T A => zQl D out.1 [wX12 T aO out.2] A) (by decide +kernel) rfl (Nat.le_of_ble_eq_true rfl) rfl (fun C X hQ => bX12_valueBottom_0 X hQ hf) sz
/-- public long topByPoints(int); of TableaufloorModel -/
abbrev rmX12_topByPoints : Room := { frames := 6, cells := 0, slots := 0, locals := 147 }
def fX12_topByPoints_51 (sO : zSt) (y0 : Int64) : Option (Int64 × zSt) :=
  some (y0, sO)
def fX12_topByPoints_31 (sO : zSt) (x1 : Int32) (y1 : Int32) : Option (Int64 × zSt) :=
  (zlet (zsi sO 9 y1) (fun sO31 =>
    (if (zgi sO31 9) ≤ 0 then
    (if zin x1 3 = true then
      (fX12_topByPoints_51 sO31 (zgb sO31 28 (x1).toNatClampNeg)) else none)
  else
    (fX12_topByPoints_51 sO31 (0 : Int64)))))
def fX12_topByPoints (sO : zSt) (x1 : Int32) : Option (Int64 × zSt) :=
  ((fX12_looksNow sO).bind (fun o1 =>
    ((fX12_isAimIn o1 x1).bind (fun o7 =>
    (if o7 = 0 then
    (fX12_topByPoints_31 o1 x1 (1 : Int32))
  else
    (if (zgi o1 36) = (111 : Int32) then
      (fX12_topByPoints_31 o1 x1 (0 : Int32))
    else
      (fX12_topByPoints_31 o1 x1 (2 : Int32))))))))
theorem bX12_topByPoints_51 {C : zCtx} (X : zFx C cX12_topByPoints 2 RX12 rmX12_topByPoints (some .long)) {aO : Nat → Nat} {sO : zSt} {y0 : Int64} {out : Int64 × zSt} (hQ : zHl C out.1 [wX12 (zcT C) aO out.2] 0 0) (h : fX12_topByPoints_51 sO y0 = some out) : zG C 2 [0] 0 0 [wX12 (zcT C) aO sO] 51 [] [.long y0] := by
  unfold fX12_topByPoints_51 at h
  cases h
  exact z_lret X hQ dX12_topByPoints_51 rfl [0] rfl (by decide) (by decide)
theorem bX12_topByPoints_31 {C : zCtx} (X : zFx C cX12_topByPoints 2 RX12 rmX12_topByPoints (some .long)) {aO : Nat → Nat} {sO : zSt} {x1 : Int32} {y1 : Int32} {out : Int64 × zSt} (hQ : zHl C out.1 [wX12 (zcT C) aO out.2] 0 0) (h : fX12_topByPoints_31 sO x1 y1 = some out) : zG C 2 [0] 0 0 [wX12 (zcT C) aO sO] 31 [(0, .ref (aO 0)), (1, .int x1)] [.int y1, .ref (aO 0)] := by
  unfold fX12_topByPoints_31 at h
  obtain ⟨sO31, esO31, h⟩ := zlet_of h
  refine z_put (ws2 := [wX12 (zcT C) aO sO31]) X 0 0 13 9 ziX12 rfl tyX12 tyX12_ok nmX12 (by decide) zw1345 rfl rfl (ty := .int) (by decide +kernel) rfl rfl (by show 9 < 40; decide) dX12_topByPoints_31 rfl rfl (by decide) (w2 := wX12 (zcT C) aO sO31) (by rw [esO31]; rfl) rfl ?_
  refine z_aload_n X dX12_topByPoints_34 0 rfl ?_
  refine z_get (v := .int (zgi sO31 9)) X 0 0 13 9 ziX12 rfl (by decide) zw1345 rfl dX12_topByPoints_35 rfl rfl rfl ?_
  refine z_if_le (tgt := 45) X dX12_topByPoints_38 (by decide) (fun c38 => ?_) (fun c38 => ?_)
  · replace h := zif_t h c38
    refine z_aload_n X dX12_topByPoints_45 0 rfl ?_
    refine z_get (v := .ref (aO 29)) X 0 0 13 28 ziX12 rfl (by decide) zw1364 rfl dX12_topByPoints_46 rfl rfl rfl ?_
    refine z_iload_n X dX12_topByPoints_49 1 rfl ?_
    obtain ⟨g50, h⟩ := zgd_of h
    refine z_lald X 0 20 g50 dX12_topByPoints_50 rfl rfl ?_
    exact z_at (pc2 := 51) (lv2 := []) (st2 := [.long (zgb sO31 28 (x1).toNatClampNeg)]) (ws2 := [wX12 (zcT C) aO sO31]) rfl rfl rfl [] rfl (bX12_topByPoints_51 X hQ  h)
  · replace h := zif_f h c38
    refine z_lconst (v := (0 : Int64)) X dX12_topByPoints_41 rfl ?_
    refine z_goto (tgt := 51) X dX12_topByPoints_42 (by decide) ?_
    exact z_at (pc2 := 51) (lv2 := []) (st2 := [.long (0 : Int64)]) (ws2 := [wX12 (zcT C) aO sO31]) rfl rfl rfl [] rfl (bX12_topByPoints_51 X hQ  h)
theorem bX12_topByPoints_0 {C : zCtx} (X : zFx C cX12_topByPoints 2 RX12 rmX12_topByPoints (some .long)) {aO : Nat → Nat} {sO : zSt} {x1 : Int32} {out : Int64 × zSt} (hQ : zHl C out.1 [wX12 (zcT C) aO out.2] 0 0) (h : fX12_topByPoints sO x1 = some out) : zG C 2 [0] 0 0 [wX12 (zcT C) aO sO] 0 [(0, .ref (aO 0)), (1, .int x1)] [] := by
  unfold fX12_topByPoints at h
  refine z_aload_n X dX12_topByPoints_0 0 rfl ?_
  obtain ⟨o1, ho1, h⟩ := zbind_of h
  refine z_callVv (st := []) (ws2 := [wX12 (zcT C) aO o1]) X (metX12_looksNow (zcl C) (zcD C) (zcT C) aO ho1) zmX12_looksNow zw1792 dX12_topByPoints_1 0 0 13 rfl rfl rfl rfl [0] rfl rfl [0] rfl (by decide) ⟨zsX12 , trivial⟩ rfl rfl rfl (Nat.le_of_ble_eq_true rfl) rfl rfl ⟨Nat.le_of_ble_eq_true rfl, Nat.le_of_ble_eq_true rfl⟩ ⟨Nat.le_of_ble_eq_true rfl, Nat.le_of_ble_eq_true rfl⟩ ?_
  refine z_aload_n X dX12_topByPoints_4 0 rfl ?_
  refine z_aload_n X dX12_topByPoints_5 0 rfl ?_
  refine z_iload_n X dX12_topByPoints_6 1 rfl ?_
  obtain ⟨o7, ho7, h⟩ := zbind_of h
  refine z_callVi (st := [.ref (aO 0)]) (ws2 := [wX12 (zcT C) aO o1]) X (metX12_isAimIn (zcl C) (zcD C) (zcT C) aO ho7) zmX12_isAimIn zw1876 dX12_topByPoints_7 0 0 13 rfl rfl rfl rfl [0] rfl rfl [] rfl (by decide) trivial rfl rfl rfl (Nat.le_of_ble_eq_true rfl) rfl rfl ⟨Nat.le_of_ble_eq_true rfl, Nat.le_of_ble_eq_true rfl⟩ ⟨Nat.le_of_ble_eq_true rfl, Nat.le_of_ble_eq_true rfl⟩ ?_
  refine z_if_ne (tgt := 17) X dX12_topByPoints_10 (by decide) (fun c10 => ?_) (fun c10 => ?_)
  · replace h := zif_f h c10
    refine z_aload_n X dX12_topByPoints_17 0 rfl ?_
    refine z_get (v := .int (zgi o1 36)) X 0 0 13 36 ziX12 rfl (by decide) zw1372 rfl dX12_topByPoints_18 rfl rfl rfl ?_
    refine z_bipush (v := (111 : Int32)) X dX12_topByPoints_21 rfl ?_
    refine z_icmp_eq (tgt := 30) X dX12_topByPoints_23 (by decide) (fun c23 => ?_) (fun c23 => ?_)
    · replace h := zif_t h c23
      refine z_iconst (v := (0 : Int32)) X dX12_topByPoints_30 rfl ?_
      exact z_at (pc2 := 31) (lv2 := [(0, .ref (aO 0)), (1, .int x1)]) (st2 := [.int (0 : Int32), .ref (aO 0)]) (ws2 := [wX12 (zcT C) aO o1]) rfl rfl rfl [0, 1] rfl (bX12_topByPoints_31 X hQ  h)
    · replace h := zif_f h c23
      refine z_iconst (v := (2 : Int32)) X dX12_topByPoints_26 rfl ?_
      refine z_goto (tgt := 31) X dX12_topByPoints_27 (by decide) ?_
      exact z_at (pc2 := 31) (lv2 := [(0, .ref (aO 0)), (1, .int x1)]) (st2 := [.int (2 : Int32), .ref (aO 0)]) (ws2 := [wX12 (zcT C) aO o1]) rfl rfl rfl [0, 1] rfl (bX12_topByPoints_31 X hQ  h)
  · replace h := zif_t h c10
    refine z_iconst (v := (1 : Int32)) X dX12_topByPoints_13 rfl ?_
    refine z_goto (tgt := 31) X dX12_topByPoints_14 (by decide) ?_
    exact z_at (pc2 := 31) (lv2 := [(0, .ref (aO 0)), (1, .int x1)]) (st2 := [.int (1 : Int32), .ref (aO 0)]) (ws2 := [wX12 (zcT C) aO o1]) rfl rfl rfl [0, 1] rfl (bX12_topByPoints_31 X hQ  h)
theorem metX12_topByPoints (l : Launch) (D : va_G) (T : Nat → ClassId) (aO : Nat → Nat) {sO : zSt} {x1 : Int32} {out : Int64 × zSt} (hf : fX12_topByPoints sO x1 = some out) (sz : Nat) : Met l yX12_topByPoints (zws yX12_topByPoints cX12_topByPoints 2 (some .long)) rmX12_topByPoints (zPc D T [.ref (aO 0), .int x1] [wX12 T aO sO] sz) (zQl D out.1 [wX12 T aO out.2] (zA [wX12 T aO sO] sz)) 0 0 (zA [wX12 T aO sO] sz) :=
  zMet (D := D) (T := T) (av := [.ref (aO 0), .int x1]) (ws := fun T => [wX12 T aO sO]) (wm := fun T => [wX12 T aO sO]) (lv0 := [(0, .ref (aO 0)), (1, .int x1)]) [0] (Qc := fun D T A => zQl D out.1 [wX12 T aO out.2] A) (by decide +kernel) rfl (Nat.le_of_ble_eq_true rfl) rfl (fun C X hQ => bX12_topByPoints_0 X hQ hf) sz
/-- private int wrongPoint(int); of TableaufloorModel -/
abbrev rmX12_wrongPoint : Room := { frames := 6, cells := 0, slots := 0, locals := 147 }
def fX12_wrongPoint_30 (sO : zSt) (y0 : Int32) : Option (Int32 × zSt) :=
  some (y0, sO)
def fX12_wrongPoint (sO : zSt) (x1 : Int32) : Option (Int32 × zSt) :=
  ((fX12_looksNow sO).bind (fun o1 =>
    ((fX12_isVariable o1 x1).bind (fun o6 =>
    (if o6 = 0 then
    (fX12_wrongPoint_30 o1 (1 : Int32))
  else
    (if (zgi o1 36) = (111 : Int32) then
      (fX12_wrongPoint_30 o1 (0 : Int32))
    else
      (fX12_wrongPoint_30 o1 (2 : Int32))))))))
theorem bX12_wrongPoint_30 {C : zCtx} (X : zFx C cX12_wrongPoint 2 RX12 rmX12_wrongPoint (some .int)) {aO : Nat → Nat} {sO : zSt} {y0 : Int32} {out : Int32 × zSt} (hQ : zHi C out.1 [wX12 (zcT C) aO out.2] 0 0) (h : fX12_wrongPoint_30 sO y0 = some out) : zG C 2 [0] 0 0 [wX12 (zcT C) aO sO] 30 [] [.int y0] := by
  unfold fX12_wrongPoint_30 at h
  cases h
  exact z_iret X hQ dX12_wrongPoint_30 rfl [0] rfl (by decide) (by decide)
theorem bX12_wrongPoint_0 {C : zCtx} (X : zFx C cX12_wrongPoint 2 RX12 rmX12_wrongPoint (some .int)) {aO : Nat → Nat} {sO : zSt} {x1 : Int32} {out : Int32 × zSt} (hQ : zHi C out.1 [wX12 (zcT C) aO out.2] 0 0) (h : fX12_wrongPoint sO x1 = some out) : zG C 2 [0] 0 0 [wX12 (zcT C) aO sO] 0 [(0, .ref (aO 0)), (1, .int x1)] [] := by
  unfold fX12_wrongPoint at h
  refine z_aload_n X dX12_wrongPoint_0 0 rfl ?_
  obtain ⟨o1, ho1, h⟩ := zbind_of h
  refine z_callVv (st := []) (ws2 := [wX12 (zcT C) aO o1]) X (metX12_looksNow (zcl C) (zcD C) (zcT C) aO ho1) zmX12_looksNow zw1792 dX12_wrongPoint_1 0 0 13 rfl rfl rfl rfl [0] rfl rfl [0] rfl (by decide) ⟨zsX12 , trivial⟩ rfl rfl rfl (Nat.le_of_ble_eq_true rfl) rfl rfl ⟨Nat.le_of_ble_eq_true rfl, Nat.le_of_ble_eq_true rfl⟩ ⟨Nat.le_of_ble_eq_true rfl, Nat.le_of_ble_eq_true rfl⟩ ?_
  refine z_aload_n X dX12_wrongPoint_4 0 rfl ?_
  refine z_iload_n X dX12_wrongPoint_5 1 rfl ?_
  obtain ⟨o6, ho6, h⟩ := zbind_of h
  refine z_callVi (st := []) (ws2 := [wX12 (zcT C) aO o1]) X (metX12_isVariable (zcl C) (zcD C) (zcT C) aO ho6) zmX12_isVariable zw1472 dX12_wrongPoint_6 0 0 13 rfl rfl rfl rfl [0] rfl rfl [] rfl (by decide) trivial rfl rfl rfl (Nat.le_of_ble_eq_true rfl) rfl rfl ⟨Nat.le_of_ble_eq_true rfl, Nat.le_of_ble_eq_true rfl⟩ ⟨Nat.le_of_ble_eq_true rfl, Nat.le_of_ble_eq_true rfl⟩ ?_
  refine z_if_ne (tgt := 16) X dX12_wrongPoint_9 (by decide) (fun c9 => ?_) (fun c9 => ?_)
  · replace h := zif_f h c9
    refine z_aload_n X dX12_wrongPoint_16 0 rfl ?_
    refine z_get (v := .int (zgi o1 36)) X 0 0 13 36 ziX12 rfl (by decide) zw1372 rfl dX12_wrongPoint_17 rfl rfl rfl ?_
    refine z_bipush (v := (111 : Int32)) X dX12_wrongPoint_20 rfl ?_
    refine z_icmp_eq (tgt := 29) X dX12_wrongPoint_22 (by decide) (fun c22 => ?_) (fun c22 => ?_)
    · replace h := zif_t h c22
      refine z_iconst (v := (0 : Int32)) X dX12_wrongPoint_29 rfl ?_
      exact z_at (pc2 := 30) (lv2 := []) (st2 := [.int (0 : Int32)]) (ws2 := [wX12 (zcT C) aO o1]) rfl rfl rfl [] rfl (bX12_wrongPoint_30 X hQ  h)
    · replace h := zif_f h c22
      refine z_iconst (v := (2 : Int32)) X dX12_wrongPoint_25 rfl ?_
      refine z_goto (tgt := 30) X dX12_wrongPoint_26 (by decide) ?_
      exact z_at (pc2 := 30) (lv2 := []) (st2 := [.int (2 : Int32)]) (ws2 := [wX12 (zcT C) aO o1]) rfl rfl rfl [] rfl (bX12_wrongPoint_30 X hQ  h)
  · replace h := zif_t h c9
    refine z_iconst (v := (1 : Int32)) X dX12_wrongPoint_12 rfl ?_
    refine z_goto (tgt := 30) X dX12_wrongPoint_13 (by decide) ?_
    exact z_at (pc2 := 30) (lv2 := []) (st2 := [.int (1 : Int32)]) (ws2 := [wX12 (zcT C) aO o1]) rfl rfl rfl [] rfl (bX12_wrongPoint_30 X hQ  h)
theorem metX12_wrongPoint (l : Launch) (D : va_G) (T : Nat → ClassId) (aO : Nat → Nat) {sO : zSt} {x1 : Int32} {out : Int32 × zSt} (hf : fX12_wrongPoint sO x1 = some out) (sz : Nat) : Met l yX12_wrongPoint (zws yX12_wrongPoint cX12_wrongPoint 2 (some .int)) rmX12_wrongPoint (zPc D T [.ref (aO 0), .int x1] [wX12 T aO sO] sz) (zQi D out.1 [wX12 T aO out.2] (zA [wX12 T aO sO] sz)) 0 0 (zA [wX12 T aO sO] sz) :=
  zMet (D := D) (T := T) (av := [.ref (aO 0), .int x1]) (ws := fun T => [wX12 T aO sO]) (wm := fun T => [wX12 T aO sO]) (lv0 := [(0, .ref (aO 0)), (1, .int x1)]) [0] (Qc := fun D T A => zQi D out.1 [wX12 T aO out.2] A) (by decide +kernel) rfl (Nat.le_of_ble_eq_true rfl) rfl (fun C X hQ => bX12_wrongPoint_0 X hQ hf) sz
/-- public long pointTop(int); of TableaufloorModel -/
abbrev rmX12_pointTop : Room := { frames := 7, cells := 0, slots := 0, locals := 168 }
def fX12_pointTop_59 (sO : zSt) (y0 : Int64) : Option (Int64 × zSt) :=
  some (y0, sO)
def fX12_pointTop (sO : zSt) (x1 : Int32) : Option (Int64 × zSt) :=
  ((fX12_wrongPoint sO x1).bind (fun o3 =>
    (zlet (zsi o3.2 9 o3.1) (fun sO6 =>
    (if (zgi sO6 9) ≤ 0 then
    (if zin (((3 : Int32) * (zgi sO6 35)) + x1) 1800 = true then
      (if zin (((3 : Int32) * (zgi sO6 35)) + x1) 1800 = true then
      (if zin (zgi sO6 35) 600 = true then
      ((fX12_divisor (zgb sO6 21 ((((3 : Int32) * (zgi sO6 35)) + x1)).toNatClampNeg) (zgb sO6 22 ((zgi sO6 35)).toNatClampNeg)).bind (fun o55 =>
      (if o55 = 0 then none else
      (fX12_pointTop_59 sO6 ((zgb sO6 21 ((((3 : Int32) * (zgi sO6 35)) + x1)).toNatClampNeg) / o55))))) else none) else none) else none)
  else
    (fX12_pointTop_59 sO6 (0 : Int64)))))))
theorem bX12_pointTop_59 {C : zCtx} (X : zFx C cX12_pointTop 2 RX12 rmX12_pointTop (some .long)) {aO : Nat → Nat} {sO : zSt} {y0 : Int64} {out : Int64 × zSt} (hQ : zHl C out.1 [wX12 (zcT C) aO out.2] 0 0) (h : fX12_pointTop_59 sO y0 = some out) : zG C 2 [0] 0 0 [wX12 (zcT C) aO sO] 59 [] [.long y0] := by
  unfold fX12_pointTop_59 at h
  cases h
  exact z_lret X hQ dX12_pointTop_59 rfl [0] rfl (by decide) (by decide)
theorem bX12_pointTop_0 {C : zCtx} (X : zFx C cX12_pointTop 2 RX12 rmX12_pointTop (some .long)) {aO : Nat → Nat} {sO : zSt} {x1 : Int32} {out : Int64 × zSt} (hQ : zHl C out.1 [wX12 (zcT C) aO out.2] 0 0) (h : fX12_pointTop sO x1 = some out) : zG C 2 [0] 0 0 [wX12 (zcT C) aO sO] 0 [(0, .ref (aO 0)), (1, .int x1)] [] := by
  unfold fX12_pointTop at h
  refine z_aload_n X dX12_pointTop_0 0 rfl ?_
  refine z_aload_n X dX12_pointTop_1 0 rfl ?_
  refine z_iload_n X dX12_pointTop_2 1 rfl ?_
  obtain ⟨o3, ho3, h⟩ := zbind_of h
  refine z_callVi (st := [.ref (aO 0)]) (ws2 := [wX12 (zcT C) aO o3.2]) X (metX12_wrongPoint (zcl C) (zcD C) (zcT C) aO ho3) zmX12_wrongPoint zw1892 dX12_pointTop_3 0 0 13 rfl rfl rfl rfl [0] rfl rfl [0] rfl (by decide) ⟨zsX12 , trivial⟩ rfl rfl rfl (Nat.le_of_ble_eq_true rfl) rfl rfl ⟨Nat.le_of_ble_eq_true rfl, Nat.le_of_ble_eq_true rfl⟩ ⟨Nat.le_of_ble_eq_true rfl, Nat.le_of_ble_eq_true rfl⟩ ?_
  obtain ⟨sO6, esO6, h⟩ := zlet_of h
  refine z_put (ws2 := [wX12 (zcT C) aO sO6]) X 0 0 13 9 ziX12 rfl tyX12 tyX12_ok nmX12 (by decide) zw1345 rfl rfl (ty := .int) (by decide +kernel) rfl rfl (by show 9 < 40; decide) dX12_pointTop_6 rfl rfl (by decide) (w2 := wX12 (zcT C) aO sO6) (by rw [esO6]; rfl) rfl ?_
  refine z_aload_n X dX12_pointTop_9 0 rfl ?_
  refine z_get (v := .int (zgi sO6 9)) X 0 0 13 9 ziX12 rfl (by decide) zw1345 rfl dX12_pointTop_10 rfl rfl rfl ?_
  refine z_if_le (tgt := 20) X dX12_pointTop_13 (by decide) (fun c13 => ?_) (fun c13 => ?_)
  · replace h := zif_t h c13
    refine z_aload_n X dX12_pointTop_20 0 rfl ?_
    refine z_get (v := .ref (aO 22)) X 0 0 13 21 ziX12 rfl (by decide) zw1357 rfl dX12_pointTop_21 rfl rfl rfl ?_
    refine z_iconst (v := (3 : Int32)) X dX12_pointTop_24 rfl ?_
    refine z_aload_n X dX12_pointTop_25 0 rfl ?_
    refine z_get (v := .int (zgi sO6 35)) X 0 0 13 35 ziX12 rfl (by decide) zw1371 rfl dX12_pointTop_26 rfl rfl rfl ?_
    refine z_imul X dX12_pointTop_29 ?_
    refine z_iload_n X dX12_pointTop_30 1 rfl ?_
    refine z_iadd X dX12_pointTop_31 ?_
    obtain ⟨g32, h⟩ := zgd_of h
    refine z_lald X 0 13 g32 dX12_pointTop_32 rfl rfl ?_
    refine z_aload_n X dX12_pointTop_33 0 rfl ?_
    refine z_get (v := .ref (aO 22)) X 0 0 13 21 ziX12 rfl (by decide) zw1357 rfl dX12_pointTop_34 rfl rfl rfl ?_
    refine z_iconst (v := (3 : Int32)) X dX12_pointTop_37 rfl ?_
    refine z_aload_n X dX12_pointTop_38 0 rfl ?_
    refine z_get (v := .int (zgi sO6 35)) X 0 0 13 35 ziX12 rfl (by decide) zw1371 rfl dX12_pointTop_39 rfl rfl rfl ?_
    refine z_imul X dX12_pointTop_42 ?_
    refine z_iload_n X dX12_pointTop_43 1 rfl ?_
    refine z_iadd X dX12_pointTop_44 ?_
    obtain ⟨g45, h⟩ := zgd_of h
    refine z_lald X 0 13 g45 dX12_pointTop_45 rfl rfl ?_
    refine z_aload_n X dX12_pointTop_46 0 rfl ?_
    refine z_get (v := .ref (aO 23)) X 0 0 13 22 ziX12 rfl (by decide) zw1358 rfl dX12_pointTop_47 rfl rfl rfl ?_
    refine z_aload_n X dX12_pointTop_50 0 rfl ?_
    refine z_get (v := .int (zgi sO6 35)) X 0 0 13 35 ziX12 rfl (by decide) zw1371 rfl dX12_pointTop_51 rfl rfl rfl ?_
    obtain ⟨g54, h⟩ := zgd_of h
    refine z_lald X 0 14 g54 dX12_pointTop_54 rfl rfl ?_
    obtain ⟨o55, ho55, h⟩ := zbind_of h
    refine z_callSl (st := [.long (zgb sO6 21 ((((3 : Int32) * (zgi sO6 35)) + x1)).toNatClampNeg)]) (ws2 := [wX12 (zcT C) aO sO6]) X (metX12_divisor (zcl C) (zcD C) (zcT C)  ho55) zmX12_divisor zw1857 dX12_pointTop_55 [] rfl rfl [] rfl (by decide) trivial rfl rfl rfl (Nat.le_of_ble_eq_true rfl) rfl rfl ⟨Nat.le_of_ble_eq_true rfl, Nat.le_of_ble_eq_true rfl⟩ ⟨Nat.le_of_ble_eq_true rfl, Nat.le_of_ble_eq_true rfl⟩ ?_
    have g58 : ¬ o55 = 0 := fun e => by rw [if_pos e] at h; exact zno h
    replace h := zif_f h g58
    refine z_ldiv X dX12_pointTop_58 g58 ?_
    exact z_at (pc2 := 59) (lv2 := []) (st2 := [.long ((zgb sO6 21 ((((3 : Int32) * (zgi sO6 35)) + x1)).toNatClampNeg) / o55)]) (ws2 := [wX12 (zcT C) aO sO6]) rfl rfl rfl [] rfl (bX12_pointTop_59 X hQ  h)
  · replace h := zif_f h c13
    refine z_lconst (v := (0 : Int64)) X dX12_pointTop_16 rfl ?_
    refine z_goto (tgt := 59) X dX12_pointTop_17 (by decide) ?_
    exact z_at (pc2 := 59) (lv2 := []) (st2 := [.long (0 : Int64)]) (ws2 := [wX12 (zcT C) aO sO6]) rfl rfl rfl [] rfl (bX12_pointTop_59 X hQ  h)
theorem metX12_pointTop (l : Launch) (D : va_G) (T : Nat → ClassId) (aO : Nat → Nat) {sO : zSt} {x1 : Int32} {out : Int64 × zSt} (hf : fX12_pointTop sO x1 = some out) (sz : Nat) : Met l yX12_pointTop (zws yX12_pointTop cX12_pointTop 2 (some .long)) rmX12_pointTop (zPc D T [.ref (aO 0), .int x1] [wX12 T aO sO] sz) (zQl D out.1 [wX12 T aO out.2] (zA [wX12 T aO sO] sz)) 0 0 (zA [wX12 T aO sO] sz) :=
  zMet (D := D) (T := T) (av := [.ref (aO 0), .int x1]) (ws := fun T => [wX12 T aO sO]) (wm := fun T => [wX12 T aO sO]) (lv0 := [(0, .ref (aO 0)), (1, .int x1)]) [0] (Qc := fun D T A => zQl D out.1 [wX12 T aO out.2] A) (by decide +kernel) rfl (Nat.le_of_ble_eq_true rfl) rfl (fun C X hQ => bX12_pointTop_0 X hQ hf) sz
/-- public long pointBottom(int); of TableaufloorModel -/
abbrev rmX12_pointBottom : Room := { frames := 7, cells := 0, slots := 0, locals := 168 }
def fX12_pointBottom_55 (sO : zSt) (y0 : Int64) : Option (Int64 × zSt) :=
  some (y0, sO)
def fX12_pointBottom (sO : zSt) (x1 : Int32) : Option (Int64 × zSt) :=
  ((fX12_wrongPoint sO x1).bind (fun o3 =>
    (zlet (zsi o3.2 9 o3.1) (fun sO6 =>
    (if (zgi sO6 9) ≤ 0 then
    (if zin (zgi sO6 35) 600 = true then
      (if zin (((3 : Int32) * (zgi sO6 35)) + x1) 1800 = true then
      (if zin (zgi sO6 35) 600 = true then
      ((fX12_divisor (zgb sO6 21 ((((3 : Int32) * (zgi sO6 35)) + x1)).toNatClampNeg) (zgb sO6 22 ((zgi sO6 35)).toNatClampNeg)).bind (fun o51 =>
      (if o51 = 0 then none else
      (fX12_pointBottom_55 sO6 ((zgb sO6 22 ((zgi sO6 35)).toNatClampNeg) / o51))))) else none) else none) else none)
  else
    (fX12_pointBottom_55 sO6 (0 : Int64)))))))
theorem bX12_pointBottom_55 {C : zCtx} (X : zFx C cX12_pointBottom 2 RX12 rmX12_pointBottom (some .long)) {aO : Nat → Nat} {sO : zSt} {y0 : Int64} {out : Int64 × zSt} (hQ : zHl C out.1 [wX12 (zcT C) aO out.2] 0 0) (h : fX12_pointBottom_55 sO y0 = some out) : zG C 2 [0] 0 0 [wX12 (zcT C) aO sO] 55 [] [.long y0] := by
  unfold fX12_pointBottom_55 at h
  cases h
  exact z_lret X hQ dX12_pointBottom_55 rfl [0] rfl (by decide) (by decide)
theorem bX12_pointBottom_0 {C : zCtx} (X : zFx C cX12_pointBottom 2 RX12 rmX12_pointBottom (some .long)) {aO : Nat → Nat} {sO : zSt} {x1 : Int32} {out : Int64 × zSt} (hQ : zHl C out.1 [wX12 (zcT C) aO out.2] 0 0) (h : fX12_pointBottom sO x1 = some out) : zG C 2 [0] 0 0 [wX12 (zcT C) aO sO] 0 [(0, .ref (aO 0)), (1, .int x1)] [] := by
  unfold fX12_pointBottom at h
  refine z_aload_n X dX12_pointBottom_0 0 rfl ?_
  refine z_aload_n X dX12_pointBottom_1 0 rfl ?_
  refine z_iload_n X dX12_pointBottom_2 1 rfl ?_
  obtain ⟨o3, ho3, h⟩ := zbind_of h
  refine z_callVi (st := [.ref (aO 0)]) (ws2 := [wX12 (zcT C) aO o3.2]) X (metX12_wrongPoint (zcl C) (zcD C) (zcT C) aO ho3) zmX12_wrongPoint zw1892 dX12_pointBottom_3 0 0 13 rfl rfl rfl rfl [0] rfl rfl [0] rfl (by decide) ⟨zsX12 , trivial⟩ rfl rfl rfl (Nat.le_of_ble_eq_true rfl) rfl rfl ⟨Nat.le_of_ble_eq_true rfl, Nat.le_of_ble_eq_true rfl⟩ ⟨Nat.le_of_ble_eq_true rfl, Nat.le_of_ble_eq_true rfl⟩ ?_
  obtain ⟨sO6, esO6, h⟩ := zlet_of h
  refine z_put (ws2 := [wX12 (zcT C) aO sO6]) X 0 0 13 9 ziX12 rfl tyX12 tyX12_ok nmX12 (by decide) zw1345 rfl rfl (ty := .int) (by decide +kernel) rfl rfl (by show 9 < 40; decide) dX12_pointBottom_6 rfl rfl (by decide) (w2 := wX12 (zcT C) aO sO6) (by rw [esO6]; rfl) rfl ?_
  refine z_aload_n X dX12_pointBottom_9 0 rfl ?_
  refine z_get (v := .int (zgi sO6 9)) X 0 0 13 9 ziX12 rfl (by decide) zw1345 rfl dX12_pointBottom_10 rfl rfl rfl ?_
  refine z_if_le (tgt := 20) X dX12_pointBottom_13 (by decide) (fun c13 => ?_) (fun c13 => ?_)
  · replace h := zif_t h c13
    refine z_aload_n X dX12_pointBottom_20 0 rfl ?_
    refine z_get (v := .ref (aO 23)) X 0 0 13 22 ziX12 rfl (by decide) zw1358 rfl dX12_pointBottom_21 rfl rfl rfl ?_
    refine z_aload_n X dX12_pointBottom_24 0 rfl ?_
    refine z_get (v := .int (zgi sO6 35)) X 0 0 13 35 ziX12 rfl (by decide) zw1371 rfl dX12_pointBottom_25 rfl rfl rfl ?_
    obtain ⟨g28, h⟩ := zgd_of h
    refine z_lald X 0 14 g28 dX12_pointBottom_28 rfl rfl ?_
    refine z_aload_n X dX12_pointBottom_29 0 rfl ?_
    refine z_get (v := .ref (aO 22)) X 0 0 13 21 ziX12 rfl (by decide) zw1357 rfl dX12_pointBottom_30 rfl rfl rfl ?_
    refine z_iconst (v := (3 : Int32)) X dX12_pointBottom_33 rfl ?_
    refine z_aload_n X dX12_pointBottom_34 0 rfl ?_
    refine z_get (v := .int (zgi sO6 35)) X 0 0 13 35 ziX12 rfl (by decide) zw1371 rfl dX12_pointBottom_35 rfl rfl rfl ?_
    refine z_imul X dX12_pointBottom_38 ?_
    refine z_iload_n X dX12_pointBottom_39 1 rfl ?_
    refine z_iadd X dX12_pointBottom_40 ?_
    obtain ⟨g41, h⟩ := zgd_of h
    refine z_lald X 0 13 g41 dX12_pointBottom_41 rfl rfl ?_
    refine z_aload_n X dX12_pointBottom_42 0 rfl ?_
    refine z_get (v := .ref (aO 23)) X 0 0 13 22 ziX12 rfl (by decide) zw1358 rfl dX12_pointBottom_43 rfl rfl rfl ?_
    refine z_aload_n X dX12_pointBottom_46 0 rfl ?_
    refine z_get (v := .int (zgi sO6 35)) X 0 0 13 35 ziX12 rfl (by decide) zw1371 rfl dX12_pointBottom_47 rfl rfl rfl ?_
    obtain ⟨g50, h⟩ := zgd_of h
    refine z_lald X 0 14 g50 dX12_pointBottom_50 rfl rfl ?_
    obtain ⟨o51, ho51, h⟩ := zbind_of h
    refine z_callSl (st := [.long (zgb sO6 22 ((zgi sO6 35)).toNatClampNeg)]) (ws2 := [wX12 (zcT C) aO sO6]) X (metX12_divisor (zcl C) (zcD C) (zcT C)  ho51) zmX12_divisor zw1857 dX12_pointBottom_51 [] rfl rfl [] rfl (by decide) trivial rfl rfl rfl (Nat.le_of_ble_eq_true rfl) rfl rfl ⟨Nat.le_of_ble_eq_true rfl, Nat.le_of_ble_eq_true rfl⟩ ⟨Nat.le_of_ble_eq_true rfl, Nat.le_of_ble_eq_true rfl⟩ ?_
    have g54 : ¬ o51 = 0 := fun e => by rw [if_pos e] at h; exact zno h
    replace h := zif_f h g54
    refine z_ldiv X dX12_pointBottom_54 g54 ?_
    exact z_at (pc2 := 55) (lv2 := []) (st2 := [.long ((zgb sO6 22 ((zgi sO6 35)).toNatClampNeg) / o51)]) (ws2 := [wX12 (zcT C) aO sO6]) rfl rfl rfl [] rfl (bX12_pointBottom_55 X hQ  h)
  · replace h := zif_f h c13
    refine z_lconst (v := (0 : Int64)) X dX12_pointBottom_16 rfl ?_
    refine z_goto (tgt := 55) X dX12_pointBottom_17 (by decide) ?_
    exact z_at (pc2 := 55) (lv2 := []) (st2 := [.long (0 : Int64)]) (ws2 := [wX12 (zcT C) aO sO6]) rfl rfl rfl [] rfl (bX12_pointBottom_55 X hQ  h)
theorem metX12_pointBottom (l : Launch) (D : va_G) (T : Nat → ClassId) (aO : Nat → Nat) {sO : zSt} {x1 : Int32} {out : Int64 × zSt} (hf : fX12_pointBottom sO x1 = some out) (sz : Nat) : Met l yX12_pointBottom (zws yX12_pointBottom cX12_pointBottom 2 (some .long)) rmX12_pointBottom (zPc D T [.ref (aO 0), .int x1] [wX12 T aO sO] sz) (zQl D out.1 [wX12 T aO out.2] (zA [wX12 T aO sO] sz)) 0 0 (zA [wX12 T aO sO] sz) :=
  zMet (D := D) (T := T) (av := [.ref (aO 0), .int x1]) (ws := fun T => [wX12 T aO sO]) (wm := fun T => [wX12 T aO sO]) (lv0 := [(0, .ref (aO 0)), (1, .int x1)]) [0] (Qc := fun D T A => zQl D out.1 [wX12 T aO out.2] A) (by decide +kernel) rfl (Nat.le_of_ble_eq_true rfl) rfl (fun C X hQ => bX12_pointBottom_0 X hQ hf) sz
/-- private boolean isRowTight(int); of TableaufloorModel -/
abbrev rmX12_isRowTight : Room := { frames := 0, cells := 0, slots := 0, locals := 0 }
def fX12_isRowTight_74 (sO : zSt) (y0 : Int32) : Option (Int32) :=
  (if znar .boolean y0 = true then
    some (y0) else none)
def fX12_isRowTight_5 (sO : zSt) : Nat → Int32 → Int64 → Int32 → Option (Int32)
  | 0, _, _, _ => none
  | n + 1, x1, x2, x4 =>
    (if (3 : Int32) ≤ x4 then
      (if zin x1 12 = true then
        (if zin (zgi sO 35) 600 = true then
        (if x2 = ((((zga sO 4 (x1).toNatClampNeg)).toInt64) * (zgb sO 22 ((zgi sO 35)).toNatClampNeg)) then
        (fX12_isRowTight_74 sO (1 : Int32))
      else
        (fX12_isRowTight_74 sO (0 : Int32))) else none) else none)
    else
      (if zin (((3 : Int32) * x1) + x4) 36 = true then
        (if zin (((3 : Int32) * (zgi sO 35)) + x4) 1800 = true then
        (zlet (x2 + ((((zga sO 2 ((((3 : Int32) * x1) + x4)).toNatClampNeg)).toInt64) * (zgb sO 21 ((((3 : Int32) * (zgi sO 35)) + x4)).toNatClampNeg))) (fun v40 =>
        (zlet (x4 + 1) (fun v41 =>
        (fX12_isRowTight_5 sO n x1 v40 v41))))) else none) else none))
def fX12_isRowTight (sO : zSt) (x1 : Int32) : Option (Int32) :=
  (fX12_isRowTight_5 sO 6000 x1 (0 : Int64) (0 : Int32))
theorem bX12_isRowTight_74 {C : zCtx} (X : zFx C cX12_isRowTight 5 RX12 rmX12_isRowTight (some .boolean)) {aO : Nat → Nat} {sO : zSt} {y0 : Int32} {out : Int32} (hQ : zHi C out [] 0 0) (h : fX12_isRowTight_74 sO y0 = some out) : zG C 5 [] 0 0 [wX12 (zcT C) aO sO] 74 [] [.int y0] := by
  unfold fX12_isRowTight_74 at h
  obtain ⟨g74, h⟩ := zgd_of h
  cases h
  exact z_nret X hQ g74 dX12_isRowTight_74 rfl [] rfl (by decide) (by decide)
theorem bX12_isRowTight_5 {C : zCtx} (X : zFx C cX12_isRowTight 5 RX12 rmX12_isRowTight (some .boolean)) {aO : Nat → Nat} {sO : zSt} {out : Int32} (hQ : zHi C out [] 0 0) : ∀ (n : Nat) (x1 : Int32) (x2 : Int64) (x4 : Int32), fX12_isRowTight_5 sO n x1 x2 x4 = some out → zG C 5 [] 0 0 [wX12 (zcT C) aO sO] 5 [(0, .ref (aO 0)), (1, .int x1), (2, .long x2), (4, .int x4)] [] := by
  intro n
  induction n with
  | zero =>
    intro x1 x2 x4 h
    rw [fX12_isRowTight_5] at h
    exact zno h
  | succ n ih =>
    intro x1 x2 x4 h
    rw [fX12_isRowTight_5] at h
    refine z_iload X dX12_isRowTight_5 3 rfl ?_
    refine z_iconst (v := (3 : Int32)) X dX12_isRowTight_7 rfl ?_
    refine z_icmp_ge (tgt := 47) X dX12_isRowTight_8 (by decide) (fun c8 => ?_) (fun c8 => ?_)
    · replace h := zif_t h c8
      refine z_lload_n X dX12_isRowTight_47 2 rfl ?_
      refine z_aload_n X dX12_isRowTight_48 0 rfl ?_
      refine z_get (v := .ref (aO 5)) X 0 0 13 4 ziX12 rfl (by decide) zw1340 rfl dX12_isRowTight_49 rfl rfl rfl ?_
      refine z_iload_n X dX12_isRowTight_52 1 rfl ?_
      obtain ⟨g53, h⟩ := zgd_of h
      refine z_iald X 0 5 g53 dX12_isRowTight_53 rfl rfl ?_
      refine z_i2l X dX12_isRowTight_54 ?_
      refine z_aload_n X dX12_isRowTight_55 0 rfl ?_
      refine z_get (v := .ref (aO 23)) X 0 0 13 22 ziX12 rfl (by decide) zw1358 rfl dX12_isRowTight_56 rfl rfl rfl ?_
      refine z_aload_n X dX12_isRowTight_59 0 rfl ?_
      refine z_get (v := .int (zgi sO 35)) X 0 0 13 35 ziX12 rfl (by decide) zw1371 rfl dX12_isRowTight_60 rfl rfl rfl ?_
      obtain ⟨g63, h⟩ := zgd_of h
      refine z_lald X 0 14 g63 dX12_isRowTight_63 rfl rfl ?_
      refine z_lmul X dX12_isRowTight_64 ?_
      refine z_lcmp_ne (tgt := 73) X dX12_isRowTight_65 dX12_isRowTight_66 (by decide) (fun c65 => ?_) (fun c65 => ?_)
      · replace h := zif_f h c65
        refine z_iconst (v := (0 : Int32)) X dX12_isRowTight_73 rfl ?_
        exact z_at (pc2 := 74) (lv2 := []) (st2 := [.int (0 : Int32)]) (ws2 := [wX12 (zcT C) aO sO]) rfl rfl rfl [] rfl (bX12_isRowTight_74 X hQ  h)
      · replace h := zif_t h c65
        refine z_iconst (v := (1 : Int32)) X dX12_isRowTight_69 rfl ?_
        refine z_goto (tgt := 74) X dX12_isRowTight_70 (by decide) ?_
        exact z_at (pc2 := 74) (lv2 := []) (st2 := [.int (1 : Int32)]) (ws2 := [wX12 (zcT C) aO sO]) rfl rfl rfl [] rfl (bX12_isRowTight_74 X hQ  h)
    · replace h := zif_f h c8
      refine z_lload_n X dX12_isRowTight_11 2 rfl ?_
      refine z_aload_n X dX12_isRowTight_12 0 rfl ?_
      refine z_get (v := .ref (aO 3)) X 0 0 13 2 ziX12 rfl (by decide) zw1338 rfl dX12_isRowTight_13 rfl rfl rfl ?_
      refine z_iconst (v := (3 : Int32)) X dX12_isRowTight_16 rfl ?_
      refine z_iload_n X dX12_isRowTight_17 1 rfl ?_
      refine z_imul X dX12_isRowTight_18 ?_
      refine z_iload X dX12_isRowTight_19 3 rfl ?_
      refine z_iadd X dX12_isRowTight_21 ?_
      obtain ⟨g22, h⟩ := zgd_of h
      refine z_iald X 0 3 g22 dX12_isRowTight_22 rfl rfl ?_
      refine z_i2l X dX12_isRowTight_23 ?_
      refine z_aload_n X dX12_isRowTight_24 0 rfl ?_
      refine z_get (v := .ref (aO 22)) X 0 0 13 21 ziX12 rfl (by decide) zw1357 rfl dX12_isRowTight_25 rfl rfl rfl ?_
      refine z_iconst (v := (3 : Int32)) X dX12_isRowTight_28 rfl ?_
      refine z_aload_n X dX12_isRowTight_29 0 rfl ?_
      refine z_get (v := .int (zgi sO 35)) X 0 0 13 35 ziX12 rfl (by decide) zw1371 rfl dX12_isRowTight_30 rfl rfl rfl ?_
      refine z_imul X dX12_isRowTight_33 ?_
      refine z_iload X dX12_isRowTight_34 3 rfl ?_
      refine z_iadd X dX12_isRowTight_36 ?_
      obtain ⟨g37, h⟩ := zgd_of h
      refine z_lald X 0 13 g37 dX12_isRowTight_37 rfl rfl ?_
      refine z_lmul X dX12_isRowTight_38 ?_
      refine z_ladd X dX12_isRowTight_39 ?_
      obtain ⟨v40, ev40, h⟩ := zlet_of h
      refine z_topl ev40 ?_
      refine z_lstore_n (lv2 := [(2, .long v40), (0, .ref (aO 0)), (1, .int x1), (4, .int x4)]) X dX12_isRowTight_40 rfl (by decide) rfl ?_
      obtain ⟨v41, ev41, h⟩ := zlet_of h
      refine z_iinc (v := v41) (lv2 := [(4, .int v41), (2, .long v40), (0, .ref (aO 0)), (1, .int x1)]) X dX12_isRowTight_41 (k := 3) rfl (by rw [ev41]; rfl) (by decide) rfl ?_
      refine z_goto (tgt := 5) X dX12_isRowTight_44 (by decide) ?_
      exact z_at (pc2 := 5) (lv2 := [(0, .ref (aO 0)), (1, .int x1), (2, .long v40), (4, .int v41)]) (st2 := []) (ws2 := [wX12 (zcT C) aO sO]) rfl rfl rfl [2, 3, 1, 0] rfl (ih x1 v40 v41 h)
theorem bX12_isRowTight_0 {C : zCtx} (X : zFx C cX12_isRowTight 5 RX12 rmX12_isRowTight (some .boolean)) {aO : Nat → Nat} {sO : zSt} {x1 : Int32} {out : Int32} (hQ : zHi C out [] 0 0) (h : fX12_isRowTight sO x1 = some out) : zG C 5 [] 0 0 [wX12 (zcT C) aO sO] 0 [(0, .ref (aO 0)), (1, .int x1)] [] := by
  unfold fX12_isRowTight at h
  refine z_lconst (v := (0 : Int64)) X dX12_isRowTight_0 rfl ?_
  refine z_lstore_n (lv2 := [(2, .long (0 : Int64)), (0, .ref (aO 0)), (1, .int x1)]) X dX12_isRowTight_1 rfl (by decide) rfl ?_
  refine z_iconst (v := (0 : Int32)) X dX12_isRowTight_2 rfl ?_
  refine z_istore (lv2 := [(4, .int (0 : Int32)), (2, .long (0 : Int64)), (0, .ref (aO 0)), (1, .int x1)]) X dX12_isRowTight_3 (by decide) rfl ?_
  exact z_at (pc2 := 5) (lv2 := [(0, .ref (aO 0)), (1, .int x1), (2, .long (0 : Int64)), (4, .int (0 : Int32))]) (st2 := []) (ws2 := [wX12 (zcT C) aO sO]) rfl rfl rfl [2, 3, 1, 0] rfl (bX12_isRowTight_5 X hQ  6000 x1 (0 : Int64) (0 : Int32) h)
theorem metX12_isRowTight (l : Launch) (D : va_G) (T : Nat → ClassId) (aO : Nat → Nat) {sO : zSt} {x1 : Int32} {out : Int32} (hf : fX12_isRowTight sO x1 = some out) (sz : Nat) : Met l yX12_isRowTight (zws yX12_isRowTight cX12_isRowTight 5 (some .boolean)) rmX12_isRowTight (zPc D T [.ref (aO 0), .int x1] [wX12 T aO sO] sz) (zQi D out [] (zA [] sz)) 0 0 (zA [] sz) :=
  zMet (D := D) (T := T) (av := [.ref (aO 0), .int x1]) (ws := fun T => [wX12 T aO sO]) (wm := fun T => []) (lv0 := [(0, .ref (aO 0)), (1, .int x1)]) [] (Qc := fun D T A => zQi D out [] A) (by decide +kernel) rfl (Nat.le_of_ble_eq_true rfl) rfl (fun C X hQ => bX12_isRowTight_0 X hQ hf) sz
/-- public boolean isTight(int); of TableaufloorModel -/
abbrev rmX12_isTight : Room := { frames := 6, cells := 0, slots := 0, locals := 147 }
def fX12_isTight_58 (sO : zSt) (y0 : Int32) : Option (Int32 × zSt) :=
  (if znar .boolean y0 = true then
    some (y0, sO) else none)
def fX12_isTight_57 (sO : zSt) : Option (Int32 × zSt) :=
  (fX12_isTight_58 sO (0 : Int32))
def fX12_isTight_38 (sO : zSt) (x1 : Int32) : Option (Int32 × zSt) :=
  (if (zgi sO 9) = 0 then
    ((fX12_isRowTight sO x1).bind (fun o47 =>
      (if o47 = 0 then
      (fX12_isTight_57 sO)
    else
      (fX12_isTight_58 sO (1 : Int32)))))
  else
    (fX12_isTight_57 sO))
def fX12_isTight_35 (sO : zSt) (x1 : Int32) (y1 : Int32) : Option (Int32 × zSt) :=
  (zlet (zsi sO 9 y1) (fun sO35 =>
    (fX12_isTight_38 sO35 x1)))
def fX12_isTight (sO : zSt) (x1 : Int32) : Option (Int32 × zSt) :=
  ((fX12_looksNow sO).bind (fun o1 =>
    ((fX12_wrongRow o1 x1).bind (fun o7 =>
    (zlet (zsi o1 9 o7) (fun sO10 =>
    (if (zgi sO10 9) = 0 then
    (if (zgi sO10 36) = (111 : Int32) then
      (fX12_isTight_35 sO10 x1 (0 : Int32))
    else
      (fX12_isTight_35 sO10 x1 (3 : Int32)))
  else
    (fX12_isTight_38 sO10 x1))))))))
theorem bX12_isTight_58 {C : zCtx} (X : zFx C cX12_isTight 2 RX12 rmX12_isTight (some .boolean)) {aO : Nat → Nat} {sO : zSt} {y0 : Int32} {out : Int32 × zSt} (hQ : zHi C out.1 [wX12 (zcT C) aO out.2] 0 0) (h : fX12_isTight_58 sO y0 = some out) : zG C 2 [0] 0 0 [wX12 (zcT C) aO sO] 58 [] [.int y0] := by
  unfold fX12_isTight_58 at h
  obtain ⟨g58, h⟩ := zgd_of h
  cases h
  exact z_nret X hQ g58 dX12_isTight_58 rfl [0] rfl (by decide) (by decide)
theorem bX12_isTight_57 {C : zCtx} (X : zFx C cX12_isTight 2 RX12 rmX12_isTight (some .boolean)) {aO : Nat → Nat} {sO : zSt} {out : Int32 × zSt} (hQ : zHi C out.1 [wX12 (zcT C) aO out.2] 0 0) (h : fX12_isTight_57 sO = some out) : zG C 2 [0] 0 0 [wX12 (zcT C) aO sO] 57 [] [] := by
  unfold fX12_isTight_57 at h
  refine z_iconst (v := (0 : Int32)) X dX12_isTight_57 rfl ?_
  exact z_at (pc2 := 58) (lv2 := []) (st2 := [.int (0 : Int32)]) (ws2 := [wX12 (zcT C) aO sO]) rfl rfl rfl [] rfl (bX12_isTight_58 X hQ  h)
theorem bX12_isTight_38 {C : zCtx} (X : zFx C cX12_isTight 2 RX12 rmX12_isTight (some .boolean)) {aO : Nat → Nat} {sO : zSt} {x1 : Int32} {out : Int32 × zSt} (hQ : zHi C out.1 [wX12 (zcT C) aO out.2] 0 0) (h : fX12_isTight_38 sO x1 = some out) : zG C 2 [0] 0 0 [wX12 (zcT C) aO sO] 38 [(0, .ref (aO 0)), (1, .int x1)] [] := by
  unfold fX12_isTight_38 at h
  refine z_aload_n X dX12_isTight_38 0 rfl ?_
  refine z_get (v := .int (zgi sO 9)) X 0 0 13 9 ziX12 rfl (by decide) zw1345 rfl dX12_isTight_39 rfl rfl rfl ?_
  refine z_if_ne (tgt := 57) X dX12_isTight_42 (by decide) (fun c42 => ?_) (fun c42 => ?_)
  · replace h := zif_f h c42
    exact z_at (pc2 := 57) (lv2 := []) (st2 := []) (ws2 := [wX12 (zcT C) aO sO]) rfl rfl rfl [] rfl (bX12_isTight_57 X hQ  h)
  · replace h := zif_t h c42
    refine z_aload_n X dX12_isTight_45 0 rfl ?_
    refine z_iload_n X dX12_isTight_46 1 rfl ?_
    obtain ⟨o47, ho47, h⟩ := zbind_of h
    refine z_callVi (st := []) (ws2 := [wX12 (zcT C) aO sO]) X (metX12_isRowTight (zcl C) (zcD C) (zcT C) aO ho47) zmX12_isRowTight zw1904 dX12_isTight_47 0 0 13 rfl rfl rfl rfl [0] rfl rfl [] rfl (by decide) trivial rfl rfl rfl (Nat.le_of_ble_eq_true rfl) rfl rfl ⟨Nat.le_of_ble_eq_true rfl, Nat.le_of_ble_eq_true rfl⟩ ⟨Nat.le_of_ble_eq_true rfl, Nat.le_of_ble_eq_true rfl⟩ ?_
    refine z_if_eq (tgt := 57) X dX12_isTight_50 (by decide) (fun c50 => ?_) (fun c50 => ?_)
    · replace h := zif_t h c50
      exact z_at (pc2 := 57) (lv2 := []) (st2 := []) (ws2 := [wX12 (zcT C) aO sO]) rfl rfl rfl [] rfl (bX12_isTight_57 X hQ  h)
    · replace h := zif_f h c50
      refine z_iconst (v := (1 : Int32)) X dX12_isTight_53 rfl ?_
      refine z_goto (tgt := 58) X dX12_isTight_54 (by decide) ?_
      exact z_at (pc2 := 58) (lv2 := []) (st2 := [.int (1 : Int32)]) (ws2 := [wX12 (zcT C) aO sO]) rfl rfl rfl [] rfl (bX12_isTight_58 X hQ  h)
theorem bX12_isTight_35 {C : zCtx} (X : zFx C cX12_isTight 2 RX12 rmX12_isTight (some .boolean)) {aO : Nat → Nat} {sO : zSt} {x1 : Int32} {y1 : Int32} {out : Int32 × zSt} (hQ : zHi C out.1 [wX12 (zcT C) aO out.2] 0 0) (h : fX12_isTight_35 sO x1 y1 = some out) : zG C 2 [0] 0 0 [wX12 (zcT C) aO sO] 35 [(0, .ref (aO 0)), (1, .int x1)] [.int y1, .ref (aO 0)] := by
  unfold fX12_isTight_35 at h
  obtain ⟨sO35, esO35, h⟩ := zlet_of h
  refine z_put (ws2 := [wX12 (zcT C) aO sO35]) X 0 0 13 9 ziX12 rfl tyX12 tyX12_ok nmX12 (by decide) zw1345 rfl rfl (ty := .int) (by decide +kernel) rfl rfl (by show 9 < 40; decide) dX12_isTight_35 rfl rfl (by decide) (w2 := wX12 (zcT C) aO sO35) (by rw [esO35]; rfl) rfl ?_
  exact z_at (pc2 := 38) (lv2 := [(0, .ref (aO 0)), (1, .int x1)]) (st2 := []) (ws2 := [wX12 (zcT C) aO sO35]) rfl rfl rfl [0, 1] rfl (bX12_isTight_38 X hQ  h)
theorem bX12_isTight_0 {C : zCtx} (X : zFx C cX12_isTight 2 RX12 rmX12_isTight (some .boolean)) {aO : Nat → Nat} {sO : zSt} {x1 : Int32} {out : Int32 × zSt} (hQ : zHi C out.1 [wX12 (zcT C) aO out.2] 0 0) (h : fX12_isTight sO x1 = some out) : zG C 2 [0] 0 0 [wX12 (zcT C) aO sO] 0 [(0, .ref (aO 0)), (1, .int x1)] [] := by
  unfold fX12_isTight at h
  refine z_aload_n X dX12_isTight_0 0 rfl ?_
  obtain ⟨o1, ho1, h⟩ := zbind_of h
  refine z_callVv (st := []) (ws2 := [wX12 (zcT C) aO o1]) X (metX12_looksNow (zcl C) (zcD C) (zcT C) aO ho1) zmX12_looksNow zw1792 dX12_isTight_1 0 0 13 rfl rfl rfl rfl [0] rfl rfl [0] rfl (by decide) ⟨zsX12 , trivial⟩ rfl rfl rfl (Nat.le_of_ble_eq_true rfl) rfl rfl ⟨Nat.le_of_ble_eq_true rfl, Nat.le_of_ble_eq_true rfl⟩ ⟨Nat.le_of_ble_eq_true rfl, Nat.le_of_ble_eq_true rfl⟩ ?_
  refine z_aload_n X dX12_isTight_4 0 rfl ?_
  refine z_aload_n X dX12_isTight_5 0 rfl ?_
  refine z_iload_n X dX12_isTight_6 1 rfl ?_
  obtain ⟨o7, ho7, h⟩ := zbind_of h
  refine z_callVi (st := [.ref (aO 0)]) (ws2 := [wX12 (zcT C) aO o1]) X (metX12_wrongRow (zcl C) (zcD C) (zcT C) aO ho7) zmX12_wrongRow zw1574 dX12_isTight_7 0 0 13 rfl rfl rfl rfl [0] rfl rfl [] rfl (by decide) trivial rfl rfl rfl (Nat.le_of_ble_eq_true rfl) rfl rfl ⟨Nat.le_of_ble_eq_true rfl, Nat.le_of_ble_eq_true rfl⟩ ⟨Nat.le_of_ble_eq_true rfl, Nat.le_of_ble_eq_true rfl⟩ ?_
  obtain ⟨sO10, esO10, h⟩ := zlet_of h
  refine z_put (ws2 := [wX12 (zcT C) aO sO10]) X 0 0 13 9 ziX12 rfl tyX12 tyX12_ok nmX12 (by decide) zw1345 rfl rfl (ty := .int) (by decide +kernel) rfl rfl (by show 9 < 40; decide) dX12_isTight_10 rfl rfl (by decide) (w2 := wX12 (zcT C) aO sO10) (by rw [esO10]; rfl) rfl ?_
  refine z_aload_n X dX12_isTight_13 0 rfl ?_
  refine z_get (v := .int (zgi sO10 9)) X 0 0 13 9 ziX12 rfl (by decide) zw1345 rfl dX12_isTight_14 rfl rfl rfl ?_
  refine z_if_ne (tgt := 38) X dX12_isTight_17 (by decide) (fun c17 => ?_) (fun c17 => ?_)
  · replace h := zif_f h c17
    exact z_at (pc2 := 38) (lv2 := [(0, .ref (aO 0)), (1, .int x1)]) (st2 := []) (ws2 := [wX12 (zcT C) aO sO10]) rfl rfl rfl [0, 1] rfl (bX12_isTight_38 X hQ  h)
  · replace h := zif_t h c17
    refine z_aload_n X dX12_isTight_20 0 rfl ?_
    refine z_aload_n X dX12_isTight_21 0 rfl ?_
    refine z_get (v := .int (zgi sO10 36)) X 0 0 13 36 ziX12 rfl (by decide) zw1372 rfl dX12_isTight_22 rfl rfl rfl ?_
    refine z_bipush (v := (111 : Int32)) X dX12_isTight_25 rfl ?_
    refine z_icmp_eq (tgt := 34) X dX12_isTight_27 (by decide) (fun c27 => ?_) (fun c27 => ?_)
    · replace h := zif_t h c27
      refine z_iconst (v := (0 : Int32)) X dX12_isTight_34 rfl ?_
      exact z_at (pc2 := 35) (lv2 := [(0, .ref (aO 0)), (1, .int x1)]) (st2 := [.int (0 : Int32), .ref (aO 0)]) (ws2 := [wX12 (zcT C) aO sO10]) rfl rfl rfl [0, 1] rfl (bX12_isTight_35 X hQ  h)
    · replace h := zif_f h c27
      refine z_iconst (v := (3 : Int32)) X dX12_isTight_30 rfl ?_
      refine z_goto (tgt := 35) X dX12_isTight_31 (by decide) ?_
      exact z_at (pc2 := 35) (lv2 := [(0, .ref (aO 0)), (1, .int x1)]) (st2 := [.int (3 : Int32), .ref (aO 0)]) (ws2 := [wX12 (zcT C) aO sO10]) rfl rfl rfl [0, 1] rfl (bX12_isTight_35 X hQ  h)
theorem metX12_isTight (l : Launch) (D : va_G) (T : Nat → ClassId) (aO : Nat → Nat) {sO : zSt} {x1 : Int32} {out : Int32 × zSt} (hf : fX12_isTight sO x1 = some out) (sz : Nat) : Met l yX12_isTight (zws yX12_isTight cX12_isTight 2 (some .boolean)) rmX12_isTight (zPc D T [.ref (aO 0), .int x1] [wX12 T aO sO] sz) (zQi D out.1 [wX12 T aO out.2] (zA [wX12 T aO sO] sz)) 0 0 (zA [wX12 T aO sO] sz) :=
  zMet (D := D) (T := T) (av := [.ref (aO 0), .int x1]) (ws := fun T => [wX12 T aO sO]) (wm := fun T => [wX12 T aO sO]) (lv0 := [(0, .ref (aO 0)), (1, .int x1)]) [0] (Qc := fun D T A => zQi D out.1 [wX12 T aO out.2] A) (by decide +kernel) rfl (Nat.le_of_ble_eq_true rfl) rfl (fun C X hQ => bX12_isTight_0 X hQ hf) sz
/-- private int tightRows(); of TableaufloorModel -/
abbrev rmX12_tightRows : Room := { frames := 1, cells := 0, slots := 0, locals := 24 }
def fX12_tightRows_35 (sO : zSt) (k4 : Int32 → Int32 → Option (Int32)) (x2 : Int32) (y0 : Int32) (y1 : Int32) : Option (Int32) :=
  (zlet (y0 + y1) (fun v36 =>
    (zlet (x2 + 1) (fun v37 =>
    (k4 v36 v37)))))
def fX12_tightRows_34 (sO : zSt) (k4 : Int32 → Int32 → Option (Int32)) (x2 : Int32) (y0 : Int32) : Option (Int32) :=
  (fX12_tightRows_35 sO k4 x2 y0 (0 : Int32))
def fX12_tightRows_4 (sO : zSt) : Nat → Int32 → Int32 → Option (Int32)
  | 0, _, _ => none
  | n + 1, x1, x2 =>
    (if (zgi sO 11) ≤ x2 then
      some (x1)
    else
      (if zin x2 12 = true then
        (if (zga sO 6 (x2).toNatClampNeg) = 0 then
        ((fX12_isRowTight sO x2).bind (fun o24 =>
          (if o24 = 0 then
          (fX12_tightRows_34 sO (fX12_tightRows_4 sO n) x2 x1)
        else
          (fX12_tightRows_35 sO (fX12_tightRows_4 sO n) x2 x1 (1 : Int32)))))
      else
        (fX12_tightRows_34 sO (fX12_tightRows_4 sO n) x2 x1)) else none))
def fX12_tightRows (sO : zSt) : Option (Int32) :=
  (fX12_tightRows_4 sO 6000 (0 : Int32) (0 : Int32))
theorem bX12_tightRows_35 {C : zCtx} (X : zFx C cX12_tightRows 3 RX12 rmX12_tightRows (some .int)) {aO : Nat → Nat} {sO : zSt} {k4 : Int32 → Int32 → Option (Int32)} {x2 : Int32} {y0 : Int32} {y1 : Int32} {out : Int32} (hQ : zHi C out [] 0 0) (hk4 : ∀ (x1 : Int32) (x2 : Int32), k4 x1 x2 = some out → zG C 3 [] 0 0 [wX12 (zcT C) aO sO] 4 [(0, .ref (aO 0)), (1, .int x1), (2, .int x2)] []) (h : fX12_tightRows_35 sO k4 x2 y0 y1 = some out) : zG C 3 [] 0 0 [wX12 (zcT C) aO sO] 35 [(0, .ref (aO 0)), (2, .int x2)] [.int y1, .int y0] := by
  unfold fX12_tightRows_35 at h
  refine z_iadd X dX12_tightRows_35 ?_
  obtain ⟨v36, ev36, h⟩ := zlet_of h
  refine z_topi ev36 ?_
  refine z_istore_n (lv2 := [(1, .int v36), (0, .ref (aO 0)), (2, .int x2)]) X dX12_tightRows_36 rfl (by decide) rfl ?_
  obtain ⟨v37, ev37, h⟩ := zlet_of h
  refine z_iinc (v := v37) (lv2 := [(2, .int v37), (1, .int v36), (0, .ref (aO 0))]) X dX12_tightRows_37 (k := 2) rfl (by rw [ev37]; rfl) (by decide) rfl ?_
  refine z_goto (tgt := 4) X dX12_tightRows_40 (by decide) ?_
  exact z_at (pc2 := 4) (lv2 := [(0, .ref (aO 0)), (1, .int v36), (2, .int v37)]) (st2 := []) (ws2 := [wX12 (zcT C) aO sO]) rfl rfl rfl [2, 1, 0] rfl (hk4 v36 v37 h)
theorem bX12_tightRows_34 {C : zCtx} (X : zFx C cX12_tightRows 3 RX12 rmX12_tightRows (some .int)) {aO : Nat → Nat} {sO : zSt} {k4 : Int32 → Int32 → Option (Int32)} {x2 : Int32} {y0 : Int32} {out : Int32} (hQ : zHi C out [] 0 0) (hk4 : ∀ (x1 : Int32) (x2 : Int32), k4 x1 x2 = some out → zG C 3 [] 0 0 [wX12 (zcT C) aO sO] 4 [(0, .ref (aO 0)), (1, .int x1), (2, .int x2)] []) (h : fX12_tightRows_34 sO k4 x2 y0 = some out) : zG C 3 [] 0 0 [wX12 (zcT C) aO sO] 34 [(0, .ref (aO 0)), (2, .int x2)] [.int y0] := by
  unfold fX12_tightRows_34 at h
  refine z_iconst (v := (0 : Int32)) X dX12_tightRows_34 rfl ?_
  exact z_at (pc2 := 35) (lv2 := [(0, .ref (aO 0)), (2, .int x2)]) (st2 := [.int (0 : Int32), .int y0]) (ws2 := [wX12 (zcT C) aO sO]) rfl rfl rfl [0, 1] rfl (bX12_tightRows_35 X hQ hk4 h)
theorem bX12_tightRows_4 {C : zCtx} (X : zFx C cX12_tightRows 3 RX12 rmX12_tightRows (some .int)) {aO : Nat → Nat} {sO : zSt} {out : Int32} (hQ : zHi C out [] 0 0) : ∀ (n : Nat) (x1 : Int32) (x2 : Int32), fX12_tightRows_4 sO n x1 x2 = some out → zG C 3 [] 0 0 [wX12 (zcT C) aO sO] 4 [(0, .ref (aO 0)), (1, .int x1), (2, .int x2)] [] := by
  intro n
  induction n with
  | zero =>
    intro x1 x2 h
    rw [fX12_tightRows_4] at h
    exact zno h
  | succ n ih =>
    intro x1 x2 h
    rw [fX12_tightRows_4] at h
    refine z_iload_n X dX12_tightRows_4 2 rfl ?_
    refine z_aload_n X dX12_tightRows_5 0 rfl ?_
    refine z_get (v := .int (zgi sO 11)) X 0 0 13 11 ziX12 rfl (by decide) zw1347 rfl dX12_tightRows_6 rfl rfl rfl ?_
    refine z_icmp_ge (tgt := 43) X dX12_tightRows_9 (by decide) (fun c9 => ?_) (fun c9 => ?_)
    · replace h := zif_t h c9
      refine z_iload_n X dX12_tightRows_43 1 rfl ?_
      cases h
      exact z_iret X hQ dX12_tightRows_44 rfl [] rfl (by decide) (by decide)
    · replace h := zif_f h c9
      refine z_iload_n X dX12_tightRows_12 1 rfl ?_
      refine z_aload_n X dX12_tightRows_13 0 rfl ?_
      refine z_get (v := .ref (aO 7)) X 0 0 13 6 ziX12 rfl (by decide) zw1342 rfl dX12_tightRows_14 rfl rfl rfl ?_
      refine z_iload_n X dX12_tightRows_17 2 rfl ?_
      obtain ⟨g18, h⟩ := zgd_of h
      refine z_zald X 0 7 g18 dX12_tightRows_18 rfl rfl ?_
      refine z_if_ne (tgt := 34) X dX12_tightRows_19 (by decide) (fun c19 => ?_) (fun c19 => ?_)
      · replace h := zif_f h c19
        exact z_at (pc2 := 34) (lv2 := [(0, .ref (aO 0)), (2, .int x2)]) (st2 := [.int x1]) (ws2 := [wX12 (zcT C) aO sO]) rfl rfl rfl [0, 2] rfl (bX12_tightRows_34 X hQ ih h)
      · replace h := zif_t h c19
        refine z_aload_n X dX12_tightRows_22 0 rfl ?_
        refine z_iload_n X dX12_tightRows_23 2 rfl ?_
        obtain ⟨o24, ho24, h⟩ := zbind_of h
        refine z_callVi (st := [.int x1]) (ws2 := [wX12 (zcT C) aO sO]) X (metX12_isRowTight (zcl C) (zcD C) (zcT C) aO ho24) zmX12_isRowTight zw1904 dX12_tightRows_24 0 0 13 rfl rfl rfl rfl [0] rfl rfl [] rfl (by decide) trivial rfl rfl rfl (Nat.le_of_ble_eq_true rfl) rfl rfl ⟨Nat.le_of_ble_eq_true rfl, Nat.le_of_ble_eq_true rfl⟩ ⟨Nat.le_of_ble_eq_true rfl, Nat.le_of_ble_eq_true rfl⟩ ?_
        refine z_if_eq (tgt := 34) X dX12_tightRows_27 (by decide) (fun c27 => ?_) (fun c27 => ?_)
        · replace h := zif_t h c27
          exact z_at (pc2 := 34) (lv2 := [(0, .ref (aO 0)), (2, .int x2)]) (st2 := [.int x1]) (ws2 := [wX12 (zcT C) aO sO]) rfl rfl rfl [0, 2] rfl (bX12_tightRows_34 X hQ ih h)
        · replace h := zif_f h c27
          refine z_iconst (v := (1 : Int32)) X dX12_tightRows_30 rfl ?_
          refine z_goto (tgt := 35) X dX12_tightRows_31 (by decide) ?_
          exact z_at (pc2 := 35) (lv2 := [(0, .ref (aO 0)), (2, .int x2)]) (st2 := [.int (1 : Int32), .int x1]) (ws2 := [wX12 (zcT C) aO sO]) rfl rfl rfl [0, 2] rfl (bX12_tightRows_35 X hQ ih h)
theorem bX12_tightRows_0 {C : zCtx} (X : zFx C cX12_tightRows 3 RX12 rmX12_tightRows (some .int)) {aO : Nat → Nat} {sO : zSt} {out : Int32} (hQ : zHi C out [] 0 0) (h : fX12_tightRows sO = some out) : zG C 3 [] 0 0 [wX12 (zcT C) aO sO] 0 [(0, .ref (aO 0))] [] := by
  unfold fX12_tightRows at h
  refine z_iconst (v := (0 : Int32)) X dX12_tightRows_0 rfl ?_
  refine z_istore_n (lv2 := [(1, .int (0 : Int32)), (0, .ref (aO 0))]) X dX12_tightRows_1 rfl (by decide) rfl ?_
  refine z_iconst (v := (0 : Int32)) X dX12_tightRows_2 rfl ?_
  refine z_istore_n (lv2 := [(2, .int (0 : Int32)), (1, .int (0 : Int32)), (0, .ref (aO 0))]) X dX12_tightRows_3 rfl (by decide) rfl ?_
  exact z_at (pc2 := 4) (lv2 := [(0, .ref (aO 0)), (1, .int (0 : Int32)), (2, .int (0 : Int32))]) (st2 := []) (ws2 := [wX12 (zcT C) aO sO]) rfl rfl rfl [2, 1, 0] rfl (bX12_tightRows_4 X hQ  6000 (0 : Int32) (0 : Int32) h)
theorem metX12_tightRows (l : Launch) (D : va_G) (T : Nat → ClassId) (aO : Nat → Nat) {sO : zSt} {out : Int32} (hf : fX12_tightRows sO = some out) (sz : Nat) : Met l yX12_tightRows (zws yX12_tightRows cX12_tightRows 3 (some .int)) rmX12_tightRows (zPc D T [.ref (aO 0)] [wX12 T aO sO] sz) (zQi D out [] (zA [] sz)) 0 0 (zA [] sz) :=
  zMet (D := D) (T := T) (av := [.ref (aO 0)]) (ws := fun T => [wX12 T aO sO]) (wm := fun T => []) (lv0 := [(0, .ref (aO 0))]) [] (Qc := fun D T A => zQi D out [] A) (by decide +kernel) rfl (Nat.le_of_ble_eq_true rfl) rfl (fun C X hQ => bX12_tightRows_0 X hQ hf) sz
