/-- private void putSlope(int, int); of Tableaufloor$Sides -/
abbrev rmX7_putSlope : Room := { frames := 0, cells := 0, slots := 0, locals := 0 }
def fX7_putSlope_29 (sO : zSt) : Option (zSt) :=
  some (sO)
def fX7_putSlope (sO : zSt) (x1 : Int32) (x2 : Int32) : Option (zSt) :=
  (zlet (((zgi sO 3) * (3 : Int32)) + x1) (fun v8 =>
    (if v8 < 0 then
    (fX7_putSlope_29 sO)
  else
    (if (54 : Int32) ≤ v8 then
      (fX7_putSlope_29 sO)
    else
      (if zin v8 54 = true then
        (zlet (zsa sO 0 (upd (zga sO 0) (v8).toNatClampNeg x2)) (fun sO28 =>
        (fX7_putSlope_29 sO28))) else none)))))
theorem bX7_putSlope_29 {C : zCtx} (X : zFx C cX7_putSlope 4 RX7 rmX7_putSlope none) {aO : Nat → Nat} {sO : zSt} {out : zSt} (hQ : zHv C [wX7 (zcT C) aO out] 0 0) (h : fX7_putSlope_29 sO = some out) : zG C 4 [0] 0 0 [wX7 (zcT C) aO sO] 29 [] [] := by
  unfold fX7_putSlope_29 at h
  cases h
  exact z_vret X hQ dX7_putSlope_29 [0] rfl (by decide) (by decide)
theorem bX7_putSlope_0 {C : zCtx} (X : zFx C cX7_putSlope 4 RX7 rmX7_putSlope none) {aO : Nat → Nat} {sO : zSt} {x1 : Int32} {x2 : Int32} {out : zSt} (hQ : zHv C [wX7 (zcT C) aO out] 0 0) (h : fX7_putSlope sO x1 x2 = some out) : zG C 4 [0] 0 0 [wX7 (zcT C) aO sO] 0 [(0, .ref (aO 0)), (1, .int x1), (2, .int x2)] [] := by
  unfold fX7_putSlope at h
  refine z_aload_n X dX7_putSlope_0 0 rfl ?_
  refine z_get (v := .int (zgi sO 3)) X 0 0 8 3 ziX7 rfl (by decide) zw173 rfl dX7_putSlope_1 rfl rfl rfl ?_
  refine z_iconst (v := (3 : Int32)) X dX7_putSlope_4 rfl ?_
  refine z_imul X dX7_putSlope_5 ?_
  refine z_iload_n X dX7_putSlope_6 1 rfl ?_
  refine z_iadd X dX7_putSlope_7 ?_
  obtain ⟨v8, ev8, h⟩ := zlet_of h
  refine z_topi ev8 ?_
  refine z_istore_n (lv2 := [(3, .int v8), (0, .ref (aO 0)), (1, .int x1), (2, .int x2)]) X dX7_putSlope_8 rfl (by decide) rfl ?_
  refine z_iload_n X dX7_putSlope_9 0 rfl ?_
  refine z_if_lt (tgt := 29) X dX7_putSlope_10 (by decide) (fun c10 => ?_) (fun c10 => ?_)
  · replace h := zif_t h c10
    exact z_at (pc2 := 29) (lv2 := []) (st2 := []) (ws2 := [wX7 (zcT C) aO sO]) rfl rfl rfl [] rfl (bX7_putSlope_29 X hQ  h)
  · replace h := zif_f h c10
    refine z_iload_n X dX7_putSlope_13 0 rfl ?_
    refine z_aload_n X dX7_putSlope_14 1 rfl ?_
    refine z_get (v := .ref (aO 1)) X 0 0 8 0 ziX7 rfl (by decide) zw170 rfl dX7_putSlope_15 rfl rfl rfl ?_
    refine z_alen (v := (54 : Int32)) X 0 1 1 rfl rfl dX7_putSlope_18 rfl rfl ?_
    refine z_icmp_ge (tgt := 29) X dX7_putSlope_19 (by decide) (fun c19 => ?_) (fun c19 => ?_)
    · replace h := zif_t h c19
      exact z_at (pc2 := 29) (lv2 := []) (st2 := []) (ws2 := [wX7 (zcT C) aO sO]) rfl rfl rfl [] rfl (bX7_putSlope_29 X hQ  h)
    · replace h := zif_f h c19
      refine z_aload_n X dX7_putSlope_22 1 rfl ?_
      refine z_get (v := .ref (aO 1)) X 0 0 8 0 ziX7 rfl (by decide) zw170 rfl dX7_putSlope_23 rfl rfl rfl ?_
      refine z_iload_n X dX7_putSlope_26 0 rfl ?_
      refine z_iload_n X dX7_putSlope_27 3 rfl ?_
      obtain ⟨g28, h⟩ := zgd_of h
      obtain ⟨sO28, esO28, h⟩ := zlet_of h
      refine z_iast (ws2 := [wX7 (zcT C) aO sO28]) X 0 1 g28 dX7_putSlope_28 rfl rfl (by decide) (w2 := wX7 (zcT C) aO sO28) (by rw [esO28]; rfl) rfl ?_
      exact z_at (pc2 := 29) (lv2 := []) (st2 := []) (ws2 := [wX7 (zcT C) aO sO28]) rfl rfl rfl [] rfl (bX7_putSlope_29 X hQ  h)
theorem metX7_putSlope (l : Launch) (D : va_G) (T : Nat → ClassId) (aO : Nat → Nat) {sO : zSt} {x1 : Int32} {x2 : Int32} {out : zSt} (hf : fX7_putSlope sO x1 x2 = some out) (sz : Nat) : Met l yX7_putSlope (zws yX7_putSlope cX7_putSlope 4 none) rmX7_putSlope (zPc D T [.ref (aO 0), .int x1, .int x2] [wX7 T aO sO] sz) (zQv D [wX7 T aO out] (zA [wX7 T aO sO] sz)) 0 0 (zA [wX7 T aO sO] sz) :=
  zMet (D := D) (T := T) (av := [.ref (aO 0), .int x1, .int x2]) (ws := fun T => [wX7 T aO sO]) (wm := fun T => [wX7 T aO sO]) (lv0 := [(0, .ref (aO 0)), (1, .int x1), (2, .int x2)]) [0] (Qc := fun D T A => zQv D [wX7 T aO out] A) (by decide +kernel) rfl (Nat.le_of_ble_eq_true rfl) rfl (fun C X hQ => bX7_putSlope_0 X hQ hf) sz
/-- private void close(int, boolean); of Tableaufloor$Sides -/
abbrev rmX7_close : Room := { frames := 0, cells := 0, slots := 0, locals := 0 }
def fX7_close_61 (sO : zSt) : Option (zSt) :=
  some (sO)
def fX7_close (sO : zSt) (x1 : Int32) (x2 : Int32) : Option (zSt) :=
  (if (zgi sO 3) < 0 then
    (fX7_close_61 sO)
  else
    (if (18 : Int32) ≤ (zgi sO 3) then
      (fX7_close_61 sO)
    else
      (if (18 : Int32) ≤ (zgi sO 3) then
        (fX7_close_61 sO)
      else
        (if zin (zgi sO 3) 18 = true then
          (zlet (zsa sO 1 (upd (zga sO 1) ((zgi sO 3)).toNatClampNeg x1)) (fun sO40 =>
          (if zin (zgi sO40 3) 18 = true then
          (zlet (zsa sO40 2 (upd (zga sO40 2) ((zgi sO40 3)).toNatClampNeg (vp_nar .boolean x2))) (fun sO50 =>
          (zlet (zsi sO50 3 ((zgi sO50 3) + (1 : Int32))) (fun sO58 =>
          (fX7_close_61 sO58))))) else none))) else none))))
theorem bX7_close_61 {C : zCtx} (X : zFx C cX7_close 3 RX7 rmX7_close none) {aO : Nat → Nat} {sO : zSt} {out : zSt} (hQ : zHv C [wX7 (zcT C) aO out] 0 0) (h : fX7_close_61 sO = some out) : zG C 3 [0] 0 0 [wX7 (zcT C) aO sO] 61 [] [] := by
  unfold fX7_close_61 at h
  cases h
  exact z_vret X hQ dX7_close_61 [0] rfl (by decide) (by decide)
theorem bX7_close_0 {C : zCtx} (X : zFx C cX7_close 3 RX7 rmX7_close none) {aO : Nat → Nat} {sO : zSt} {x1 : Int32} {x2 : Int32} {out : zSt} (hQ : zHv C [wX7 (zcT C) aO out] 0 0) (h : fX7_close sO x1 x2 = some out) : zG C 3 [0] 0 0 [wX7 (zcT C) aO sO] 0 [(0, .ref (aO 0)), (1, .int x1), (2, .int x2)] [] := by
  unfold fX7_close at h
  refine z_aload_n X dX7_close_0 0 rfl ?_
  refine z_get (v := .int (zgi sO 3)) X 0 0 8 3 ziX7 rfl (by decide) zw173 rfl dX7_close_1 rfl rfl rfl ?_
  refine z_if_lt (tgt := 61) X dX7_close_4 (by decide) (fun c4 => ?_) (fun c4 => ?_)
  · replace h := zif_t h c4
    exact z_at (pc2 := 61) (lv2 := []) (st2 := []) (ws2 := [wX7 (zcT C) aO sO]) rfl rfl rfl [] rfl (bX7_close_61 X hQ  h)
  · replace h := zif_f h c4
    refine z_aload_n X dX7_close_7 0 rfl ?_
    refine z_get (v := .int (zgi sO 3)) X 0 0 8 3 ziX7 rfl (by decide) zw173 rfl dX7_close_8 rfl rfl rfl ?_
    refine z_aload_n X dX7_close_11 0 rfl ?_
    refine z_get (v := .ref (aO 2)) X 0 0 8 1 ziX7 rfl (by decide) zw171 rfl dX7_close_12 rfl rfl rfl ?_
    refine z_alen (v := (18 : Int32)) X 0 2 1 rfl rfl dX7_close_15 rfl rfl ?_
    refine z_icmp_ge (tgt := 61) X dX7_close_16 (by decide) (fun c16 => ?_) (fun c16 => ?_)
    · replace h := zif_t h c16
      exact z_at (pc2 := 61) (lv2 := []) (st2 := []) (ws2 := [wX7 (zcT C) aO sO]) rfl rfl rfl [] rfl (bX7_close_61 X hQ  h)
    · replace h := zif_f h c16
      refine z_aload_n X dX7_close_19 0 rfl ?_
      refine z_get (v := .int (zgi sO 3)) X 0 0 8 3 ziX7 rfl (by decide) zw173 rfl dX7_close_20 rfl rfl rfl ?_
      refine z_aload_n X dX7_close_23 0 rfl ?_
      refine z_get (v := .ref (aO 3)) X 0 0 8 2 ziX7 rfl (by decide) zw172 rfl dX7_close_24 rfl rfl rfl ?_
      refine z_alen (v := (18 : Int32)) X 0 3 3 rfl rfl dX7_close_27 rfl rfl ?_
      refine z_icmp_ge (tgt := 61) X dX7_close_28 (by decide) (fun c28 => ?_) (fun c28 => ?_)
      · replace h := zif_t h c28
        exact z_at (pc2 := 61) (lv2 := []) (st2 := []) (ws2 := [wX7 (zcT C) aO sO]) rfl rfl rfl [] rfl (bX7_close_61 X hQ  h)
      · replace h := zif_f h c28
        refine z_aload_n X dX7_close_31 0 rfl ?_
        refine z_get (v := .ref (aO 2)) X 0 0 8 1 ziX7 rfl (by decide) zw171 rfl dX7_close_32 rfl rfl rfl ?_
        refine z_aload_n X dX7_close_35 0 rfl ?_
        refine z_get (v := .int (zgi sO 3)) X 0 0 8 3 ziX7 rfl (by decide) zw173 rfl dX7_close_36 rfl rfl rfl ?_
        refine z_iload_n X dX7_close_39 1 rfl ?_
        obtain ⟨g40, h⟩ := zgd_of h
        obtain ⟨sO40, esO40, h⟩ := zlet_of h
        refine z_iast (ws2 := [wX7 (zcT C) aO sO40]) X 0 2 g40 dX7_close_40 rfl rfl (by decide) (w2 := wX7 (zcT C) aO sO40) (by rw [esO40]; rfl) rfl ?_
        refine z_aload_n X dX7_close_41 0 rfl ?_
        refine z_get (v := .ref (aO 3)) X 0 0 8 2 ziX7 rfl (by decide) zw172 rfl dX7_close_42 rfl rfl rfl ?_
        refine z_aload_n X dX7_close_45 0 rfl ?_
        refine z_get (v := .int (zgi sO40 3)) X 0 0 8 3 ziX7 rfl (by decide) zw173 rfl dX7_close_46 rfl rfl rfl ?_
        refine z_iload_n X dX7_close_49 2 rfl ?_
        obtain ⟨g50, h⟩ := zgd_of h
        obtain ⟨sO50, esO50, h⟩ := zlet_of h
        refine z_zast (ws2 := [wX7 (zcT C) aO sO50]) X 0 3 g50 dX7_close_50 rfl rfl (by decide) (w2 := wX7 (zcT C) aO sO50) (by rw [esO50]; rfl) rfl ?_
        refine z_aload_n X dX7_close_51 0 rfl ?_
        refine z_dup X dX7_close_52 rfl ?_
        refine z_get (v := .int (zgi sO50 3)) X 0 0 8 3 ziX7 rfl (by decide) zw173 rfl dX7_close_53 rfl rfl rfl ?_
        refine z_iconst (v := (1 : Int32)) X dX7_close_56 rfl ?_
        refine z_iadd X dX7_close_57 ?_
        obtain ⟨sO58, esO58, h⟩ := zlet_of h
        refine z_put (ws2 := [wX7 (zcT C) aO sO58]) X 0 0 8 3 ziX7 rfl tyX7 tyX7_ok nmX7 (by decide) zw173 rfl rfl (ty := .int) (by decide +kernel) rfl rfl (by show 3 < 4; decide) dX7_close_58 rfl rfl (by decide) (w2 := wX7 (zcT C) aO sO58) (by rw [esO58]; rfl) rfl ?_
        exact z_at (pc2 := 61) (lv2 := []) (st2 := []) (ws2 := [wX7 (zcT C) aO sO58]) rfl rfl rfl [] rfl (bX7_close_61 X hQ  h)
theorem metX7_close (l : Launch) (D : va_G) (T : Nat → ClassId) (aO : Nat → Nat) {sO : zSt} {x1 : Int32} {x2 : Int32} {out : zSt} (hf : fX7_close sO x1 x2 = some out) (sz : Nat) : Met l yX7_close (zws yX7_close cX7_close 3 none) rmX7_close (zPc D T [.ref (aO 0), .int x1, .int x2] [wX7 T aO sO] sz) (zQv D [wX7 T aO out] (zA [wX7 T aO sO] sz)) 0 0 (zA [wX7 T aO sO] sz) :=
  zMet (D := D) (T := T) (av := [.ref (aO 0), .int x1, .int x2]) (ws := fun T => [wX7 T aO sO]) (wm := fun T => [wX7 T aO sO]) (lv0 := [(0, .ref (aO 0)), (1, .int x1), (2, .int x2)]) [0] (Qc := fun D T A => zQv D [wX7 T aO out] A) (by decide +kernel) rfl (Nat.le_of_ble_eq_true rfl) rfl (fun C X hQ => bX7_close_0 X hQ hf) sz
/-- private void putBound(int, int, int); of Tableaufloor$Sides -/
abbrev rmX7_putBound : Room := { frames := 1, cells := 0, slots := 0, locals := 23 }
def fX7_putBound_23 (k3 : zSt → Int32 → Int32 → Int32 → Int32 → Option (zSt)) (sO : zSt) (x1 : Int32) (x2 : Int32) (x3 : Int32) (x4 : Int32) (y1 : Int32) (y2 : Int32) : Option (zSt) :=
  ((fX7_putSlope sO y1 y2).bind (fun o23 =>
    (zlet (x4 + 1) (fun v26 =>
    (k3 o23 x1 x2 x3 v26)))))
def fX7_putBound_3 : Nat → zSt → Int32 → Int32 → Int32 → Int32 → Option (zSt)
  | 0, _, _, _, _, _ => none
  | n + 1, sO, x1, x2, x3, x4 =>
    (if (3 : Int32) ≤ x4 then
      ((fX7_close sO x3 (0 : Int32)).bind (fun o35 =>
        some (o35)))
    else
      (if x4 = x1 then
        (fX7_putBound_23 (fX7_putBound_3 n) sO x1 x2 x3 x4 x4 x2)
      else
        (fX7_putBound_23 (fX7_putBound_3 n) sO x1 x2 x3 x4 x4 (0 : Int32))))
def fX7_putBound (sO : zSt) (x1 : Int32) (x2 : Int32) (x3 : Int32) : Option (zSt) :=
  (fX7_putBound_3 6000 sO x1 x2 x3 (0 : Int32))
theorem bX7_putBound_23 {C : zCtx} (X : zFx C cX7_putBound 5 RX7 rmX7_putBound none) {aO : Nat → Nat} {k3 : zSt → Int32 → Int32 → Int32 → Int32 → Option (zSt)} {sO : zSt} {x1 : Int32} {x2 : Int32} {x3 : Int32} {x4 : Int32} {y1 : Int32} {y2 : Int32} {out : zSt} (hQ : zHv C [wX7 (zcT C) aO out] 0 0) (hk3 : ∀ (sO : zSt) (x1 : Int32) (x2 : Int32) (x3 : Int32) (x4 : Int32), k3 sO x1 x2 x3 x4 = some out → zG C 5 [0] 0 0 [wX7 (zcT C) aO sO] 3 [(0, .ref (aO 0)), (1, .int x1), (2, .int x2), (3, .int x3), (4, .int x4)] []) (h : fX7_putBound_23 k3 sO x1 x2 x3 x4 y1 y2 = some out) : zG C 5 [0] 0 0 [wX7 (zcT C) aO sO] 23 [(0, .ref (aO 0)), (1, .int x1), (2, .int x2), (3, .int x3), (4, .int x4)] [.int y2, .int y1, .ref (aO 0)] := by
  unfold fX7_putBound_23 at h
  obtain ⟨o23, ho23, h⟩ := zbind_of h
  refine z_callVv (st := []) (ws2 := [wX7 (zcT C) aO o23]) X (metX7_putSlope (zcl C) (zcD C) (zcT C) aO ho23) zmX7_putSlope zw508 dX7_putBound_23 0 0 8 rfl rfl rfl rfl [0] rfl rfl [0] rfl (by decide) ⟨zsX7 , trivial⟩ rfl rfl rfl (Nat.le_of_ble_eq_true rfl) rfl rfl ⟨Nat.le_of_ble_eq_true rfl, Nat.le_of_ble_eq_true rfl⟩ ⟨Nat.le_of_ble_eq_true rfl, Nat.le_of_ble_eq_true rfl⟩ ?_
  obtain ⟨v26, ev26, h⟩ := zlet_of h
  refine z_iinc (v := v26) (lv2 := [(4, .int v26), (0, .ref (aO 0)), (1, .int x1), (2, .int x2), (3, .int x3)]) X dX7_putBound_26 (k := 4) rfl (by rw [ev26]; rfl) (by decide) rfl ?_
  refine z_goto (tgt := 3) X dX7_putBound_29 (by decide) ?_
  exact z_at (pc2 := 3) (lv2 := [(0, .ref (aO 0)), (1, .int x1), (2, .int x2), (3, .int x3), (4, .int v26)]) (st2 := []) (ws2 := [wX7 (zcT C) aO o23]) rfl rfl rfl [1, 2, 3, 4, 0] rfl (hk3 o23 x1 x2 x3 v26 h)
theorem bX7_putBound_3 {C : zCtx} (X : zFx C cX7_putBound 5 RX7 rmX7_putBound none) {aO : Nat → Nat} {out : zSt} (hQ : zHv C [wX7 (zcT C) aO out] 0 0) : ∀ (n : Nat) (sO : zSt) (x1 : Int32) (x2 : Int32) (x3 : Int32) (x4 : Int32), fX7_putBound_3 n sO x1 x2 x3 x4 = some out → zG C 5 [0] 0 0 [wX7 (zcT C) aO sO] 3 [(0, .ref (aO 0)), (1, .int x1), (2, .int x2), (3, .int x3), (4, .int x4)] [] := by
  intro n
  induction n with
  | zero =>
    intro sO x1 x2 x3 x4 h
    rw [fX7_putBound_3] at h
    exact zno h
  | succ n ih =>
    intro sO x1 x2 x3 x4 h
    rw [fX7_putBound_3] at h
    refine z_iload X dX7_putBound_3 4 rfl ?_
    refine z_iconst (v := (3 : Int32)) X dX7_putBound_5 rfl ?_
    refine z_icmp_ge (tgt := 32) X dX7_putBound_6 (by decide) (fun c6 => ?_) (fun c6 => ?_)
    · replace h := zif_t h c6
      refine z_aload_n X dX7_putBound_32 0 rfl ?_
      refine z_iload_n X dX7_putBound_33 3 rfl ?_
      refine z_iconst (v := (0 : Int32)) X dX7_putBound_34 rfl ?_
      obtain ⟨o35, ho35, h⟩ := zbind_of h
      refine z_callVv (st := []) (ws2 := [wX7 (zcT C) aO o35]) X (metX7_close (zcl C) (zcD C) (zcT C) aO ho35) zmX7_close zw512 dX7_putBound_35 0 0 8 rfl rfl rfl rfl [0] rfl rfl [0] rfl (by decide) ⟨zsX7 , trivial⟩ rfl rfl rfl (Nat.le_of_ble_eq_true rfl) rfl rfl ⟨Nat.le_of_ble_eq_true rfl, Nat.le_of_ble_eq_true rfl⟩ ⟨Nat.le_of_ble_eq_true rfl, Nat.le_of_ble_eq_true rfl⟩ ?_
      cases h
      exact z_vret X hQ dX7_putBound_38 [0] rfl (by decide) (by decide)
    · replace h := zif_f h c6
      refine z_aload_n X dX7_putBound_9 0 rfl ?_
      refine z_iload X dX7_putBound_10 4 rfl ?_
      refine z_iload X dX7_putBound_12 4 rfl ?_
      refine z_iload_n X dX7_putBound_14 1 rfl ?_
      refine z_icmp_ne (tgt := 22) X dX7_putBound_15 (by decide) (fun c15 => ?_) (fun c15 => ?_)
      · replace h := zif_f h c15
        refine z_iconst (v := (0 : Int32)) X dX7_putBound_22 rfl ?_
        exact z_at (pc2 := 23) (lv2 := [(0, .ref (aO 0)), (1, .int x1), (2, .int x2), (3, .int x3), (4, .int x4)]) (st2 := [.int (0 : Int32), .int x4, .ref (aO 0)]) (ws2 := [wX7 (zcT C) aO sO]) rfl rfl rfl [0, 1, 2, 3, 4] rfl (bX7_putBound_23 X hQ ih h)
      · replace h := zif_t h c15
        refine z_iload_n X dX7_putBound_18 2 rfl ?_
        refine z_goto (tgt := 23) X dX7_putBound_19 (by decide) ?_
        exact z_at (pc2 := 23) (lv2 := [(0, .ref (aO 0)), (1, .int x1), (2, .int x2), (3, .int x3), (4, .int x4)]) (st2 := [.int x2, .int x4, .ref (aO 0)]) (ws2 := [wX7 (zcT C) aO sO]) rfl rfl rfl [0, 1, 2, 3, 4] rfl (bX7_putBound_23 X hQ ih h)
theorem bX7_putBound_0 {C : zCtx} (X : zFx C cX7_putBound 5 RX7 rmX7_putBound none) {aO : Nat → Nat} {sO : zSt} {x1 : Int32} {x2 : Int32} {x3 : Int32} {out : zSt} (hQ : zHv C [wX7 (zcT C) aO out] 0 0) (h : fX7_putBound sO x1 x2 x3 = some out) : zG C 5 [0] 0 0 [wX7 (zcT C) aO sO] 0 [(0, .ref (aO 0)), (1, .int x1), (2, .int x2), (3, .int x3)] [] := by
  unfold fX7_putBound at h
  refine z_iconst (v := (0 : Int32)) X dX7_putBound_0 rfl ?_
  refine z_istore (lv2 := [(4, .int (0 : Int32)), (0, .ref (aO 0)), (1, .int x1), (2, .int x2), (3, .int x3)]) X dX7_putBound_1 (by decide) rfl ?_
  exact z_at (pc2 := 3) (lv2 := [(0, .ref (aO 0)), (1, .int x1), (2, .int x2), (3, .int x3), (4, .int (0 : Int32))]) (st2 := []) (ws2 := [wX7 (zcT C) aO sO]) rfl rfl rfl [1, 2, 3, 4, 0] rfl (bX7_putBound_3 X hQ  6000 sO x1 x2 x3 (0 : Int32) h)
theorem metX7_putBound (l : Launch) (D : va_G) (T : Nat → ClassId) (aO : Nat → Nat) {sO : zSt} {x1 : Int32} {x2 : Int32} {x3 : Int32} {out : zSt} (hf : fX7_putBound sO x1 x2 x3 = some out) (sz : Nat) : Met l yX7_putBound (zws yX7_putBound cX7_putBound 5 none) rmX7_putBound (zPc D T [.ref (aO 0), .int x1, .int x2, .int x3] [wX7 T aO sO] sz) (zQv D [wX7 T aO out] (zA [wX7 T aO sO] sz)) 0 0 (zA [wX7 T aO sO] sz) :=
  zMet (D := D) (T := T) (av := [.ref (aO 0), .int x1, .int x2, .int x3]) (ws := fun T => [wX7 T aO sO]) (wm := fun T => [wX7 T aO sO]) (lv0 := [(0, .ref (aO 0)), (1, .int x1), (2, .int x2), (3, .int x3)]) [0] (Qc := fun D T A => zQv D [wX7 T aO out] A) (by decide +kernel) rfl (Nat.le_of_ble_eq_true rfl) rfl (fun C X hQ => bX7_putBound_0 X hQ hf) sz
/-- private void putRow(Tableaufloor$Program, int, int); of Tableaufloor$Sides -/
abbrev rmX7_putRow : Room := { frames := 1, cells := 0, slots := 0, locals := 23 }
def fX7_putRow_102 (sP : zSt) (sO : zSt) : Option (zSt) :=
  some (sO)
def fX7_putRow_99 (sP : zSt) (sO : zSt) (y1 : Int32) (y2 : Int32) : Option (zSt) :=
  ((fX7_close sO y1 y2).bind (fun o99 =>
    (fX7_putRow_102 sP o99)))
def fX7_putRow_59 (sP : zSt) : Nat → zSt → Int32 → Int32 → Int32 → Int32 → Option (zSt)
  | 0, _, _, _, _, _ => none
  | n + 1, sO, x2, x3, x4, x5 =>
    (if (3 : Int32) ≤ x5 then
      (if x4 = (61 : Int32) then
        (fX7_putRow_99 sP sO (-x3) (1 : Int32))
      else
        (fX7_putRow_99 sP sO (-x3) (0 : Int32)))
    else
      ((fX5_rowCoefficient sP x2 x5).bind (fun o72 =>
        ((fX7_putSlope sO x5 o72).bind (fun o75 =>
        (zlet (x5 + 1) (fun v78 =>
        (fX7_putRow_59 sP n o75 x2 x3 x4 v78))))))))
def fX7_putRow_49 (sP : zSt) (sO : zSt) (x2 : Int32) (x3 : Int32) (x4 : Int32) : Option (zSt) :=
  (if x4 = (60 : Int32) then
    (fX7_putRow_102 sP sO)
  else
    (fX7_putRow_59 sP 6000 sO x2 x3 x4 (0 : Int32)))
def fX7_putRow_17 (sP : zSt) : Nat → zSt → Int32 → Int32 → Int32 → Int32 → Option (zSt)
  | 0, _, _, _, _, _ => none
  | n + 1, sO, x2, x3, x4, x5 =>
    (if (3 : Int32) ≤ x5 then
      ((fX7_close sO x3 (0 : Int32)).bind (fun o46 =>
        (fX7_putRow_49 sP o46 x2 x3 x4)))
    else
      ((fX5_rowCoefficient sP x2 x5).bind (fun o30 =>
        ((fX7_putSlope sO x5 (-o30)).bind (fun o34 =>
        (zlet (x5 + 1) (fun v37 =>
        (fX7_putRow_17 sP n o34 x2 x3 x4 v37))))))))
def fX7_putRow (sO : zSt) (sP : zSt) (x2 : Int32) (x3 : Int32) : Option (zSt) :=
  ((fX5_relationOf sP x2).bind (fun o2 =>
    (if o2 = (62 : Int32) then
    (fX7_putRow_49 sP sO x2 x3 o2)
  else
    (fX7_putRow_17 sP 6000 sO x2 x3 o2 (0 : Int32)))))
theorem bX7_putRow_102 {C : zCtx} (X : zFx C cX7_putRow 6 RX7 rmX7_putRow none) {aO : Nat → Nat} {aP : Nat → Nat} {sP : zSt} {sO : zSt} {out : zSt} (hQ : zHv C [wX7 (zcT C) aO out] 0 0) (h : fX7_putRow_102 sP sO = some out) : zG C 6 [0] 0 0 [wX7 (zcT C) aO sO, wX5 (zcT C) aP sP] 102 [] [] := by
  unfold fX7_putRow_102 at h
  cases h
  exact z_vret X hQ dX7_putRow_102 [0] rfl (by decide) (by decide)
theorem bX7_putRow_99 {C : zCtx} (X : zFx C cX7_putRow 6 RX7 rmX7_putRow none) {aO : Nat → Nat} {aP : Nat → Nat} {sP : zSt} {sO : zSt} {y1 : Int32} {y2 : Int32} {out : zSt} (hQ : zHv C [wX7 (zcT C) aO out] 0 0) (h : fX7_putRow_99 sP sO y1 y2 = some out) : zG C 6 [0] 0 0 [wX7 (zcT C) aO sO, wX5 (zcT C) aP sP] 99 [] [.int y2, .int y1, .ref (aO 0)] := by
  unfold fX7_putRow_99 at h
  obtain ⟨o99, ho99, h⟩ := zbind_of h
  refine z_callVv (st := []) (ws2 := [wX7 (zcT C) aO o99, wX5 (zcT C) aP sP]) X (metX7_close (zcl C) (zcD C) (zcT C) aO ho99) zmX7_close zw512 dX7_putRow_99 0 0 8 rfl rfl rfl rfl [0] rfl rfl [0] rfl (by decide) ⟨zsX7 , trivial⟩ rfl rfl rfl (Nat.le_of_ble_eq_true rfl) rfl rfl ⟨Nat.le_of_ble_eq_true rfl, Nat.le_of_ble_eq_true rfl⟩ ⟨Nat.le_of_ble_eq_true rfl, Nat.le_of_ble_eq_true rfl⟩ ?_
  exact z_at (pc2 := 102) (lv2 := []) (st2 := []) (ws2 := [wX7 (zcT C) aO o99, wX5 (zcT C) aP sP]) rfl rfl rfl [] rfl (bX7_putRow_102 X hQ  h)
theorem bX7_putRow_59 {C : zCtx} (X : zFx C cX7_putRow 6 RX7 rmX7_putRow none) {aO : Nat → Nat} {aP : Nat → Nat} {sP : zSt} {out : zSt} (hQ : zHv C [wX7 (zcT C) aO out] 0 0) : ∀ (n : Nat) (sO : zSt) (x2 : Int32) (x3 : Int32) (x4 : Int32) (x5 : Int32), fX7_putRow_59 sP n sO x2 x3 x4 x5 = some out → zG C 6 [0] 0 0 [wX7 (zcT C) aO sO, wX5 (zcT C) aP sP] 59 [(0, .ref (aO 0)), (1, .ref (aP 0)), (2, .int x2), (3, .int x3), (4, .int x4), (5, .int x5)] [] := by
  intro n
  induction n with
  | zero =>
    intro sO x2 x3 x4 x5 h
    rw [fX7_putRow_59] at h
    exact zno h
  | succ n ih =>
    intro sO x2 x3 x4 x5 h
    rw [fX7_putRow_59] at h
    refine z_iload X dX7_putRow_59 5 rfl ?_
    refine z_iconst (v := (3 : Int32)) X dX7_putRow_61 rfl ?_
    refine z_icmp_ge (tgt := 84) X dX7_putRow_62 (by decide) (fun c62 => ?_) (fun c62 => ?_)
    · replace h := zif_t h c62
      refine z_aload_n X dX7_putRow_84 0 rfl ?_
      refine z_iload_n X dX7_putRow_85 3 rfl ?_
      refine z_ineg X dX7_putRow_86 ?_
      refine z_iload X dX7_putRow_87 4 rfl ?_
      refine z_bipush (v := (61 : Int32)) X dX7_putRow_89 rfl ?_
      refine z_icmp_ne (tgt := 98) X dX7_putRow_91 (by decide) (fun c91 => ?_) (fun c91 => ?_)
      · replace h := zif_f h c91
        refine z_iconst (v := (0 : Int32)) X dX7_putRow_98 rfl ?_
        exact z_at (pc2 := 99) (lv2 := []) (st2 := [.int (0 : Int32), .int (-x3), .ref (aO 0)]) (ws2 := [wX7 (zcT C) aO sO, wX5 (zcT C) aP sP]) rfl rfl rfl [] rfl (bX7_putRow_99 X hQ  h)
      · replace h := zif_t h c91
        refine z_iconst (v := (1 : Int32)) X dX7_putRow_94 rfl ?_
        refine z_goto (tgt := 99) X dX7_putRow_95 (by decide) ?_
        exact z_at (pc2 := 99) (lv2 := []) (st2 := [.int (1 : Int32), .int (-x3), .ref (aO 0)]) (ws2 := [wX7 (zcT C) aO sO, wX5 (zcT C) aP sP]) rfl rfl rfl [] rfl (bX7_putRow_99 X hQ  h)
    · replace h := zif_f h c62
      refine z_aload_n X dX7_putRow_65 0 rfl ?_
      refine z_iload X dX7_putRow_66 5 rfl ?_
      refine z_aload_n X dX7_putRow_68 1 rfl ?_
      refine z_iload_n X dX7_putRow_69 2 rfl ?_
      refine z_iload X dX7_putRow_70 5 rfl ?_
      obtain ⟨o72, ho72, h⟩ := zbind_of h
      refine z_callVi (st := [.int x5, .ref (aO 0)]) (ws2 := [wX7 (zcT C) aO sO, wX5 (zcT C) aP sP]) X (metX5_rowCoefficient (zcl C) (zcD C) (zcT C) aP ho72) zmX5_rowCoefficient zw532 dX7_putRow_72 1 0 6 rfl rfl rfl rfl [1] rfl rfl [] rfl (by decide) trivial rfl rfl rfl (Nat.le_of_ble_eq_true rfl) rfl rfl ⟨Nat.le_of_ble_eq_true rfl, Nat.le_of_ble_eq_true rfl⟩ ⟨Nat.le_of_ble_eq_true rfl, Nat.le_of_ble_eq_true rfl⟩ ?_
      obtain ⟨o75, ho75, h⟩ := zbind_of h
      refine z_callVv (st := []) (ws2 := [wX7 (zcT C) aO o75, wX5 (zcT C) aP sP]) X (metX7_putSlope (zcl C) (zcD C) (zcT C) aO ho75) zmX7_putSlope zw508 dX7_putRow_75 0 0 8 rfl rfl rfl rfl [0] rfl rfl [0] rfl (by decide) ⟨zsX7 , trivial⟩ rfl rfl rfl (Nat.le_of_ble_eq_true rfl) rfl rfl ⟨Nat.le_of_ble_eq_true rfl, Nat.le_of_ble_eq_true rfl⟩ ⟨Nat.le_of_ble_eq_true rfl, Nat.le_of_ble_eq_true rfl⟩ ?_
      obtain ⟨v78, ev78, h⟩ := zlet_of h
      refine z_iinc (v := v78) (lv2 := [(5, .int v78), (0, .ref (aO 0)), (1, .ref (aP 0)), (2, .int x2), (3, .int x3), (4, .int x4)]) X dX7_putRow_78 (k := 5) rfl (by rw [ev78]; rfl) (by decide) rfl ?_
      refine z_goto (tgt := 59) X dX7_putRow_81 (by decide) ?_
      exact z_at (pc2 := 59) (lv2 := [(0, .ref (aO 0)), (1, .ref (aP 0)), (2, .int x2), (3, .int x3), (4, .int x4), (5, .int v78)]) (st2 := []) (ws2 := [wX7 (zcT C) aO o75, wX5 (zcT C) aP sP]) rfl rfl rfl [1, 2, 3, 4, 5, 0] rfl (ih o75 x2 x3 x4 v78 h)
theorem bX7_putRow_49 {C : zCtx} (X : zFx C cX7_putRow 6 RX7 rmX7_putRow none) {aO : Nat → Nat} {aP : Nat → Nat} {sP : zSt} {sO : zSt} {x2 : Int32} {x3 : Int32} {x4 : Int32} {out : zSt} (hQ : zHv C [wX7 (zcT C) aO out] 0 0) (h : fX7_putRow_49 sP sO x2 x3 x4 = some out) : zG C 6 [0] 0 0 [wX7 (zcT C) aO sO, wX5 (zcT C) aP sP] 49 [(0, .ref (aO 0)), (1, .ref (aP 0)), (2, .int x2), (3, .int x3), (4, .int x4)] [] := by
  unfold fX7_putRow_49 at h
  refine z_iload X dX7_putRow_49 4 rfl ?_
  refine z_bipush (v := (60 : Int32)) X dX7_putRow_51 rfl ?_
  refine z_icmp_eq (tgt := 102) X dX7_putRow_53 (by decide) (fun c53 => ?_) (fun c53 => ?_)
  · replace h := zif_t h c53
    exact z_at (pc2 := 102) (lv2 := []) (st2 := []) (ws2 := [wX7 (zcT C) aO sO, wX5 (zcT C) aP sP]) rfl rfl rfl [] rfl (bX7_putRow_102 X hQ  h)
  · replace h := zif_f h c53
    refine z_iconst (v := (0 : Int32)) X dX7_putRow_56 rfl ?_
    refine z_istore (lv2 := [(5, .int (0 : Int32)), (0, .ref (aO 0)), (1, .ref (aP 0)), (2, .int x2), (3, .int x3), (4, .int x4)]) X dX7_putRow_57 (by decide) rfl ?_
    exact z_at (pc2 := 59) (lv2 := [(0, .ref (aO 0)), (1, .ref (aP 0)), (2, .int x2), (3, .int x3), (4, .int x4), (5, .int (0 : Int32))]) (st2 := []) (ws2 := [wX7 (zcT C) aO sO, wX5 (zcT C) aP sP]) rfl rfl rfl [1, 2, 3, 4, 5, 0] rfl (bX7_putRow_59 X hQ  6000 sO x2 x3 x4 (0 : Int32) h)
theorem bX7_putRow_17 {C : zCtx} (X : zFx C cX7_putRow 6 RX7 rmX7_putRow none) {aO : Nat → Nat} {aP : Nat → Nat} {sP : zSt} {out : zSt} (hQ : zHv C [wX7 (zcT C) aO out] 0 0) : ∀ (n : Nat) (sO : zSt) (x2 : Int32) (x3 : Int32) (x4 : Int32) (x5 : Int32), fX7_putRow_17 sP n sO x2 x3 x4 x5 = some out → zG C 6 [0] 0 0 [wX7 (zcT C) aO sO, wX5 (zcT C) aP sP] 17 [(0, .ref (aO 0)), (1, .ref (aP 0)), (2, .int x2), (3, .int x3), (4, .int x4), (5, .int x5)] [] := by
  intro n
  induction n with
  | zero =>
    intro sO x2 x3 x4 x5 h
    rw [fX7_putRow_17] at h
    exact zno h
  | succ n ih =>
    intro sO x2 x3 x4 x5 h
    rw [fX7_putRow_17] at h
    refine z_iload X dX7_putRow_17 5 rfl ?_
    refine z_iconst (v := (3 : Int32)) X dX7_putRow_19 rfl ?_
    refine z_icmp_ge (tgt := 43) X dX7_putRow_20 (by decide) (fun c20 => ?_) (fun c20 => ?_)
    · replace h := zif_t h c20
      refine z_aload_n X dX7_putRow_43 0 rfl ?_
      refine z_iload_n X dX7_putRow_44 3 rfl ?_
      refine z_iconst (v := (0 : Int32)) X dX7_putRow_45 rfl ?_
      obtain ⟨o46, ho46, h⟩ := zbind_of h
      refine z_callVv (st := []) (ws2 := [wX7 (zcT C) aO o46, wX5 (zcT C) aP sP]) X (metX7_close (zcl C) (zcD C) (zcT C) aO ho46) zmX7_close zw512 dX7_putRow_46 0 0 8 rfl rfl rfl rfl [0] rfl rfl [0] rfl (by decide) ⟨zsX7 , trivial⟩ rfl rfl rfl (Nat.le_of_ble_eq_true rfl) rfl rfl ⟨Nat.le_of_ble_eq_true rfl, Nat.le_of_ble_eq_true rfl⟩ ⟨Nat.le_of_ble_eq_true rfl, Nat.le_of_ble_eq_true rfl⟩ ?_
      exact z_at (pc2 := 49) (lv2 := [(0, .ref (aO 0)), (1, .ref (aP 0)), (2, .int x2), (3, .int x3), (4, .int x4)]) (st2 := []) (ws2 := [wX7 (zcT C) aO o46, wX5 (zcT C) aP sP]) rfl rfl rfl [0, 1, 2, 3, 4] rfl (bX7_putRow_49 X hQ  h)
    · replace h := zif_f h c20
      refine z_aload_n X dX7_putRow_23 0 rfl ?_
      refine z_iload X dX7_putRow_24 5 rfl ?_
      refine z_aload_n X dX7_putRow_26 1 rfl ?_
      refine z_iload_n X dX7_putRow_27 2 rfl ?_
      refine z_iload X dX7_putRow_28 5 rfl ?_
      obtain ⟨o30, ho30, h⟩ := zbind_of h
      refine z_callVi (st := [.int x5, .ref (aO 0)]) (ws2 := [wX7 (zcT C) aO sO, wX5 (zcT C) aP sP]) X (metX5_rowCoefficient (zcl C) (zcD C) (zcT C) aP ho30) zmX5_rowCoefficient zw532 dX7_putRow_30 1 0 6 rfl rfl rfl rfl [1] rfl rfl [] rfl (by decide) trivial rfl rfl rfl (Nat.le_of_ble_eq_true rfl) rfl rfl ⟨Nat.le_of_ble_eq_true rfl, Nat.le_of_ble_eq_true rfl⟩ ⟨Nat.le_of_ble_eq_true rfl, Nat.le_of_ble_eq_true rfl⟩ ?_
      refine z_ineg X dX7_putRow_33 ?_
      obtain ⟨o34, ho34, h⟩ := zbind_of h
      refine z_callVv (st := []) (ws2 := [wX7 (zcT C) aO o34, wX5 (zcT C) aP sP]) X (metX7_putSlope (zcl C) (zcD C) (zcT C) aO ho34) zmX7_putSlope zw508 dX7_putRow_34 0 0 8 rfl rfl rfl rfl [0] rfl rfl [0] rfl (by decide) ⟨zsX7 , trivial⟩ rfl rfl rfl (Nat.le_of_ble_eq_true rfl) rfl rfl ⟨Nat.le_of_ble_eq_true rfl, Nat.le_of_ble_eq_true rfl⟩ ⟨Nat.le_of_ble_eq_true rfl, Nat.le_of_ble_eq_true rfl⟩ ?_
      obtain ⟨v37, ev37, h⟩ := zlet_of h
      refine z_iinc (v := v37) (lv2 := [(5, .int v37), (0, .ref (aO 0)), (1, .ref (aP 0)), (2, .int x2), (3, .int x3), (4, .int x4)]) X dX7_putRow_37 (k := 5) rfl (by rw [ev37]; rfl) (by decide) rfl ?_
      refine z_goto (tgt := 17) X dX7_putRow_40 (by decide) ?_
      exact z_at (pc2 := 17) (lv2 := [(0, .ref (aO 0)), (1, .ref (aP 0)), (2, .int x2), (3, .int x3), (4, .int x4), (5, .int v37)]) (st2 := []) (ws2 := [wX7 (zcT C) aO o34, wX5 (zcT C) aP sP]) rfl rfl rfl [1, 2, 3, 4, 5, 0] rfl (ih o34 x2 x3 x4 v37 h)
theorem bX7_putRow_0 {C : zCtx} (X : zFx C cX7_putRow 6 RX7 rmX7_putRow none) {aO : Nat → Nat} {aP : Nat → Nat} {sO : zSt} {sP : zSt} {x2 : Int32} {x3 : Int32} {out : zSt} (hQ : zHv C [wX7 (zcT C) aO out] 0 0) (h : fX7_putRow sO sP x2 x3 = some out) : zG C 6 [0] 0 0 [wX7 (zcT C) aO sO, wX5 (zcT C) aP sP] 0 [(0, .ref (aO 0)), (1, .ref (aP 0)), (2, .int x2), (3, .int x3)] [] := by
  unfold fX7_putRow at h
  refine z_aload_n X dX7_putRow_0 1 rfl ?_
  refine z_iload_n X dX7_putRow_1 2 rfl ?_
  obtain ⟨o2, ho2, h⟩ := zbind_of h
  refine z_callVi (st := []) (ws2 := [wX7 (zcT C) aO sO, wX5 (zcT C) aP sP]) X (metX5_relationOf (zcl C) (zcD C) (zcT C) aP ho2) zmX5_relationOf zw528 dX7_putRow_2 1 0 6 rfl rfl rfl rfl [1] rfl rfl [] rfl (by decide) trivial rfl rfl rfl (Nat.le_of_ble_eq_true rfl) rfl rfl ⟨Nat.le_of_ble_eq_true rfl, Nat.le_of_ble_eq_true rfl⟩ ⟨Nat.le_of_ble_eq_true rfl, Nat.le_of_ble_eq_true rfl⟩ ?_
  refine z_istore (lv2 := [(4, .int o2), (0, .ref (aO 0)), (1, .ref (aP 0)), (2, .int x2), (3, .int x3)]) X dX7_putRow_5 (by decide) rfl ?_
  refine z_iload X dX7_putRow_7 0 rfl ?_
  refine z_bipush (v := (62 : Int32)) X dX7_putRow_9 rfl ?_
  refine z_icmp_eq (tgt := 49) X dX7_putRow_11 (by decide) (fun c11 => ?_) (fun c11 => ?_)
  · replace h := zif_t h c11
    exact z_at (pc2 := 49) (lv2 := [(0, .ref (aO 0)), (1, .ref (aP 0)), (2, .int x2), (3, .int x3), (4, .int o2)]) (st2 := []) (ws2 := [wX7 (zcT C) aO sO, wX5 (zcT C) aP sP]) rfl rfl rfl [1, 2, 3, 4, 0] rfl (bX7_putRow_49 X hQ  h)
  · replace h := zif_f h c11
    refine z_iconst (v := (0 : Int32)) X dX7_putRow_14 rfl ?_
    refine z_istore (lv2 := [(5, .int (0 : Int32)), (4, .int o2), (0, .ref (aO 0)), (1, .ref (aP 0)), (2, .int x2), (3, .int x3)]) X dX7_putRow_15 (by decide) rfl ?_
    exact z_at (pc2 := 17) (lv2 := [(0, .ref (aO 0)), (1, .ref (aP 0)), (2, .int x2), (3, .int x3), (4, .int o2), (5, .int (0 : Int32))]) (st2 := []) (ws2 := [wX7 (zcT C) aO sO, wX5 (zcT C) aP sP]) rfl rfl rfl [2, 3, 4, 5, 1, 0] rfl (bX7_putRow_17 X hQ  6000 sO x2 x3 o2 (0 : Int32) h)
theorem metX7_putRow (l : Launch) (D : va_G) (T : Nat → ClassId) (aO : Nat → Nat) (aP : Nat → Nat) {sO : zSt} {sP : zSt} {x2 : Int32} {x3 : Int32} {out : zSt} (hf : fX7_putRow sO sP x2 x3 = some out) (sz : Nat) : Met l yX7_putRow (zws yX7_putRow cX7_putRow 6 none) rmX7_putRow (zPc D T [.ref (aO 0), .ref (aP 0), .int x2, .int x3] [wX7 T aO sO, wX5 T aP sP] sz) (zQv D [wX7 T aO out] (zA [wX7 T aO sO] sz)) 0 0 (zA [wX7 T aO sO] sz) :=
  zMet (D := D) (T := T) (av := [.ref (aO 0), .ref (aP 0), .int x2, .int x3]) (ws := fun T => [wX7 T aO sO, wX5 T aP sP]) (wm := fun T => [wX7 T aO sO]) (lv0 := [(0, .ref (aO 0)), (1, .ref (aP 0)), (2, .int x2), (3, .int x3)]) [0] (Qc := fun D T A => zQv D [wX7 T aO out] A) (by decide +kernel) rfl (Nat.le_of_ble_eq_true rfl) rfl (fun C X hQ => bX7_putRow_0 X hQ hf) sz
/-- void gather(Tableaufloor$Program, int, int); of Tableaufloor$Sides -/
abbrev rmX7_gather : Room := { frames := 2, cells := 0, slots := 0, locals := 48 }
def fX7_gather_129 (sP : zSt) (k98 : zSt → Int32 → Option (zSt)) (sO : zSt) (x4 : Int32) : Option (zSt) :=
  (zlet (x4 + 1) (fun v129 =>
    (k98 sO v129)))
def fX7_gather_98 (sP : zSt) : Nat → zSt → Int32 → Option (zSt)
  | 0, _, _ => none
  | n + 1, sO, x4 =>
    (if (zgi sP 8) ≤ x4 then
      some (sO)
    else
      ((fX5_hasGreatest sP x4).bind (fun o110 =>
        (if o110 = 0 then
        (fX7_gather_129 sP (fX7_gather_98 sP n) sO x4)
      else
        ((fX5_greatestOf sP x4).bind (fun o123 =>
          ((fX7_putBound sO x4 (-1 : Int32) o123).bind (fun o126 =>
          (fX7_gather_129 sP (fX7_gather_98 sP n) o126 x4)))))))))
def fX7_gather_89 (sP : zSt) (k37 : zSt → Int32 → Int32 → Int32 → Option (zSt)) (sO : zSt) (x2 : Int32) (x3 : Int32) (x4 : Int32) : Option (zSt) :=
  (zlet (x4 + 1) (fun v89 =>
    (k37 sO x2 x3 v89)))
def fX7_gather_85 (sP : zSt) (k37 : zSt → Int32 → Int32 → Int32 → Option (zSt)) (sO : zSt) (x2 : Int32) (x3 : Int32) (x4 : Int32) (y2 : Int32) (y3 : Int32) (y4 : Int32) : Option (zSt) :=
  ((fX7_putRow sO sP y2 (y3 + y4)).bind (fun o86 =>
    (fX7_gather_89 sP k37 o86 x2 x3 x4)))
def fX7_gather_37 (sP : zSt) : Nat → zSt → Int32 → Int32 → Int32 → Option (zSt)
  | 0, _, _, _, _ => none
  | n + 1, sO, x2, x3, x4 =>
    (if (zgi sP 9) ≤ x4 then
      (fX7_gather_98 sP 6000 sO (0 : Int32))
    else
      ((fX5_isLive sP x4).bind (fun o49 =>
        (if o49 = 0 then
        (fX7_gather_89 sP (fX7_gather_37 sP n) sO x2 x3 x4)
      else
        (if ((x2 >>> (x4 &&& 31)) &&& (1 : Int32)) = 0 then
          ((fX5_numberOf sP x4).bind (fun o71 =>
            (if x4 = x3 then
            (fX7_gather_85 sP (fX7_gather_37 sP n) sO x2 x3 x4 x4 o71 (1 : Int32))
          else
            (fX7_gather_85 sP (fX7_gather_37 sP n) sO x2 x3 x4 x4 o71 (0 : Int32)))))
        else
          (fX7_gather_89 sP (fX7_gather_37 sP n) sO x2 x3 x4))))))
def fX7_gather_8 (sP : zSt) : Nat → zSt → Int32 → Int32 → Int32 → Option (zSt)
  | 0, _, _, _, _ => none
  | n + 1, sO, x2, x3, x4 =>
    (if (3 : Int32) ≤ x4 then
      (fX7_gather_37 sP 6000 sO x2 x3 (0 : Int32))
    else
      ((fX5_leastOf sP x4).bind (fun o21 =>
        ((fX7_putBound sO x4 (1 : Int32) (-o21)).bind (fun o25 =>
        (zlet (x4 + 1) (fun v28 =>
        (fX7_gather_8 sP n o25 x2 x3 v28))))))))
def fX7_gather (sO : zSt) (sP : zSt) (x2 : Int32) (x3 : Int32) : Option (zSt) :=
  (zlet (zsi sO 3 (0 : Int32)) (fun sO2 =>
    (fX7_gather_8 sP 6000 sO2 x2 x3 (0 : Int32))))
theorem bX7_gather_129 {C : zCtx} (X : zFx C cX7_gather 5 RX7 rmX7_gather none) {aO : Nat → Nat} {aP : Nat → Nat} {sP : zSt} {k98 : zSt → Int32 → Option (zSt)} {sO : zSt} {x4 : Int32} {out : zSt} (hQ : zHv C [wX7 (zcT C) aO out] 0 0) (hk98 : ∀ (sO : zSt) (x4 : Int32), k98 sO x4 = some out → zG C 5 [0] 0 0 [wX7 (zcT C) aO sO, wX5 (zcT C) aP sP] 98 [(0, .ref (aO 0)), (1, .ref (aP 0)), (4, .int x4)] []) (h : fX7_gather_129 sP k98 sO x4 = some out) : zG C 5 [0] 0 0 [wX7 (zcT C) aO sO, wX5 (zcT C) aP sP] 129 [(0, .ref (aO 0)), (1, .ref (aP 0)), (4, .int x4)] [] := by
  unfold fX7_gather_129 at h
  obtain ⟨v129, ev129, h⟩ := zlet_of h
  refine z_iinc (v := v129) (lv2 := [(4, .int v129), (0, .ref (aO 0)), (1, .ref (aP 0))]) X dX7_gather_129 (k := 2) rfl (by rw [ev129]; rfl) (by decide) rfl ?_
  refine z_goto (tgt := 98) X dX7_gather_132 (by decide) ?_
  exact z_at (pc2 := 98) (lv2 := [(0, .ref (aO 0)), (1, .ref (aP 0)), (4, .int v129)]) (st2 := []) (ws2 := [wX7 (zcT C) aO sO, wX5 (zcT C) aP sP]) rfl rfl rfl [1, 2, 0] rfl (hk98 sO v129 h)
theorem bX7_gather_98 {C : zCtx} (X : zFx C cX7_gather 5 RX7 rmX7_gather none) {aO : Nat → Nat} {aP : Nat → Nat} {sP : zSt} {out : zSt} (hQ : zHv C [wX7 (zcT C) aO out] 0 0) : ∀ (n : Nat) (sO : zSt) (x4 : Int32), fX7_gather_98 sP n sO x4 = some out → zG C 5 [0] 0 0 [wX7 (zcT C) aO sO, wX5 (zcT C) aP sP] 98 [(0, .ref (aO 0)), (1, .ref (aP 0)), (4, .int x4)] [] := by
  intro n
  induction n with
  | zero =>
    intro sO x4 h
    rw [fX7_gather_98] at h
    exact zno h
  | succ n ih =>
    intro sO x4 h
    rw [fX7_gather_98] at h
    refine z_iload X dX7_gather_98 2 rfl ?_
    refine z_aload_n X dX7_gather_100 1 rfl ?_
    refine z_getN (v := .int (zgi sP 8)) X 1 0 6 8 ziX5 rfl (by decide) zw60 rfl dX7_gather_101 rfl rfl rfl ?_
    refine z_icmp_ge (tgt := 135) X dX7_gather_104 (by decide) (fun c104 => ?_) (fun c104 => ?_)
    · replace h := zif_t h c104
      cases h
      exact z_vret X hQ dX7_gather_135 [0] rfl (by decide) (by decide)
    · replace h := zif_f h c104
      refine z_aload_n X dX7_gather_107 1 rfl ?_
      refine z_iload X dX7_gather_108 2 rfl ?_
      obtain ⟨o110, ho110, h⟩ := zbind_of h
      refine z_callVi (st := []) (ws2 := [wX7 (zcT C) aO sO, wX5 (zcT C) aP sP]) X (metX5_hasGreatest (zcl C) (zcD C) (zcT C) aP ho110) zmX5_hasGreatest zw536 dX7_gather_110 1 0 6 rfl rfl rfl rfl [1] rfl rfl [] rfl (by decide) trivial rfl rfl rfl (Nat.le_of_ble_eq_true rfl) rfl rfl ⟨Nat.le_of_ble_eq_true rfl, Nat.le_of_ble_eq_true rfl⟩ ⟨Nat.le_of_ble_eq_true rfl, Nat.le_of_ble_eq_true rfl⟩ ?_
      refine z_if_eq (tgt := 129) X dX7_gather_113 (by decide) (fun c113 => ?_) (fun c113 => ?_)
      · replace h := zif_t h c113
        exact z_at (pc2 := 129) (lv2 := [(0, .ref (aO 0)), (1, .ref (aP 0)), (4, .int x4)]) (st2 := []) (ws2 := [wX7 (zcT C) aO sO, wX5 (zcT C) aP sP]) rfl rfl rfl [0, 1, 2] rfl (bX7_gather_129 X hQ ih h)
      · replace h := zif_f h c113
        refine z_aload_n X dX7_gather_116 0 rfl ?_
        refine z_iload X dX7_gather_117 2 rfl ?_
        refine z_iconst (v := (-1 : Int32)) X dX7_gather_119 rfl ?_
        refine z_aload_n X dX7_gather_120 1 rfl ?_
        refine z_iload X dX7_gather_121 2 rfl ?_
        obtain ⟨o123, ho123, h⟩ := zbind_of h
        refine z_callVi (st := [.int (-1 : Int32), .int x4, .ref (aO 0)]) (ws2 := [wX7 (zcT C) aO sO, wX5 (zcT C) aP sP]) X (metX5_greatestOf (zcl C) (zcD C) (zcT C) aP ho123) zmX5_greatestOf zw544 dX7_gather_123 1 0 6 rfl rfl rfl rfl [1] rfl rfl [] rfl (by decide) trivial rfl rfl rfl (Nat.le_of_ble_eq_true rfl) rfl rfl ⟨Nat.le_of_ble_eq_true rfl, Nat.le_of_ble_eq_true rfl⟩ ⟨Nat.le_of_ble_eq_true rfl, Nat.le_of_ble_eq_true rfl⟩ ?_
        obtain ⟨o126, ho126, h⟩ := zbind_of h
        refine z_callVv (st := []) (ws2 := [wX7 (zcT C) aO o126, wX5 (zcT C) aP sP]) X (metX7_putBound (zcl C) (zcD C) (zcT C) aO ho126) zmX7_putBound zw504 dX7_gather_126 0 0 8 rfl rfl rfl rfl [0] rfl rfl [0] rfl (by decide) ⟨zsX7 , trivial⟩ rfl rfl rfl (Nat.le_of_ble_eq_true rfl) rfl rfl ⟨Nat.le_of_ble_eq_true rfl, Nat.le_of_ble_eq_true rfl⟩ ⟨Nat.le_of_ble_eq_true rfl, Nat.le_of_ble_eq_true rfl⟩ ?_
        exact z_at (pc2 := 129) (lv2 := [(0, .ref (aO 0)), (1, .ref (aP 0)), (4, .int x4)]) (st2 := []) (ws2 := [wX7 (zcT C) aO o126, wX5 (zcT C) aP sP]) rfl rfl rfl [0, 1, 2] rfl (bX7_gather_129 X hQ ih h)
theorem bX7_gather_89 {C : zCtx} (X : zFx C cX7_gather 5 RX7 rmX7_gather none) {aO : Nat → Nat} {aP : Nat → Nat} {sP : zSt} {k37 : zSt → Int32 → Int32 → Int32 → Option (zSt)} {sO : zSt} {x2 : Int32} {x3 : Int32} {x4 : Int32} {out : zSt} (hQ : zHv C [wX7 (zcT C) aO out] 0 0) (hk37 : ∀ (sO : zSt) (x2 : Int32) (x3 : Int32) (x4 : Int32), k37 sO x2 x3 x4 = some out → zG C 5 [0] 0 0 [wX7 (zcT C) aO sO, wX5 (zcT C) aP sP] 37 [(0, .ref (aO 0)), (1, .ref (aP 0)), (2, .int x2), (3, .int x3), (4, .int x4)] []) (h : fX7_gather_89 sP k37 sO x2 x3 x4 = some out) : zG C 5 [0] 0 0 [wX7 (zcT C) aO sO, wX5 (zcT C) aP sP] 89 [(0, .ref (aO 0)), (1, .ref (aP 0)), (2, .int x2), (3, .int x3), (4, .int x4)] [] := by
  unfold fX7_gather_89 at h
  obtain ⟨v89, ev89, h⟩ := zlet_of h
  refine z_iinc (v := v89) (lv2 := [(4, .int v89), (0, .ref (aO 0)), (1, .ref (aP 0)), (2, .int x2), (3, .int x3)]) X dX7_gather_89 (k := 4) rfl (by rw [ev89]; rfl) (by decide) rfl ?_
  refine z_goto (tgt := 37) X dX7_gather_92 (by decide) ?_
  exact z_at (pc2 := 37) (lv2 := [(0, .ref (aO 0)), (1, .ref (aP 0)), (2, .int x2), (3, .int x3), (4, .int v89)]) (st2 := []) (ws2 := [wX7 (zcT C) aO sO, wX5 (zcT C) aP sP]) rfl rfl rfl [1, 2, 3, 4, 0] rfl (hk37 sO x2 x3 v89 h)
theorem bX7_gather_85 {C : zCtx} (X : zFx C cX7_gather 5 RX7 rmX7_gather none) {aO : Nat → Nat} {aP : Nat → Nat} {sP : zSt} {k37 : zSt → Int32 → Int32 → Int32 → Option (zSt)} {sO : zSt} {x2 : Int32} {x3 : Int32} {x4 : Int32} {y2 : Int32} {y3 : Int32} {y4 : Int32} {out : zSt} (hQ : zHv C [wX7 (zcT C) aO out] 0 0) (hk37 : ∀ (sO : zSt) (x2 : Int32) (x3 : Int32) (x4 : Int32), k37 sO x2 x3 x4 = some out → zG C 5 [0] 0 0 [wX7 (zcT C) aO sO, wX5 (zcT C) aP sP] 37 [(0, .ref (aO 0)), (1, .ref (aP 0)), (2, .int x2), (3, .int x3), (4, .int x4)] []) (h : fX7_gather_85 sP k37 sO x2 x3 x4 y2 y3 y4 = some out) : zG C 5 [0] 0 0 [wX7 (zcT C) aO sO, wX5 (zcT C) aP sP] 85 [(0, .ref (aO 0)), (1, .ref (aP 0)), (2, .int x2), (3, .int x3), (4, .int x4)] [.int y4, .int y3, .int y2, .ref (aP 0), .ref (aO 0)] := by
  unfold fX7_gather_85 at h
  refine z_iadd X dX7_gather_85 ?_
  obtain ⟨o86, ho86, h⟩ := zbind_of h
  refine z_callVv (st := []) (ws2 := [wX7 (zcT C) aO o86, wX5 (zcT C) aP sP]) X (metX7_putRow (zcl C) (zcD C) (zcT C) aO aP ho86) zmX7_putRow zw524 dX7_gather_86 0 0 8 rfl rfl rfl rfl [0, 1] rfl rfl [0] rfl (by decide) ⟨zsX7 , trivial⟩ rfl rfl rfl (Nat.le_of_ble_eq_true rfl) rfl rfl ⟨Nat.le_of_ble_eq_true rfl, Nat.le_of_ble_eq_true rfl⟩ ⟨Nat.le_of_ble_eq_true rfl, Nat.le_of_ble_eq_true rfl⟩ ?_
  exact z_at (pc2 := 89) (lv2 := [(0, .ref (aO 0)), (1, .ref (aP 0)), (2, .int x2), (3, .int x3), (4, .int x4)]) (st2 := []) (ws2 := [wX7 (zcT C) aO o86, wX5 (zcT C) aP sP]) rfl rfl rfl [0, 1, 2, 3, 4] rfl (bX7_gather_89 X hQ hk37 h)
theorem bX7_gather_37 {C : zCtx} (X : zFx C cX7_gather 5 RX7 rmX7_gather none) {aO : Nat → Nat} {aP : Nat → Nat} {sP : zSt} {out : zSt} (hQ : zHv C [wX7 (zcT C) aO out] 0 0) : ∀ (n : Nat) (sO : zSt) (x2 : Int32) (x3 : Int32) (x4 : Int32), fX7_gather_37 sP n sO x2 x3 x4 = some out → zG C 5 [0] 0 0 [wX7 (zcT C) aO sO, wX5 (zcT C) aP sP] 37 [(0, .ref (aO 0)), (1, .ref (aP 0)), (2, .int x2), (3, .int x3), (4, .int x4)] [] := by
  intro n
  induction n with
  | zero =>
    intro sO x2 x3 x4 h
    rw [fX7_gather_37] at h
    exact zno h
  | succ n ih =>
    intro sO x2 x3 x4 h
    rw [fX7_gather_37] at h
    refine z_iload X dX7_gather_37 4 rfl ?_
    refine z_aload_n X dX7_gather_39 1 rfl ?_
    refine z_getN (v := .int (zgi sP 9)) X 1 0 6 9 ziX5 rfl (by decide) zw64 rfl dX7_gather_40 rfl rfl rfl ?_
    refine z_icmp_ge (tgt := 95) X dX7_gather_43 (by decide) (fun c43 => ?_) (fun c43 => ?_)
    · replace h := zif_t h c43
      refine z_iconst (v := (0 : Int32)) X dX7_gather_95 rfl ?_
      refine z_istore (lv2 := [(4, .int (0 : Int32)), (0, .ref (aO 0)), (1, .ref (aP 0)), (2, .int x2), (3, .int x3)]) X dX7_gather_96 (by decide) rfl ?_
      exact z_at (pc2 := 98) (lv2 := [(0, .ref (aO 0)), (1, .ref (aP 0)), (4, .int (0 : Int32))]) (st2 := []) (ws2 := [wX7 (zcT C) aO sO, wX5 (zcT C) aP sP]) rfl rfl rfl [1, 2, 0] rfl (bX7_gather_98 X hQ  6000 sO (0 : Int32) h)
    · replace h := zif_f h c43
      refine z_aload_n X dX7_gather_46 1 rfl ?_
      refine z_iload X dX7_gather_47 4 rfl ?_
      obtain ⟨o49, ho49, h⟩ := zbind_of h
      refine z_callVi (st := []) (ws2 := [wX7 (zcT C) aO sO, wX5 (zcT C) aP sP]) X (metX5_isLive (zcl C) (zcD C) (zcT C) aP ho49) zmX5_isLive zw516 dX7_gather_49 1 0 6 rfl rfl rfl rfl [1] rfl rfl [] rfl (by decide) trivial rfl rfl rfl (Nat.le_of_ble_eq_true rfl) rfl rfl ⟨Nat.le_of_ble_eq_true rfl, Nat.le_of_ble_eq_true rfl⟩ ⟨Nat.le_of_ble_eq_true rfl, Nat.le_of_ble_eq_true rfl⟩ ?_
      refine z_if_eq (tgt := 89) X dX7_gather_52 (by decide) (fun c52 => ?_) (fun c52 => ?_)
      · replace h := zif_t h c52
        exact z_at (pc2 := 89) (lv2 := [(0, .ref (aO 0)), (1, .ref (aP 0)), (2, .int x2), (3, .int x3), (4, .int x4)]) (st2 := []) (ws2 := [wX7 (zcT C) aO sO, wX5 (zcT C) aP sP]) rfl rfl rfl [0, 1, 2, 3, 4] rfl (bX7_gather_89 X hQ ih h)
      · replace h := zif_f h c52
        refine z_iload_n X dX7_gather_55 2 rfl ?_
        refine z_iload X dX7_gather_56 4 rfl ?_
        refine z_ishr X dX7_gather_58 ?_
        refine z_iconst (v := (1 : Int32)) X dX7_gather_59 rfl ?_
        refine z_iand X dX7_gather_60 ?_
        refine z_if_ne (tgt := 89) X dX7_gather_61 (by decide) (fun c61 => ?_) (fun c61 => ?_)
        · replace h := zif_f h c61
          exact z_at (pc2 := 89) (lv2 := [(0, .ref (aO 0)), (1, .ref (aP 0)), (2, .int x2), (3, .int x3), (4, .int x4)]) (st2 := []) (ws2 := [wX7 (zcT C) aO sO, wX5 (zcT C) aP sP]) rfl rfl rfl [0, 1, 2, 3, 4] rfl (bX7_gather_89 X hQ ih h)
        · replace h := zif_t h c61
          refine z_aload_n X dX7_gather_64 0 rfl ?_
          refine z_aload_n X dX7_gather_65 1 rfl ?_
          refine z_iload X dX7_gather_66 4 rfl ?_
          refine z_aload_n X dX7_gather_68 1 rfl ?_
          refine z_iload X dX7_gather_69 4 rfl ?_
          obtain ⟨o71, ho71, h⟩ := zbind_of h
          refine z_callVi (st := [.int x4, .ref (aP 0), .ref (aO 0)]) (ws2 := [wX7 (zcT C) aO sO, wX5 (zcT C) aP sP]) X (metX5_numberOf (zcl C) (zcD C) (zcT C) aP ho71) zmX5_numberOf zw520 dX7_gather_71 1 0 6 rfl rfl rfl rfl [1] rfl rfl [] rfl (by decide) trivial rfl rfl rfl (Nat.le_of_ble_eq_true rfl) rfl rfl ⟨Nat.le_of_ble_eq_true rfl, Nat.le_of_ble_eq_true rfl⟩ ⟨Nat.le_of_ble_eq_true rfl, Nat.le_of_ble_eq_true rfl⟩ ?_
          refine z_iload X dX7_gather_74 4 rfl ?_
          refine z_iload_n X dX7_gather_76 3 rfl ?_
          refine z_icmp_ne (tgt := 84) X dX7_gather_77 (by decide) (fun c77 => ?_) (fun c77 => ?_)
          · replace h := zif_f h c77
            refine z_iconst (v := (0 : Int32)) X dX7_gather_84 rfl ?_
            exact z_at (pc2 := 85) (lv2 := [(0, .ref (aO 0)), (1, .ref (aP 0)), (2, .int x2), (3, .int x3), (4, .int x4)]) (st2 := [.int (0 : Int32), .int o71, .int x4, .ref (aP 0), .ref (aO 0)]) (ws2 := [wX7 (zcT C) aO sO, wX5 (zcT C) aP sP]) rfl rfl rfl [0, 1, 2, 3, 4] rfl (bX7_gather_85 X hQ ih h)
          · replace h := zif_t h c77
            refine z_iconst (v := (1 : Int32)) X dX7_gather_80 rfl ?_
            refine z_goto (tgt := 85) X dX7_gather_81 (by decide) ?_
            exact z_at (pc2 := 85) (lv2 := [(0, .ref (aO 0)), (1, .ref (aP 0)), (2, .int x2), (3, .int x3), (4, .int x4)]) (st2 := [.int (1 : Int32), .int o71, .int x4, .ref (aP 0), .ref (aO 0)]) (ws2 := [wX7 (zcT C) aO sO, wX5 (zcT C) aP sP]) rfl rfl rfl [0, 1, 2, 3, 4] rfl (bX7_gather_85 X hQ ih h)
theorem bX7_gather_8 {C : zCtx} (X : zFx C cX7_gather 5 RX7 rmX7_gather none) {aO : Nat → Nat} {aP : Nat → Nat} {sP : zSt} {out : zSt} (hQ : zHv C [wX7 (zcT C) aO out] 0 0) : ∀ (n : Nat) (sO : zSt) (x2 : Int32) (x3 : Int32) (x4 : Int32), fX7_gather_8 sP n sO x2 x3 x4 = some out → zG C 5 [0] 0 0 [wX7 (zcT C) aO sO, wX5 (zcT C) aP sP] 8 [(0, .ref (aO 0)), (1, .ref (aP 0)), (2, .int x2), (3, .int x3), (4, .int x4)] [] := by
  intro n
  induction n with
  | zero =>
    intro sO x2 x3 x4 h
    rw [fX7_gather_8] at h
    exact zno h
  | succ n ih =>
    intro sO x2 x3 x4 h
    rw [fX7_gather_8] at h
    refine z_iload X dX7_gather_8 4 rfl ?_
    refine z_iconst (v := (3 : Int32)) X dX7_gather_10 rfl ?_
    refine z_icmp_ge (tgt := 34) X dX7_gather_11 (by decide) (fun c11 => ?_) (fun c11 => ?_)
    · replace h := zif_t h c11
      refine z_iconst (v := (0 : Int32)) X dX7_gather_34 rfl ?_
      refine z_istore (lv2 := [(4, .int (0 : Int32)), (0, .ref (aO 0)), (1, .ref (aP 0)), (2, .int x2), (3, .int x3)]) X dX7_gather_35 (by decide) rfl ?_
      exact z_at (pc2 := 37) (lv2 := [(0, .ref (aO 0)), (1, .ref (aP 0)), (2, .int x2), (3, .int x3), (4, .int (0 : Int32))]) (st2 := []) (ws2 := [wX7 (zcT C) aO sO, wX5 (zcT C) aP sP]) rfl rfl rfl [1, 2, 3, 4, 0] rfl (bX7_gather_37 X hQ  6000 sO x2 x3 (0 : Int32) h)
    · replace h := zif_f h c11
      refine z_aload_n X dX7_gather_14 0 rfl ?_
      refine z_iload X dX7_gather_15 4 rfl ?_
      refine z_iconst (v := (1 : Int32)) X dX7_gather_17 rfl ?_
      refine z_aload_n X dX7_gather_18 1 rfl ?_
      refine z_iload X dX7_gather_19 4 rfl ?_
      obtain ⟨o21, ho21, h⟩ := zbind_of h
      refine z_callVi (st := [.int (1 : Int32), .int x4, .ref (aO 0)]) (ws2 := [wX7 (zcT C) aO sO, wX5 (zcT C) aP sP]) X (metX5_leastOf (zcl C) (zcD C) (zcT C) aP ho21) zmX5_leastOf zw500 dX7_gather_21 1 0 6 rfl rfl rfl rfl [1] rfl rfl [] rfl (by decide) trivial rfl rfl rfl (Nat.le_of_ble_eq_true rfl) rfl rfl ⟨Nat.le_of_ble_eq_true rfl, Nat.le_of_ble_eq_true rfl⟩ ⟨Nat.le_of_ble_eq_true rfl, Nat.le_of_ble_eq_true rfl⟩ ?_
      refine z_ineg X dX7_gather_24 ?_
      obtain ⟨o25, ho25, h⟩ := zbind_of h
      refine z_callVv (st := []) (ws2 := [wX7 (zcT C) aO o25, wX5 (zcT C) aP sP]) X (metX7_putBound (zcl C) (zcD C) (zcT C) aO ho25) zmX7_putBound zw504 dX7_gather_25 0 0 8 rfl rfl rfl rfl [0] rfl rfl [0] rfl (by decide) ⟨zsX7 , trivial⟩ rfl rfl rfl (Nat.le_of_ble_eq_true rfl) rfl rfl ⟨Nat.le_of_ble_eq_true rfl, Nat.le_of_ble_eq_true rfl⟩ ⟨Nat.le_of_ble_eq_true rfl, Nat.le_of_ble_eq_true rfl⟩ ?_
      obtain ⟨v28, ev28, h⟩ := zlet_of h
      refine z_iinc (v := v28) (lv2 := [(4, .int v28), (0, .ref (aO 0)), (1, .ref (aP 0)), (2, .int x2), (3, .int x3)]) X dX7_gather_28 (k := 4) rfl (by rw [ev28]; rfl) (by decide) rfl ?_
      refine z_goto (tgt := 8) X dX7_gather_31 (by decide) ?_
      exact z_at (pc2 := 8) (lv2 := [(0, .ref (aO 0)), (1, .ref (aP 0)), (2, .int x2), (3, .int x3), (4, .int v28)]) (st2 := []) (ws2 := [wX7 (zcT C) aO o25, wX5 (zcT C) aP sP]) rfl rfl rfl [1, 2, 3, 4, 0] rfl (ih o25 x2 x3 v28 h)
theorem bX7_gather_0 {C : zCtx} (X : zFx C cX7_gather 5 RX7 rmX7_gather none) {aO : Nat → Nat} {aP : Nat → Nat} {sO : zSt} {sP : zSt} {x2 : Int32} {x3 : Int32} {out : zSt} (hQ : zHv C [wX7 (zcT C) aO out] 0 0) (h : fX7_gather sO sP x2 x3 = some out) : zG C 5 [0] 0 0 [wX7 (zcT C) aO sO, wX5 (zcT C) aP sP] 0 [(0, .ref (aO 0)), (1, .ref (aP 0)), (2, .int x2), (3, .int x3)] [] := by
  unfold fX7_gather at h
  refine z_aload_n X dX7_gather_0 0 rfl ?_
  refine z_iconst (v := (0 : Int32)) X dX7_gather_1 rfl ?_
  obtain ⟨sO2, esO2, h⟩ := zlet_of h
  refine z_put (ws2 := [wX7 (zcT C) aO sO2, wX5 (zcT C) aP sP]) X 0 0 8 3 ziX7 rfl tyX7 tyX7_ok nmX7 (by decide) zw173 rfl rfl (ty := .int) (by decide +kernel) rfl rfl (by show 3 < 4; decide) dX7_gather_2 rfl rfl (by decide) (w2 := wX7 (zcT C) aO sO2) (by rw [esO2]; rfl) rfl ?_
  refine z_iconst (v := (0 : Int32)) X dX7_gather_5 rfl ?_
  refine z_istore (lv2 := [(4, .int (0 : Int32)), (0, .ref (aO 0)), (1, .ref (aP 0)), (2, .int x2), (3, .int x3)]) X dX7_gather_6 (by decide) rfl ?_
  exact z_at (pc2 := 8) (lv2 := [(0, .ref (aO 0)), (1, .ref (aP 0)), (2, .int x2), (3, .int x3), (4, .int (0 : Int32))]) (st2 := []) (ws2 := [wX7 (zcT C) aO sO2, wX5 (zcT C) aP sP]) rfl rfl rfl [1, 2, 3, 4, 0] rfl (bX7_gather_8 X hQ  6000 sO2 x2 x3 (0 : Int32) h)
theorem metX7_gather (l : Launch) (D : va_G) (T : Nat → ClassId) (aO : Nat → Nat) (aP : Nat → Nat) {sO : zSt} {sP : zSt} {x2 : Int32} {x3 : Int32} {out : zSt} (hf : fX7_gather sO sP x2 x3 = some out) (sz : Nat) : Met l yX7_gather (zws yX7_gather cX7_gather 5 none) rmX7_gather (zPc D T [.ref (aO 0), .ref (aP 0), .int x2, .int x3] [wX7 T aO sO, wX5 T aP sP] sz) (zQv D [wX7 T aO out] (zA [wX7 T aO sO] sz)) 0 0 (zA [wX7 T aO sO] sz) :=
  zMet (D := D) (T := T) (av := [.ref (aO 0), .ref (aP 0), .int x2, .int x3]) (ws := fun T => [wX7 T aO sO, wX5 T aP sP]) (wm := fun T => [wX7 T aO sO]) (lv0 := [(0, .ref (aO 0)), (1, .ref (aP 0)), (2, .int x2), (3, .int x3)]) [0] (Qc := fun D T A => zQv D [wX7 T aO out] A) (by decide +kernel) rfl (Nat.le_of_ble_eq_true rfl) rfl (fun C X hQ => bX7_gather_0 X hQ hf) sz
/-- long slopeOf(int, int); of Tableaufloor$Sides -/
abbrev rmX7_slopeOf : Room := { frames := 0, cells := 0, slots := 0, locals := 0 }
def fX7_slopeOf_30 (sO : zSt) (y0 : Int64) : Option (Int64) :=
  some (y0)
def fX7_slopeOf_29 (sO : zSt) : Option (Int64) :=
  (fX7_slopeOf_30 sO (0 : Int64))
def fX7_slopeOf (sO : zSt) (x1 : Int32) (x2 : Int32) : Option (Int64) :=
  (zlet ((x1 * (3 : Int32)) + x2) (fun v5 =>
    (if v5 < 0 then
    (fX7_slopeOf_29 sO)
  else
    (if (54 : Int32) ≤ v5 then
      (fX7_slopeOf_29 sO)
    else
      (if zin v5 54 = true then
        (fX7_slopeOf_30 sO (((zga sO 0 (v5).toNatClampNeg)).toInt64)) else none)))))
theorem bX7_slopeOf_30 {C : zCtx} (X : zFx C cX7_slopeOf 4 RX7 rmX7_slopeOf (some .long)) {aO : Nat → Nat} {sO : zSt} {y0 : Int64} {out : Int64} (hQ : zHl C out [] 0 0) (h : fX7_slopeOf_30 sO y0 = some out) : zG C 4 [] 0 0 [wX7 (zcT C) aO sO] 30 [] [.long y0] := by
  unfold fX7_slopeOf_30 at h
  cases h
  exact z_lret X hQ dX7_slopeOf_30 rfl [] rfl (by decide) (by decide)
theorem bX7_slopeOf_29 {C : zCtx} (X : zFx C cX7_slopeOf 4 RX7 rmX7_slopeOf (some .long)) {aO : Nat → Nat} {sO : zSt} {out : Int64} (hQ : zHl C out [] 0 0) (h : fX7_slopeOf_29 sO = some out) : zG C 4 [] 0 0 [wX7 (zcT C) aO sO] 29 [] [] := by
  unfold fX7_slopeOf_29 at h
  refine z_lconst (v := (0 : Int64)) X dX7_slopeOf_29 rfl ?_
  exact z_at (pc2 := 30) (lv2 := []) (st2 := [.long (0 : Int64)]) (ws2 := [wX7 (zcT C) aO sO]) rfl rfl rfl [] rfl (bX7_slopeOf_30 X hQ  h)
theorem bX7_slopeOf_0 {C : zCtx} (X : zFx C cX7_slopeOf 4 RX7 rmX7_slopeOf (some .long)) {aO : Nat → Nat} {sO : zSt} {x1 : Int32} {x2 : Int32} {out : Int64} (hQ : zHl C out [] 0 0) (h : fX7_slopeOf sO x1 x2 = some out) : zG C 4 [] 0 0 [wX7 (zcT C) aO sO] 0 [(0, .ref (aO 0)), (1, .int x1), (2, .int x2)] [] := by
  unfold fX7_slopeOf at h
  refine z_iload_n X dX7_slopeOf_0 1 rfl ?_
  refine z_iconst (v := (3 : Int32)) X dX7_slopeOf_1 rfl ?_
  refine z_imul X dX7_slopeOf_2 ?_
  refine z_iload_n X dX7_slopeOf_3 2 rfl ?_
  refine z_iadd X dX7_slopeOf_4 ?_
  obtain ⟨v5, ev5, h⟩ := zlet_of h
  refine z_topi ev5 ?_
  refine z_istore_n (lv2 := [(3, .int v5), (0, .ref (aO 0)), (1, .int x1), (2, .int x2)]) X dX7_slopeOf_5 rfl (by decide) rfl ?_
  refine z_iload_n X dX7_slopeOf_6 0 rfl ?_
  refine z_if_lt (tgt := 29) X dX7_slopeOf_7 (by decide) (fun c7 => ?_) (fun c7 => ?_)
  · replace h := zif_t h c7
    exact z_at (pc2 := 29) (lv2 := []) (st2 := []) (ws2 := [wX7 (zcT C) aO sO]) rfl rfl rfl [] rfl (bX7_slopeOf_29 X hQ  h)
  · replace h := zif_f h c7
    refine z_iload_n X dX7_slopeOf_10 0 rfl ?_
    refine z_aload_n X dX7_slopeOf_11 1 rfl ?_
    refine z_get (v := .ref (aO 1)) X 0 0 8 0 ziX7 rfl (by decide) zw170 rfl dX7_slopeOf_12 rfl rfl rfl ?_
    refine z_alen (v := (54 : Int32)) X 0 1 1 rfl rfl dX7_slopeOf_15 rfl rfl ?_
    refine z_icmp_ge (tgt := 29) X dX7_slopeOf_16 (by decide) (fun c16 => ?_) (fun c16 => ?_)
    · replace h := zif_t h c16
      exact z_at (pc2 := 29) (lv2 := []) (st2 := []) (ws2 := [wX7 (zcT C) aO sO]) rfl rfl rfl [] rfl (bX7_slopeOf_29 X hQ  h)
    · replace h := zif_f h c16
      refine z_aload_n X dX7_slopeOf_19 1 rfl ?_
      refine z_get (v := .ref (aO 1)) X 0 0 8 0 ziX7 rfl (by decide) zw170 rfl dX7_slopeOf_20 rfl rfl rfl ?_
      refine z_iload_n X dX7_slopeOf_23 0 rfl ?_
      obtain ⟨g24, h⟩ := zgd_of h
      refine z_iald X 0 1 g24 dX7_slopeOf_24 rfl rfl ?_
      refine z_i2l X dX7_slopeOf_25 ?_
      refine z_goto (tgt := 30) X dX7_slopeOf_26 (by decide) ?_
      exact z_at (pc2 := 30) (lv2 := []) (st2 := [.long (((zga sO 0 (v5).toNatClampNeg)).toInt64)]) (ws2 := [wX7 (zcT C) aO sO]) rfl rfl rfl [] rfl (bX7_slopeOf_30 X hQ  h)
theorem metX7_slopeOf (l : Launch) (D : va_G) (T : Nat → ClassId) (aO : Nat → Nat) {sO : zSt} {x1 : Int32} {x2 : Int32} {out : Int64} (hf : fX7_slopeOf sO x1 x2 = some out) (sz : Nat) : Met l yX7_slopeOf (zws yX7_slopeOf cX7_slopeOf 4 (some .long)) rmX7_slopeOf (zPc D T [.ref (aO 0), .int x1, .int x2] [wX7 T aO sO] sz) (zQl D out [] (zA [] sz)) 0 0 (zA [] sz) :=
  zMet (D := D) (T := T) (av := [.ref (aO 0), .int x1, .int x2]) (ws := fun T => [wX7 T aO sO]) (wm := fun T => []) (lv0 := [(0, .ref (aO 0)), (1, .int x1), (2, .int x2)]) [] (Qc := fun D T A => zQl D out [] A) (by decide +kernel) rfl (Nat.le_of_ble_eq_true rfl) rfl (fun C X hQ => bX7_slopeOf_0 X hQ hf) sz
/-- long constantOf(int); of Tableaufloor$Sides -/
abbrev rmX7_constantOf : Room := { frames := 0, cells := 0, slots := 0, locals := 0 }
def fX7_constantOf_24 (sO : zSt) (y0 : Int64) : Option (Int64) :=
  some (y0)
def fX7_constantOf_23 (sO : zSt) : Option (Int64) :=
  (fX7_constantOf_24 sO (0 : Int64))
def fX7_constantOf (sO : zSt) (x1 : Int32) : Option (Int64) :=
  (if x1 < 0 then
    (fX7_constantOf_23 sO)
  else
    (if (18 : Int32) ≤ x1 then
      (fX7_constantOf_23 sO)
    else
      (if zin x1 18 = true then
        (fX7_constantOf_24 sO (((zga sO 1 (x1).toNatClampNeg)).toInt64)) else none)))
theorem bX7_constantOf_24 {C : zCtx} (X : zFx C cX7_constantOf 2 RX7 rmX7_constantOf (some .long)) {aO : Nat → Nat} {sO : zSt} {y0 : Int64} {out : Int64} (hQ : zHl C out [] 0 0) (h : fX7_constantOf_24 sO y0 = some out) : zG C 2 [] 0 0 [wX7 (zcT C) aO sO] 24 [] [.long y0] := by
  unfold fX7_constantOf_24 at h
  cases h
  exact z_lret X hQ dX7_constantOf_24 rfl [] rfl (by decide) (by decide)
theorem bX7_constantOf_23 {C : zCtx} (X : zFx C cX7_constantOf 2 RX7 rmX7_constantOf (some .long)) {aO : Nat → Nat} {sO : zSt} {out : Int64} (hQ : zHl C out [] 0 0) (h : fX7_constantOf_23 sO = some out) : zG C 2 [] 0 0 [wX7 (zcT C) aO sO] 23 [] [] := by
  unfold fX7_constantOf_23 at h
  refine z_lconst (v := (0 : Int64)) X dX7_constantOf_23 rfl ?_
  exact z_at (pc2 := 24) (lv2 := []) (st2 := [.long (0 : Int64)]) (ws2 := [wX7 (zcT C) aO sO]) rfl rfl rfl [] rfl (bX7_constantOf_24 X hQ  h)
theorem bX7_constantOf_0 {C : zCtx} (X : zFx C cX7_constantOf 2 RX7 rmX7_constantOf (some .long)) {aO : Nat → Nat} {sO : zSt} {x1 : Int32} {out : Int64} (hQ : zHl C out [] 0 0) (h : fX7_constantOf sO x1 = some out) : zG C 2 [] 0 0 [wX7 (zcT C) aO sO] 0 [(0, .ref (aO 0)), (1, .int x1)] [] := by
  unfold fX7_constantOf at h
  refine z_iload_n X dX7_constantOf_0 1 rfl ?_
  refine z_if_lt (tgt := 23) X dX7_constantOf_1 (by decide) (fun c1 => ?_) (fun c1 => ?_)
  · replace h := zif_t h c1
    exact z_at (pc2 := 23) (lv2 := []) (st2 := []) (ws2 := [wX7 (zcT C) aO sO]) rfl rfl rfl [] rfl (bX7_constantOf_23 X hQ  h)
  · replace h := zif_f h c1
    refine z_iload_n X dX7_constantOf_4 1 rfl ?_
    refine z_aload_n X dX7_constantOf_5 0 rfl ?_
    refine z_get (v := .ref (aO 2)) X 0 0 8 1 ziX7 rfl (by decide) zw171 rfl dX7_constantOf_6 rfl rfl rfl ?_
    refine z_alen (v := (18 : Int32)) X 0 2 1 rfl rfl dX7_constantOf_9 rfl rfl ?_
    refine z_icmp_ge (tgt := 23) X dX7_constantOf_10 (by decide) (fun c10 => ?_) (fun c10 => ?_)
    · replace h := zif_t h c10
      exact z_at (pc2 := 23) (lv2 := []) (st2 := []) (ws2 := [wX7 (zcT C) aO sO]) rfl rfl rfl [] rfl (bX7_constantOf_23 X hQ  h)
    · replace h := zif_f h c10
      refine z_aload_n X dX7_constantOf_13 0 rfl ?_
      refine z_get (v := .ref (aO 2)) X 0 0 8 1 ziX7 rfl (by decide) zw171 rfl dX7_constantOf_14 rfl rfl rfl ?_
      refine z_iload_n X dX7_constantOf_17 1 rfl ?_
      obtain ⟨g18, h⟩ := zgd_of h
      refine z_iald X 0 2 g18 dX7_constantOf_18 rfl rfl ?_
      refine z_i2l X dX7_constantOf_19 ?_
      refine z_goto (tgt := 24) X dX7_constantOf_20 (by decide) ?_
      exact z_at (pc2 := 24) (lv2 := []) (st2 := [.long (((zga sO 1 (x1).toNatClampNeg)).toInt64)]) (ws2 := [wX7 (zcT C) aO sO]) rfl rfl rfl [] rfl (bX7_constantOf_24 X hQ  h)
theorem metX7_constantOf (l : Launch) (D : va_G) (T : Nat → ClassId) (aO : Nat → Nat) {sO : zSt} {x1 : Int32} {out : Int64} (hf : fX7_constantOf sO x1 = some out) (sz : Nat) : Met l yX7_constantOf (zws yX7_constantOf cX7_constantOf 2 (some .long)) rmX7_constantOf (zPc D T [.ref (aO 0), .int x1] [wX7 T aO sO] sz) (zQl D out [] (zA [] sz)) 0 0 (zA [] sz) :=
  zMet (D := D) (T := T) (av := [.ref (aO 0), .int x1]) (ws := fun T => [wX7 T aO sO]) (wm := fun T => []) (lv0 := [(0, .ref (aO 0)), (1, .int x1)]) [] (Qc := fun D T A => zQl D out [] A) (by decide +kernel) rfl (Nat.le_of_ble_eq_true rfl) rfl (fun C X hQ => bX7_constantOf_0 X hQ hf) sz
/-- boolean isMirror(int); of Tableaufloor$Sides -/
abbrev rmX7_isMirror : Room := { frames := 0, cells := 0, slots := 0, locals := 0 }
def fX7_isMirror_27 (sO : zSt) (y0 : Int32) : Option (Int32) :=
  (if znar .boolean y0 = true then
    some (y0) else none)
def fX7_isMirror_26 (sO : zSt) : Option (Int32) :=
  (fX7_isMirror_27 sO (0 : Int32))
def fX7_isMirror (sO : zSt) (x1 : Int32) : Option (Int32) :=
  (if x1 < 0 then
    (fX7_isMirror_26 sO)
  else
    (if (18 : Int32) ≤ x1 then
      (fX7_isMirror_26 sO)
    else
      (if zin x1 18 = true then
        (if (zga sO 2 (x1).toNatClampNeg) = 0 then
        (fX7_isMirror_26 sO)
      else
        (fX7_isMirror_27 sO (1 : Int32))) else none)))
theorem bX7_isMirror_27 {C : zCtx} (X : zFx C cX7_isMirror 2 RX7 rmX7_isMirror (some .boolean)) {aO : Nat → Nat} {sO : zSt} {y0 : Int32} {out : Int32} (hQ : zHi C out [] 0 0) (h : fX7_isMirror_27 sO y0 = some out) : zG C 2 [] 0 0 [wX7 (zcT C) aO sO] 27 [] [.int y0] := by
  unfold fX7_isMirror_27 at h
  obtain ⟨g27, h⟩ := zgd_of h
  cases h
  exact z_nret X hQ g27 dX7_isMirror_27 rfl [] rfl (by decide) (by decide)
theorem bX7_isMirror_26 {C : zCtx} (X : zFx C cX7_isMirror 2 RX7 rmX7_isMirror (some .boolean)) {aO : Nat → Nat} {sO : zSt} {out : Int32} (hQ : zHi C out [] 0 0) (h : fX7_isMirror_26 sO = some out) : zG C 2 [] 0 0 [wX7 (zcT C) aO sO] 26 [] [] := by
  unfold fX7_isMirror_26 at h
  refine z_iconst (v := (0 : Int32)) X dX7_isMirror_26 rfl ?_
  exact z_at (pc2 := 27) (lv2 := []) (st2 := [.int (0 : Int32)]) (ws2 := [wX7 (zcT C) aO sO]) rfl rfl rfl [] rfl (bX7_isMirror_27 X hQ  h)
theorem bX7_isMirror_0 {C : zCtx} (X : zFx C cX7_isMirror 2 RX7 rmX7_isMirror (some .boolean)) {aO : Nat → Nat} {sO : zSt} {x1 : Int32} {out : Int32} (hQ : zHi C out [] 0 0) (h : fX7_isMirror sO x1 = some out) : zG C 2 [] 0 0 [wX7 (zcT C) aO sO] 0 [(0, .ref (aO 0)), (1, .int x1)] [] := by
  unfold fX7_isMirror at h
  refine z_iload_n X dX7_isMirror_0 1 rfl ?_
  refine z_if_lt (tgt := 26) X dX7_isMirror_1 (by decide) (fun c1 => ?_) (fun c1 => ?_)
  · replace h := zif_t h c1
    exact z_at (pc2 := 26) (lv2 := []) (st2 := []) (ws2 := [wX7 (zcT C) aO sO]) rfl rfl rfl [] rfl (bX7_isMirror_26 X hQ  h)
  · replace h := zif_f h c1
    refine z_iload_n X dX7_isMirror_4 1 rfl ?_
    refine z_aload_n X dX7_isMirror_5 0 rfl ?_
    refine z_get (v := .ref (aO 3)) X 0 0 8 2 ziX7 rfl (by decide) zw172 rfl dX7_isMirror_6 rfl rfl rfl ?_
    refine z_alen (v := (18 : Int32)) X 0 3 3 rfl rfl dX7_isMirror_9 rfl rfl ?_
    refine z_icmp_ge (tgt := 26) X dX7_isMirror_10 (by decide) (fun c10 => ?_) (fun c10 => ?_)
    · replace h := zif_t h c10
      exact z_at (pc2 := 26) (lv2 := []) (st2 := []) (ws2 := [wX7 (zcT C) aO sO]) rfl rfl rfl [] rfl (bX7_isMirror_26 X hQ  h)
    · replace h := zif_f h c10
      refine z_aload_n X dX7_isMirror_13 0 rfl ?_
      refine z_get (v := .ref (aO 3)) X 0 0 8 2 ziX7 rfl (by decide) zw172 rfl dX7_isMirror_14 rfl rfl rfl ?_
      refine z_iload_n X dX7_isMirror_17 1 rfl ?_
      obtain ⟨g18, h⟩ := zgd_of h
      refine z_zald X 0 3 g18 dX7_isMirror_18 rfl rfl ?_
      refine z_if_eq (tgt := 26) X dX7_isMirror_19 (by decide) (fun c19 => ?_) (fun c19 => ?_)
      · replace h := zif_t h c19
        exact z_at (pc2 := 26) (lv2 := []) (st2 := []) (ws2 := [wX7 (zcT C) aO sO]) rfl rfl rfl [] rfl (bX7_isMirror_26 X hQ  h)
      · replace h := zif_f h c19
        refine z_iconst (v := (1 : Int32)) X dX7_isMirror_22 rfl ?_
        refine z_goto (tgt := 27) X dX7_isMirror_23 (by decide) ?_
        exact z_at (pc2 := 27) (lv2 := []) (st2 := [.int (1 : Int32)]) (ws2 := [wX7 (zcT C) aO sO]) rfl rfl rfl [] rfl (bX7_isMirror_27 X hQ  h)
theorem metX7_isMirror (l : Launch) (D : va_G) (T : Nat → ClassId) (aO : Nat → Nat) {sO : zSt} {x1 : Int32} {out : Int32} (hf : fX7_isMirror sO x1 = some out) (sz : Nat) : Met l yX7_isMirror (zws yX7_isMirror cX7_isMirror 2 (some .boolean)) rmX7_isMirror (zPc D T [.ref (aO 0), .int x1] [wX7 T aO sO] sz) (zQi D out [] (zA [] sz)) 0 0 (zA [] sz) :=
  zMet (D := D) (T := T) (av := [.ref (aO 0), .int x1]) (ws := fun T => [wX7 T aO sO]) (wm := fun T => []) (lv0 := [(0, .ref (aO 0)), (1, .int x1)]) [] (Qc := fun D T A => zQi D out [] A) (by decide +kernel) rfl (Nat.le_of_ble_eq_true rfl) rfl (fun C X hQ => bX7_isMirror_0 X hQ hf) sz
