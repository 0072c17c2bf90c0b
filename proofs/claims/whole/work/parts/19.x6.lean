/-- private void clear(); of Tableaufloor$Proof -/
abbrev rmX6_clear : Room := { frames := 0, cells := 0, slots := 0, locals := 0 }
def fX6_clear_7 : Nat → zSt → Int32 → Option (zSt)
  | 0, _, _ => none
  | n + 1, sO, x1 =>
    (if (3 : Int32) ≤ x1 then
      some (sO)
    else
      (if zin x1 3 = true then
        (zlet (zsb sO 2 (vp_updL (zgb sO 2) (x1).toNatClampNeg (0 : Int64))) (fun sO22 =>
        (zlet (x1 + 1) (fun v23 =>
        (fX6_clear_7 n sO22 v23))))) else none))
def fX6_clear (sO : zSt) : Option (zSt) :=
  (zlet (zsl sO 3 (0 : Int64)) (fun sO2 =>
    (fX6_clear_7 6000 sO2 (0 : Int32))))
theorem bX6_clear_7 {C : zCtx} (X : zFx C cX6_clear 2 RX6 rmX6_clear none) {aO : Nat → Nat} {aP : Nat → Nat} {aW : Nat → Nat} {out : zSt} (hQ : zHv C [wX6 (zcT C) aO (aP 0) (aW 0) out] 0 0) : ∀ (n : Nat) (sO : zSt) (x1 : Int32), fX6_clear_7 n sO x1 = some out → zG C 2 [0] 0 0 [wX6 (zcT C) aO (aP 0) (aW 0) sO] 7 [(0, .ref (aO 0)), (1, .int x1)] [] := by
  intro n
  induction n with
  | zero =>
    intro sO x1 h
    rw [fX6_clear_7] at h
    exact zno h
  | succ n ih =>
    intro sO x1 h
    rw [fX6_clear_7] at h
    refine z_iload_n X dX6_clear_7 1 rfl ?_
    refine z_aload_n X dX6_clear_8 0 rfl ?_
    refine z_get (v := .ref (aO 3)) X 0 0 7 2 ziX6 rfl (by decide) zw288 rfl dX6_clear_9 rfl rfl rfl ?_
    refine z_alen (v := (3 : Int32)) X 0 1 2 rfl rfl dX6_clear_12 rfl rfl ?_
    refine z_icmp_ge (tgt := 29) X dX6_clear_13 (by decide) (fun c13 => ?_) (fun c13 => ?_)
    · replace h := zif_t h c13
      cases h
      exact z_vret X hQ dX6_clear_29 [0] rfl (by decide) (by decide)
    · replace h := zif_f h c13
      refine z_aload_n X dX6_clear_16 0 rfl ?_
      refine z_get (v := .ref (aO 3)) X 0 0 7 2 ziX6 rfl (by decide) zw288 rfl dX6_clear_17 rfl rfl rfl ?_
      refine z_iload_n X dX6_clear_20 1 rfl ?_
      refine z_lconst (v := (0 : Int64)) X dX6_clear_21 rfl ?_
      obtain ⟨g22, h⟩ := zgd_of h
      obtain ⟨sO22, esO22, h⟩ := zlet_of h
      refine z_last (ws2 := [wX6 (zcT C) aO (aP 0) (aW 0) sO22]) X 0 1 g22 dX6_clear_22 rfl rfl (by decide) (w2 := wX6 (zcT C) aO (aP 0) (aW 0) sO22) (by rw [esO22]; rfl) rfl ?_
      obtain ⟨v23, ev23, h⟩ := zlet_of h
      refine z_iinc (v := v23) (lv2 := [(1, .int v23), (0, .ref (aO 0))]) X dX6_clear_23 (k := 1) rfl (by rw [ev23]; rfl) (by decide) rfl ?_
      refine z_goto (tgt := 7) X dX6_clear_26 (by decide) ?_
      exact z_at (pc2 := 7) (lv2 := [(0, .ref (aO 0)), (1, .int v23)]) (st2 := []) (ws2 := [wX6 (zcT C) aO (aP 0) (aW 0) sO22]) rfl rfl rfl [1, 0] rfl (ih sO22 v23 h)
theorem bX6_clear_0 {C : zCtx} (X : zFx C cX6_clear 2 RX6 rmX6_clear none) {aO : Nat → Nat} {aP : Nat → Nat} {aW : Nat → Nat} {sO : zSt} {out : zSt} (hQ : zHv C [wX6 (zcT C) aO (aP 0) (aW 0) out] 0 0) (h : fX6_clear sO = some out) : zG C 2 [0] 0 0 [wX6 (zcT C) aO (aP 0) (aW 0) sO] 0 [(0, .ref (aO 0))] [] := by
  unfold fX6_clear at h
  refine z_aload_n X dX6_clear_0 0 rfl ?_
  refine z_lconst (v := (0 : Int64)) X dX6_clear_1 rfl ?_
  obtain ⟨sO2, esO2, h⟩ := zlet_of h
  refine z_put (ws2 := [wX6 (zcT C) aO (aP 0) (aW 0) sO2]) X 0 0 7 3 ziX6 rfl tyX6 tyX6_ok nmX6 (by decide) zw289 rfl rfl (ty := .long) (by decide +kernel) rfl rfl (by show 3 < 4; decide) dX6_clear_2 rfl rfl (by decide) (w2 := wX6 (zcT C) aO (aP 0) (aW 0) sO2) (by rw [esO2]; rfl) rfl ?_
  refine z_iconst (v := (0 : Int32)) X dX6_clear_5 rfl ?_
  refine z_istore_n (lv2 := [(1, .int (0 : Int32)), (0, .ref (aO 0))]) X dX6_clear_6 rfl (by decide) rfl ?_
  exact z_at (pc2 := 7) (lv2 := [(0, .ref (aO 0)), (1, .int (0 : Int32))]) (st2 := []) (ws2 := [wX6 (zcT C) aO (aP 0) (aW 0) sO2]) rfl rfl rfl [1, 0] rfl (bX6_clear_7 X hQ  6000 sO2 (0 : Int32) h)
theorem metX6_clear (l : Launch) (D : va_G) (T : Nat → ClassId) (aO : Nat → Nat) (aP : Nat → Nat) (aW : Nat → Nat) {sO : zSt} {out : zSt} (hf : fX6_clear sO = some out) (sz : Nat) : Met l yX6_clear (zws yX6_clear cX6_clear 2 none) rmX6_clear (zPc D T [.ref (aO 0)] [wX6 T aO (aP 0) (aW 0) sO] sz) (zQv D [wX6 T aO (aP 0) (aW 0) out] (zA [wX6 T aO (aP 0) (aW 0) sO] sz)) 0 0 (zA [wX6 T aO (aP 0) (aW 0) sO] sz) :=
  zMet (D := D) (T := T) (av := [.ref (aO 0)]) (ws := fun T => [wX6 T aO (aP 0) (aW 0) sO]) (wm := fun T => [wX6 T aO (aP 0) (aW 0) sO]) (lv0 := [(0, .ref (aO 0))]) [0] (Qc := fun D T A => zQv D [wX6 T aO (aP 0) (aW 0) out] A) (by decide +kernel) rfl (Nat.le_of_ble_eq_true rfl) rfl (fun C X hQ => bX6_clear_0 X hQ hf) sz
/-- private void add(long, int); of Tableaufloor$Proof -/
abbrev rmX6_add : Room := { frames := 1, cells := 0, slots := 0, locals := 23 }
def fX6_add_25 (sW : zSt) (sS : zSt) : Nat → zSt → Int64 → Int32 → Int32 → Option (zSt)
  | 0, _, _, _, _ => none
  | n + 1, sO, x1, x3, x4 =>
    (if (3 : Int32) ≤ x4 then
      some (sO)
    else
      (if zin x4 3 = true then
        ((fX7_slopeOf sS x3 x4).bind (fun o54 =>
        (if zin x4 3 = true then
        (zlet (zsb sO 2 (vp_updL (zgb sO 2) (x4).toNatClampNeg ((zgb sO 2 (x4).toNatClampNeg) + (x1 * o54)))) (fun sO59 =>
        (zlet (x4 + 1) (fun v60 =>
        (fX6_add_25 sW sS n sO59 x1 x3 v60))))) else none))) else none))
def fX6_add (sO : zSt) (sW : zSt) (sS : zSt) (x1 : Int64) (x3 : Int32) : Option (zSt) :=
  ((fX7_constantOf sS x3).bind (fun o14 =>
    (zlet (zsl sO 3 ((zgl sO 3) + (x1 * o14))) (fun sO19 =>
    (fX6_add_25 sW sS 6000 sO19 x1 x3 (0 : Int32))))))
theorem bX6_add_25 {C : zCtx} (X : zFx C cX6_add 5 RX6 rmX6_add none) {aO : Nat → Nat} {aP : Nat → Nat} {aW : Nat → Nat} {aS : Nat → Nat} {aD : Nat → Nat} {aQ : Nat → Nat} {sW : zSt} {sS : zSt} {out : zSt} (hQ : zHv C [wX6 (zcT C) aO (aP 0) (aW 0) out] 0 0) : ∀ (n : Nat) (sO : zSt) (x1 : Int64) (x3 : Int32) (x4 : Int32), fX6_add_25 sW sS n sO x1 x3 x4 = some out → zG C 5 [0] 0 0 [wX6 (zcT C) aO (aP 0) (aW 0) sO, wX9 (zcT C) aW (aP 0) (aS 0) (aD 0) (aQ 0) sW, wX7 (zcT C) aS sS] 25 [(0, .ref (aO 0)), (1, .long x1), (3, .int x3), (4, .int x4)] [] := by
  intro n
  induction n with
  | zero =>
    intro sO x1 x3 x4 h
    rw [fX6_add_25] at h
    exact zno h
  | succ n ih =>
    intro sO x1 x3 x4 h
    rw [fX6_add_25] at h
    refine z_iload X dX6_add_25 3 rfl ?_
    refine z_aload_n X dX6_add_27 0 rfl ?_
    refine z_get (v := .ref (aO 3)) X 0 0 7 2 ziX6 rfl (by decide) zw288 rfl dX6_add_28 rfl rfl rfl ?_
    refine z_alen (v := (3 : Int32)) X 0 1 2 rfl rfl dX6_add_31 rfl rfl ?_
    refine z_icmp_ge (tgt := 66) X dX6_add_32 (by decide) (fun c32 => ?_) (fun c32 => ?_)
    · replace h := zif_t h c32
      cases h
      exact z_vret X hQ dX6_add_66 [0] rfl (by decide) (by decide)
    · replace h := zif_f h c32
      refine z_aload_n X dX6_add_35 0 rfl ?_
      refine z_get (v := .ref (aO 3)) X 0 0 7 2 ziX6 rfl (by decide) zw288 rfl dX6_add_36 rfl rfl rfl ?_
      refine z_iload X dX6_add_39 3 rfl ?_
      refine z_dup2 X dX6_add_41 rfl rfl ?_
      obtain ⟨g42, h⟩ := zgd_of h
      refine z_lald X 0 1 g42 dX6_add_42 rfl rfl ?_
      refine z_lload_n X dX6_add_43 1 rfl ?_
      refine z_aload_n X dX6_add_44 0 rfl ?_
      refine z_get (v := .ref (aW 0)) X 0 0 7 1 ziX6 rfl (by decide) zw287 rfl dX6_add_45 rfl rfl rfl ?_
      refine z_getN (v := .ref (aS 0)) X 1 0 10 1 ziX9 rfl (by decide) zw240 rfl dX6_add_48 rfl rfl rfl ?_
      refine z_iload_n X dX6_add_51 2 rfl ?_
      refine z_iload X dX6_add_52 3 rfl ?_
      obtain ⟨o54, ho54, h⟩ := zbind_of h
      refine z_callVl (st := [.long x1, .long (zgb sO 2 (x4).toNatClampNeg), .int x4, .ref (aO 3)]) (ws2 := [wX6 (zcT C) aO (aP 0) (aW 0) sO, wX9 (zcT C) aW (aP 0) (aS 0) (aD 0) (aQ 0) sW, wX7 (zcT C) aS sS]) X (metX7_slopeOf (zcl C) (zcD C) (zcT C) aS ho54) zmX7_slopeOf zw680 dX6_add_54 2 0 8 rfl rfl rfl rfl [2] rfl rfl [] rfl (by decide) trivial rfl rfl rfl (Nat.le_of_ble_eq_true rfl) rfl rfl ⟨Nat.le_of_ble_eq_true rfl, Nat.le_of_ble_eq_true rfl⟩ ⟨Nat.le_of_ble_eq_true rfl, Nat.le_of_ble_eq_true rfl⟩ ?_
      refine z_lmul X dX6_add_57 ?_
      refine z_ladd X dX6_add_58 ?_
      obtain ⟨g59, h⟩ := zgd_of h
      obtain ⟨sO59, esO59, h⟩ := zlet_of h
      refine z_last (ws2 := [wX6 (zcT C) aO (aP 0) (aW 0) sO59, wX9 (zcT C) aW (aP 0) (aS 0) (aD 0) (aQ 0) sW, wX7 (zcT C) aS sS]) X 0 1 g59 dX6_add_59 rfl rfl (by decide) (w2 := wX6 (zcT C) aO (aP 0) (aW 0) sO59) (by rw [esO59]; rfl) rfl ?_
      obtain ⟨v60, ev60, h⟩ := zlet_of h
      refine z_iinc (v := v60) (lv2 := [(4, .int v60), (0, .ref (aO 0)), (1, .long x1), (3, .int x3)]) X dX6_add_60 (k := 3) rfl (by rw [ev60]; rfl) (by decide) rfl ?_
      refine z_goto (tgt := 25) X dX6_add_63 (by decide) ?_
      exact z_at (pc2 := 25) (lv2 := [(0, .ref (aO 0)), (1, .long x1), (3, .int x3), (4, .int v60)]) (st2 := []) (ws2 := [wX6 (zcT C) aO (aP 0) (aW 0) sO59, wX9 (zcT C) aW (aP 0) (aS 0) (aD 0) (aQ 0) sW, wX7 (zcT C) aS sS]) rfl rfl rfl [1, 2, 3, 0] rfl (ih sO59 x1 x3 v60 h)
theorem bX6_add_0 {C : zCtx} (X : zFx C cX6_add 5 RX6 rmX6_add none) {aO : Nat → Nat} {aP : Nat → Nat} {aW : Nat → Nat} {aS : Nat → Nat} {aD : Nat → Nat} {aQ : Nat → Nat} {sO : zSt} {sW : zSt} {sS : zSt} {x1 : Int64} {x3 : Int32} {out : zSt} (hQ : zHv C [wX6 (zcT C) aO (aP 0) (aW 0) out] 0 0) (h : fX6_add sO sW sS x1 x3 = some out) : zG C 5 [0] 0 0 [wX6 (zcT C) aO (aP 0) (aW 0) sO, wX9 (zcT C) aW (aP 0) (aS 0) (aD 0) (aQ 0) sW, wX7 (zcT C) aS sS] 0 [(0, .ref (aO 0)), (1, .long x1), (3, .int x3)] [] := by
  unfold fX6_add at h
  refine z_aload_n X dX6_add_0 0 rfl ?_
  refine z_dup X dX6_add_1 rfl ?_
  refine z_get (v := .long (zgl sO 3)) X 0 0 7 3 ziX6 rfl (by decide) zw289 rfl dX6_add_2 rfl rfl rfl ?_
  refine z_lload_n X dX6_add_5 1 rfl ?_
  refine z_aload_n X dX6_add_6 0 rfl ?_
  refine z_get (v := .ref (aW 0)) X 0 0 7 1 ziX6 rfl (by decide) zw287 rfl dX6_add_7 rfl rfl rfl ?_
  refine z_getN (v := .ref (aS 0)) X 1 0 10 1 ziX9 rfl (by decide) zw240 rfl dX6_add_10 rfl rfl rfl ?_
  refine z_iload_n X dX6_add_13 2 rfl ?_
  obtain ⟨o14, ho14, h⟩ := zbind_of h
  refine z_callVl (st := [.long x1, .long (zgl sO 3), .ref (aO 0)]) (ws2 := [wX6 (zcT C) aO (aP 0) (aW 0) sO, wX9 (zcT C) aW (aP 0) (aS 0) (aD 0) (aQ 0) sW, wX7 (zcT C) aS sS]) X (metX7_constantOf (zcl C) (zcD C) (zcT C) aS ho14) zmX7_constantOf zw679 dX6_add_14 2 0 8 rfl rfl rfl rfl [2] rfl rfl [] rfl (by decide) trivial rfl rfl rfl (Nat.le_of_ble_eq_true rfl) rfl rfl ⟨Nat.le_of_ble_eq_true rfl, Nat.le_of_ble_eq_true rfl⟩ ⟨Nat.le_of_ble_eq_true rfl, Nat.le_of_ble_eq_true rfl⟩ ?_
  refine z_lmul X dX6_add_17 ?_
  refine z_ladd X dX6_add_18 ?_
  obtain ⟨sO19, esO19, h⟩ := zlet_of h
  refine z_put (ws2 := [wX6 (zcT C) aO (aP 0) (aW 0) sO19, wX9 (zcT C) aW (aP 0) (aS 0) (aD 0) (aQ 0) sW, wX7 (zcT C) aS sS]) X 0 0 7 3 ziX6 rfl tyX6 tyX6_ok nmX6 (by decide) zw289 rfl rfl (ty := .long) (by decide +kernel) rfl rfl (by show 3 < 4; decide) dX6_add_19 rfl rfl (by decide) (w2 := wX6 (zcT C) aO (aP 0) (aW 0) sO19) (by rw [esO19]; rfl) rfl ?_
  refine z_iconst (v := (0 : Int32)) X dX6_add_22 rfl ?_
  refine z_istore (lv2 := [(4, .int (0 : Int32)), (0, .ref (aO 0)), (1, .long x1), (3, .int x3)]) X dX6_add_23 (by decide) rfl ?_
  exact z_at (pc2 := 25) (lv2 := [(0, .ref (aO 0)), (1, .long x1), (3, .int x3), (4, .int (0 : Int32))]) (st2 := []) (ws2 := [wX6 (zcT C) aO (aP 0) (aW 0) sO19, wX9 (zcT C) aW (aP 0) (aS 0) (aD 0) (aQ 0) sW, wX7 (zcT C) aS sS]) rfl rfl rfl [1, 2, 3, 0] rfl (bX6_add_25 X hQ  6000 sO19 x1 x3 (0 : Int32) h)
theorem metX6_add (l : Launch) (D : va_G) (T : Nat → ClassId) (aO : Nat → Nat) (aP : Nat → Nat) (aW : Nat → Nat) (aS : Nat → Nat) (aD : Nat → Nat) (aQ : Nat → Nat) {sO : zSt} {sW : zSt} {sS : zSt} {x1 : Int64} {x3 : Int32} {out : zSt} (hf : fX6_add sO sW sS x1 x3 = some out) (sz : Nat) : Met l yX6_add (zws yX6_add cX6_add 5 none) rmX6_add (zPc D T [.ref (aO 0), .long x1, .int x3] [wX6 T aO (aP 0) (aW 0) sO, wX9 T aW (aP 0) (aS 0) (aD 0) (aQ 0) sW, wX7 T aS sS] sz) (zQv D [wX6 T aO (aP 0) (aW 0) out] (zA [wX6 T aO (aP 0) (aW 0) sO] sz)) 0 0 (zA [wX6 T aO (aP 0) (aW 0) sO] sz) :=
  zMet (D := D) (T := T) (av := [.ref (aO 0), .long x1, .int x3]) (ws := fun T => [wX6 T aO (aP 0) (aW 0) sO, wX9 T aW (aP 0) (aS 0) (aD 0) (aQ 0) sW, wX7 T aS sS]) (wm := fun T => [wX6 T aO (aP 0) (aW 0) sO]) (lv0 := [(0, .ref (aO 0)), (1, .long x1), (3, .int x3)]) [0] (Qc := fun D T A => zQv D [wX6 T aO (aP 0) (aW 0) out] A) (by decide +kernel) rfl (Nat.le_of_ble_eq_true rfl) rfl (fun C X hQ => bX6_add_0 X hQ hf) sz
/-- private boolean addOutsides(int); of Tableaufloor$Proof -/
abbrev rmX6_addOutsides : Room := { frames := 2, cells := 0, slots := 0, locals := 47 }
def fX6_addOutsides_2 (sW : zSt) (sS : zSt) (sD : zSt) : Nat → zSt → Int32 → Int32 → Option (Int32 × zSt)
  | 0, _, _, _ => none
  | n + 1, sO, x1, x2 =>
    (if (3 : Int32) ≤ x2 then
      some ((1 : Int32), sO)
    else
      ((fX1_cell sD x1 x2).bind (fun o16 =>
        (zlet (-o16) (fun v20 =>
        (if (0 : Int64) ≤ v20 then
        ((fX1_outsideOf sD x2).bind (fun o39 =>
          ((fX6_add sO sW sS v20 o39).bind (fun o42 =>
          (zlet (x2 + 1) (fun v45 =>
          (fX6_addOutsides_2 sW sS sD n o42 x1 v45)))))))
      else
        some ((0 : Int32), sO)))))))
def fX6_addOutsides (sO : zSt) (sW : zSt) (sS : zSt) (sD : zSt) (x1 : Int32) : Option (Int32 × zSt) :=
  (fX6_addOutsides_2 sW sS sD 6000 sO x1 (0 : Int32))
theorem bX6_addOutsides_2 {C : zCtx} (X : zFx C cX6_addOutsides 5 RX6 rmX6_addOutsides (some .boolean)) {aO : Nat → Nat} {aP : Nat → Nat} {aW : Nat → Nat} {aS : Nat → Nat} {aD : Nat → Nat} {aQ : Nat → Nat} {sW : zSt} {sS : zSt} {sD : zSt} {out : Int32 × zSt} (hQ : zHi C out.1 [wX6 (zcT C) aO (aP 0) (aW 0) out.2] 0 0) : ∀ (n : Nat) (sO : zSt) (x1 : Int32) (x2 : Int32), fX6_addOutsides_2 sW sS sD n sO x1 x2 = some out → zG C 5 [0] 0 0 [wX6 (zcT C) aO (aP 0) (aW 0) sO, wX9 (zcT C) aW (aP 0) (aS 0) (aD 0) (aQ 0) sW, wX7 (zcT C) aS sS, wX1 (zcT C) aD sD] 2 [(0, .ref (aO 0)), (1, .int x1), (2, .int x2)] [] := by
  intro n
  induction n with
  | zero =>
    intro sO x1 x2 h
    rw [fX6_addOutsides_2] at h
    exact zno h
  | succ n ih =>
    intro sO x1 x2 h
    rw [fX6_addOutsides_2] at h
    refine z_iload_n X dX6_addOutsides_2 2 rfl ?_
    refine z_iconst (v := (3 : Int32)) X dX6_addOutsides_3 rfl ?_
    refine z_icmp_ge (tgt := 51) X dX6_addOutsides_4 (by decide) (fun c4 => ?_) (fun c4 => ?_)
    · replace h := zif_t h c4
      refine z_iconst (v := (1 : Int32)) X dX6_addOutsides_51 rfl ?_
      cases h
      exact z_nret X hQ rfl dX6_addOutsides_52 rfl [0] rfl (by decide) (by decide)
    · replace h := zif_f h c4
      refine z_aload_n X dX6_addOutsides_7 0 rfl ?_
      refine z_get (v := .ref (aW 0)) X 0 0 7 1 ziX6 rfl (by decide) zw287 rfl dX6_addOutsides_8 rfl rfl rfl ?_
      refine z_getN (v := .ref (aD 0)) X 1 0 10 2 ziX9 rfl (by decide) zw242 rfl dX6_addOutsides_11 rfl rfl rfl ?_
      refine z_iload_n X dX6_addOutsides_14 1 rfl ?_
      refine z_iload_n X dX6_addOutsides_15 2 rfl ?_
      obtain ⟨o16, ho16, h⟩ := zbind_of h
      refine z_callVl (st := []) (ws2 := [wX6 (zcT C) aO (aP 0) (aW 0) sO, wX9 (zcT C) aW (aP 0) (aS 0) (aD 0) (aQ 0) sW, wX7 (zcT C) aS sS, wX1 (zcT C) aD sD]) X (metX1_cell (zcl C) (zcD C) (zcT C) aD ho16) zmX1_cell zw685 dX6_addOutsides_16 3 0 2 rfl rfl rfl rfl [3] rfl rfl [] rfl (by decide) trivial rfl rfl rfl (Nat.le_of_ble_eq_true rfl) rfl rfl ⟨Nat.le_of_ble_eq_true rfl, Nat.le_of_ble_eq_true rfl⟩ ⟨Nat.le_of_ble_eq_true rfl, Nat.le_of_ble_eq_true rfl⟩ ?_
      refine z_lneg X dX6_addOutsides_19 ?_
      obtain ⟨v20, ev20, h⟩ := zlet_of h
      refine z_topl ev20 ?_
      refine z_lstore_n (lv2 := [(3, .long v20), (0, .ref (aO 0)), (1, .int x1), (2, .int x2)]) X dX6_addOutsides_20 rfl (by decide) rfl ?_
      refine z_lload_n X dX6_addOutsides_21 0 rfl ?_
      refine z_lconst (v := (0 : Int64)) X dX6_addOutsides_22 rfl ?_
      refine z_lcmp_ge (tgt := 29) X dX6_addOutsides_23 dX6_addOutsides_24 (by decide) (fun c23 => ?_) (fun c23 => ?_)
      · replace h := zif_t h c23
        refine z_aload_n X dX6_addOutsides_29 1 rfl ?_
        refine z_lload_n X dX6_addOutsides_30 0 rfl ?_
        refine z_aload_n X dX6_addOutsides_31 1 rfl ?_
        refine z_get (v := .ref (aW 0)) X 0 0 7 1 ziX6 rfl (by decide) zw287 rfl dX6_addOutsides_32 rfl rfl rfl ?_
        refine z_getN (v := .ref (aD 0)) X 1 0 10 2 ziX9 rfl (by decide) zw242 rfl dX6_addOutsides_35 rfl rfl rfl ?_
        refine z_iload_n X dX6_addOutsides_38 3 rfl ?_
        obtain ⟨o39, ho39, h⟩ := zbind_of h
        refine z_callVi (st := [.long v20, .ref (aO 0)]) (ws2 := [wX6 (zcT C) aO (aP 0) (aW 0) sO, wX9 (zcT C) aW (aP 0) (aS 0) (aD 0) (aQ 0) sW, wX7 (zcT C) aS sS, wX1 (zcT C) aD sD]) X (metX1_outsideOf (zcl C) (zcD C) (zcT C) aD ho39) zmX1_outsideOf zw686 dX6_addOutsides_39 3 0 2 rfl rfl rfl rfl [3] rfl rfl [] rfl (by decide) trivial rfl rfl rfl (Nat.le_of_ble_eq_true rfl) rfl rfl ⟨Nat.le_of_ble_eq_true rfl, Nat.le_of_ble_eq_true rfl⟩ ⟨Nat.le_of_ble_eq_true rfl, Nat.le_of_ble_eq_true rfl⟩ ?_
        obtain ⟨o42, ho42, h⟩ := zbind_of h
        refine z_callVv (st := []) (ws2 := [wX6 (zcT C) aO (aP 0) (aW 0) o42, wX9 (zcT C) aW (aP 0) (aS 0) (aD 0) (aQ 0) sW, wX7 (zcT C) aS sS, wX1 (zcT C) aD sD]) X (metX6_add (zcl C) (zcD C) (zcT C) aO aP aW aS aD aQ ho42) zmX6_add zw675 dX6_addOutsides_42 0 0 7 rfl rfl rfl rfl [0, 1, 2] rfl rfl [0] rfl (by decide) ⟨zsX6 , trivial⟩ rfl rfl rfl (Nat.le_of_ble_eq_true rfl) rfl rfl ⟨Nat.le_of_ble_eq_true rfl, Nat.le_of_ble_eq_true rfl⟩ ⟨Nat.le_of_ble_eq_true rfl, Nat.le_of_ble_eq_true rfl⟩ ?_
        obtain ⟨v45, ev45, h⟩ := zlet_of h
        refine z_iinc (v := v45) (lv2 := [(2, .int v45), (3, .long v20), (0, .ref (aO 0)), (1, .int x1)]) X dX6_addOutsides_45 (k := 3) rfl (by rw [ev45]; rfl) (by decide) rfl ?_
        refine z_goto (tgt := 2) X dX6_addOutsides_48 (by decide) ?_
        exact z_at (pc2 := 2) (lv2 := [(0, .ref (aO 0)), (1, .int x1), (2, .int v45)]) (st2 := []) (ws2 := [wX6 (zcT C) aO (aP 0) (aW 0) o42, wX9 (zcT C) aW (aP 0) (aS 0) (aD 0) (aQ 0) sW, wX7 (zcT C) aS sS, wX1 (zcT C) aD sD]) rfl rfl rfl [2, 3, 0] rfl (ih o42 x1 v45 h)
      · replace h := zif_f h c23
        refine z_iconst (v := (0 : Int32)) X dX6_addOutsides_27 rfl ?_
        cases h
        exact z_nret X hQ rfl dX6_addOutsides_28 rfl [0] rfl (by decide) (by decide)
theorem bX6_addOutsides_0 {C : zCtx} (X : zFx C cX6_addOutsides 5 RX6 rmX6_addOutsides (some .boolean)) {aO : Nat → Nat} {aP : Nat → Nat} {aW : Nat → Nat} {aS : Nat → Nat} {aD : Nat → Nat} {aQ : Nat → Nat} {sO : zSt} {sW : zSt} {sS : zSt} {sD : zSt} {x1 : Int32} {out : Int32 × zSt} (hQ : zHi C out.1 [wX6 (zcT C) aO (aP 0) (aW 0) out.2] 0 0) (h : fX6_addOutsides sO sW sS sD x1 = some out) : zG C 5 [0] 0 0 [wX6 (zcT C) aO (aP 0) (aW 0) sO, wX9 (zcT C) aW (aP 0) (aS 0) (aD 0) (aQ 0) sW, wX7 (zcT C) aS sS, wX1 (zcT C) aD sD] 0 [(0, .ref (aO 0)), (1, .int x1)] [] := by
  unfold fX6_addOutsides at h
  refine z_iconst (v := (0 : Int32)) X dX6_addOutsides_0 rfl ?_
  refine z_istore_n (lv2 := [(2, .int (0 : Int32)), (0, .ref (aO 0)), (1, .int x1)]) X dX6_addOutsides_1 rfl (by decide) rfl ?_
  exact z_at (pc2 := 2) (lv2 := [(0, .ref (aO 0)), (1, .int x1), (2, .int (0 : Int32))]) (st2 := []) (ws2 := [wX6 (zcT C) aO (aP 0) (aW 0) sO, wX9 (zcT C) aW (aP 0) (aS 0) (aD 0) (aQ 0) sW, wX7 (zcT C) aS sS, wX1 (zcT C) aD sD]) rfl rfl rfl [1, 2, 0] rfl (bX6_addOutsides_2 X hQ  6000 sO x1 (0 : Int32) h)
theorem metX6_addOutsides (l : Launch) (D : va_G) (T : Nat → ClassId) (aO : Nat → Nat) (aP : Nat → Nat) (aW : Nat → Nat) (aS : Nat → Nat) (aD : Nat → Nat) (aQ : Nat → Nat) {sO : zSt} {sW : zSt} {sS : zSt} {sD : zSt} {x1 : Int32} {out : Int32 × zSt} (hf : fX6_addOutsides sO sW sS sD x1 = some out) (sz : Nat) : Met l yX6_addOutsides (zws yX6_addOutsides cX6_addOutsides 5 (some .boolean)) rmX6_addOutsides (zPc D T [.ref (aO 0), .int x1] [wX6 T aO (aP 0) (aW 0) sO, wX9 T aW (aP 0) (aS 0) (aD 0) (aQ 0) sW, wX7 T aS sS, wX1 T aD sD] sz) (zQi D out.1 [wX6 T aO (aP 0) (aW 0) out.2] (zA [wX6 T aO (aP 0) (aW 0) sO] sz)) 0 0 (zA [wX6 T aO (aP 0) (aW 0) sO] sz) :=
  zMet (D := D) (T := T) (av := [.ref (aO 0), .int x1]) (ws := fun T => [wX6 T aO (aP 0) (aW 0) sO, wX9 T aW (aP 0) (aS 0) (aD 0) (aQ 0) sW, wX7 T aS sS, wX1 T aD sD]) (wm := fun T => [wX6 T aO (aP 0) (aW 0) sO]) (lv0 := [(0, .ref (aO 0)), (1, .int x1)]) [0] (Qc := fun D T A => zQi D out.1 [wX6 T aO (aP 0) (aW 0) out.2] A) (by decide +kernel) rfl (Nat.le_of_ble_eq_true rfl) rfl (fun C X hQ => bX6_addOutsides_0 X hQ hf) sz
/-- private boolean provesNone(); of Tableaufloor$Proof -/
abbrev rmX6_provesNone : Room := { frames := 3, cells := 0, slots := 0, locals := 71 }
def fX6_provesNone_54 (sW : zSt) (sS : zSt) (sD : zSt) (sO : zSt) : Option (Int32 × zSt) :=
  some ((0 : Int32), sO)
def fX6_provesNone_58 (sW : zSt) (sS : zSt) (sD : zSt) : Nat → zSt → Int32 → Option (Int32 × zSt)
  | 0, _, _ => none
  | n + 1, sO, x2 =>
    (if (3 : Int32) ≤ x2 then
      some ((1 : Int32), sO)
    else
      (if zin x2 3 = true then
        (if (zgb sO 2 (x2).toNatClampNeg) = (0 : Int64) then
        (zlet (x2 + 1) (fun v80 =>
          (fX6_provesNone_58 sW sS sD n sO v80)))
      else
        some ((0 : Int32), sO)) else none))
def fX6_provesNone (sO : zSt) (sW : zSt) (sS : zSt) (sD : zSt) : Option (Int32 × zSt) :=
  ((fX6_clear sO).bind (fun o1 =>
    (zlet (zgi sW 8) (fun v11 =>
    ((fX1_insideOf sD v11).bind (fun o31 =>
    ((fX6_add o1 sW sS (zgl sD 4) o31).bind (fun o34 =>
    ((fX6_addOutsides o34 sW sS sD v11).bind (fun o39 =>
    (if o39.1 = 0 then
    (fX6_provesNone_54 sW sS sD o39.2)
  else
    (if (zgl o39.2 3) < (0 : Int64) then
      (fX6_provesNone_58 sW sS sD 6000 o39.2 (0 : Int32))
    else
      (fX6_provesNone_54 sW sS sD o39.2)))))))))))))
theorem bX6_provesNone_54 {C : zCtx} (X : zFx C cX6_provesNone 3 RX6 rmX6_provesNone (some .boolean)) {aO : Nat → Nat} {aP : Nat → Nat} {aW : Nat → Nat} {aS : Nat → Nat} {aD : Nat → Nat} {aQ : Nat → Nat} {sW : zSt} {sS : zSt} {sD : zSt} {sO : zSt} {out : Int32 × zSt} (hQ : zHi C out.1 [wX6 (zcT C) aO (aP 0) (aW 0) out.2] 0 0) (h : fX6_provesNone_54 sW sS sD sO = some out) : zG C 3 [0] 0 0 [wX6 (zcT C) aO (aP 0) (aW 0) sO, wX9 (zcT C) aW (aP 0) (aS 0) (aD 0) (aQ 0) sW, wX7 (zcT C) aS sS, wX1 (zcT C) aD sD] 54 [] [] := by
  unfold fX6_provesNone_54 at h
  refine z_iconst (v := (0 : Int32)) X dX6_provesNone_54 rfl ?_
  cases h
  exact z_nret X hQ rfl dX6_provesNone_55 rfl [0] rfl (by decide) (by decide)
theorem bX6_provesNone_58 {C : zCtx} (X : zFx C cX6_provesNone 3 RX6 rmX6_provesNone (some .boolean)) {aO : Nat → Nat} {aP : Nat → Nat} {aW : Nat → Nat} {aS : Nat → Nat} {aD : Nat → Nat} {aQ : Nat → Nat} {sW : zSt} {sS : zSt} {sD : zSt} {out : Int32 × zSt} (hQ : zHi C out.1 [wX6 (zcT C) aO (aP 0) (aW 0) out.2] 0 0) : ∀ (n : Nat) (sO : zSt) (x2 : Int32), fX6_provesNone_58 sW sS sD n sO x2 = some out → zG C 3 [0] 0 0 [wX6 (zcT C) aO (aP 0) (aW 0) sO, wX9 (zcT C) aW (aP 0) (aS 0) (aD 0) (aQ 0) sW, wX7 (zcT C) aS sS, wX1 (zcT C) aD sD] 58 [(0, .ref (aO 0)), (2, .int x2)] [] := by
  intro n
  induction n with
  | zero =>
    intro sO x2 h
    rw [fX6_provesNone_58] at h
    exact zno h
  | succ n ih =>
    intro sO x2 h
    rw [fX6_provesNone_58] at h
    refine z_iload_n X dX6_provesNone_58 1 rfl ?_
    refine z_aload_n X dX6_provesNone_59 0 rfl ?_
    refine z_get (v := .ref (aO 3)) X 0 0 7 2 ziX6 rfl (by decide) zw288 rfl dX6_provesNone_60 rfl rfl rfl ?_
    refine z_alen (v := (3 : Int32)) X 0 1 2 rfl rfl dX6_provesNone_63 rfl rfl ?_
    refine z_icmp_ge (tgt := 86) X dX6_provesNone_64 (by decide) (fun c64 => ?_) (fun c64 => ?_)
    · replace h := zif_t h c64
      refine z_iconst (v := (1 : Int32)) X dX6_provesNone_86 rfl ?_
      cases h
      exact z_nret X hQ rfl dX6_provesNone_87 rfl [0] rfl (by decide) (by decide)
    · replace h := zif_f h c64
      refine z_aload_n X dX6_provesNone_67 0 rfl ?_
      refine z_get (v := .ref (aO 3)) X 0 0 7 2 ziX6 rfl (by decide) zw288 rfl dX6_provesNone_68 rfl rfl rfl ?_
      refine z_iload_n X dX6_provesNone_71 1 rfl ?_
      obtain ⟨g72, h⟩ := zgd_of h
      refine z_lald X 0 1 g72 dX6_provesNone_72 rfl rfl ?_
      refine z_lconst (v := (0 : Int64)) X dX6_provesNone_73 rfl ?_
      refine z_lcmp_eq (tgt := 80) X dX6_provesNone_74 dX6_provesNone_75 (by decide) (fun c74 => ?_) (fun c74 => ?_)
      · replace h := zif_t h c74
        obtain ⟨v80, ev80, h⟩ := zlet_of h
        refine z_iinc (v := v80) (lv2 := [(2, .int v80), (0, .ref (aO 0))]) X dX6_provesNone_80 (k := 1) rfl (by rw [ev80]; rfl) (by decide) rfl ?_
        refine z_goto (tgt := 58) X dX6_provesNone_83 (by decide) ?_
        exact z_at (pc2 := 58) (lv2 := [(0, .ref (aO 0)), (2, .int v80)]) (st2 := []) (ws2 := [wX6 (zcT C) aO (aP 0) (aW 0) sO, wX9 (zcT C) aW (aP 0) (aS 0) (aD 0) (aQ 0) sW, wX7 (zcT C) aS sS, wX1 (zcT C) aD sD]) rfl rfl rfl [1, 0] rfl (ih sO v80 h)
      · replace h := zif_f h c74
        refine z_iconst (v := (0 : Int32)) X dX6_provesNone_78 rfl ?_
        cases h
        exact z_nret X hQ rfl dX6_provesNone_79 rfl [0] rfl (by decide) (by decide)
theorem bX6_provesNone_0 {C : zCtx} (X : zFx C cX6_provesNone 3 RX6 rmX6_provesNone (some .boolean)) {aO : Nat → Nat} {aP : Nat → Nat} {aW : Nat → Nat} {aS : Nat → Nat} {aD : Nat → Nat} {aQ : Nat → Nat} {sO : zSt} {sW : zSt} {sS : zSt} {sD : zSt} {out : Int32 × zSt} (hQ : zHi C out.1 [wX6 (zcT C) aO (aP 0) (aW 0) out.2] 0 0) (h : fX6_provesNone sO sW sS sD = some out) : zG C 3 [0] 0 0 [wX6 (zcT C) aO (aP 0) (aW 0) sO, wX9 (zcT C) aW (aP 0) (aS 0) (aD 0) (aQ 0) sW, wX7 (zcT C) aS sS, wX1 (zcT C) aD sD] 0 [(0, .ref (aO 0))] [] := by
  unfold fX6_provesNone at h
  refine z_aload_n X dX6_provesNone_0 0 rfl ?_
  obtain ⟨o1, ho1, h⟩ := zbind_of h
  refine z_callVv (st := []) (ws2 := [wX6 (zcT C) aO (aP 0) (aW 0) o1, wX9 (zcT C) aW (aP 0) (aS 0) (aD 0) (aQ 0) sW, wX7 (zcT C) aS sS, wX1 (zcT C) aD sD]) X (metX6_clear (zcl C) (zcD C) (zcT C) aO aP aW ho1) zmX6_clear zw670 dX6_provesNone_1 0 0 7 rfl rfl rfl rfl [0] rfl rfl [0] rfl (by decide) ⟨zsX6 , trivial⟩ rfl rfl rfl (Nat.le_of_ble_eq_true rfl) rfl rfl ⟨Nat.le_of_ble_eq_true rfl, Nat.le_of_ble_eq_true rfl⟩ ⟨Nat.le_of_ble_eq_true rfl, Nat.le_of_ble_eq_true rfl⟩ ?_
  refine z_aload_n X dX6_provesNone_4 0 rfl ?_
  refine z_get (v := .ref (aW 0)) X 0 0 7 1 ziX6 rfl (by decide) zw287 rfl dX6_provesNone_5 rfl rfl rfl ?_
  refine z_getN (v := .int (zgi sW 8)) X 1 0 10 8 ziX9 rfl (by decide) zw256 rfl dX6_provesNone_8 rfl rfl rfl ?_
  obtain ⟨v11, ev11, h⟩ := zlet_of h
  refine z_topi ev11 ?_
  refine z_istore_n (lv2 := [(1, .int v11), (0, .ref (aO 0))]) X dX6_provesNone_11 rfl (by decide) rfl ?_
  refine z_aload_n X dX6_provesNone_12 1 rfl ?_
  refine z_aload_n X dX6_provesNone_13 1 rfl ?_
  refine z_get (v := .ref (aW 0)) X 0 0 7 1 ziX6 rfl (by decide) zw287 rfl dX6_provesNone_14 rfl rfl rfl ?_
  refine z_getN (v := .ref (aD 0)) X 1 0 10 2 ziX9 rfl (by decide) zw242 rfl dX6_provesNone_17 rfl rfl rfl ?_
  refine z_getN (v := .long (zgl sD 4)) X 3 0 2 4 ziX1 rfl (by decide) zw198 rfl dX6_provesNone_20 rfl rfl rfl ?_
  refine z_aload_n X dX6_provesNone_23 1 rfl ?_
  refine z_get (v := .ref (aW 0)) X 0 0 7 1 ziX6 rfl (by decide) zw287 rfl dX6_provesNone_24 rfl rfl rfl ?_
  refine z_getN (v := .ref (aD 0)) X 1 0 10 2 ziX9 rfl (by decide) zw242 rfl dX6_provesNone_27 rfl rfl rfl ?_
  refine z_iload_n X dX6_provesNone_30 0 rfl ?_
  obtain ⟨o31, ho31, h⟩ := zbind_of h
  refine z_callVi (st := [.long (zgl sD 4), .ref (aO 0)]) (ws2 := [wX6 (zcT C) aO (aP 0) (aW 0) o1, wX9 (zcT C) aW (aP 0) (aS 0) (aD 0) (aQ 0) sW, wX7 (zcT C) aS sS, wX1 (zcT C) aD sD]) X (metX1_insideOf (zcl C) (zcD C) (zcT C) aD ho31) zmX1_insideOf zw674 dX6_provesNone_31 3 0 2 rfl rfl rfl rfl [3] rfl rfl [] rfl (by decide) trivial rfl rfl rfl (Nat.le_of_ble_eq_true rfl) rfl rfl ⟨Nat.le_of_ble_eq_true rfl, Nat.le_of_ble_eq_true rfl⟩ ⟨Nat.le_of_ble_eq_true rfl, Nat.le_of_ble_eq_true rfl⟩ ?_
  obtain ⟨o34, ho34, h⟩ := zbind_of h
  refine z_callVv (st := []) (ws2 := [wX6 (zcT C) aO (aP 0) (aW 0) o34, wX9 (zcT C) aW (aP 0) (aS 0) (aD 0) (aQ 0) sW, wX7 (zcT C) aS sS, wX1 (zcT C) aD sD]) X (metX6_add (zcl C) (zcD C) (zcT C) aO aP aW aS aD aQ ho34) zmX6_add zw675 dX6_provesNone_34 0 0 7 rfl rfl rfl rfl [0, 1, 2] rfl rfl [0] rfl (by decide) ⟨zsX6 , trivial⟩ rfl rfl rfl (Nat.le_of_ble_eq_true rfl) rfl rfl ⟨Nat.le_of_ble_eq_true rfl, Nat.le_of_ble_eq_true rfl⟩ ⟨Nat.le_of_ble_eq_true rfl, Nat.le_of_ble_eq_true rfl⟩ ?_
  refine z_aload_n X dX6_provesNone_37 1 rfl ?_
  refine z_iload_n X dX6_provesNone_38 0 rfl ?_
  obtain ⟨o39, ho39, h⟩ := zbind_of h
  refine z_callVi (st := []) (ws2 := [wX6 (zcT C) aO (aP 0) (aW 0) o39.2, wX9 (zcT C) aW (aP 0) (aS 0) (aD 0) (aQ 0) sW, wX7 (zcT C) aS sS, wX1 (zcT C) aD sD]) X (metX6_addOutsides (zcl C) (zcD C) (zcT C) aO aP aW aS aD aQ ho39) zmX6_addOutsides zw681 dX6_provesNone_39 0 0 7 rfl rfl rfl rfl [0, 1, 2, 3] rfl rfl [0] rfl (by decide) ⟨zsX6 , trivial⟩ rfl rfl rfl (Nat.le_of_ble_eq_true rfl) rfl rfl ⟨Nat.le_of_ble_eq_true rfl, Nat.le_of_ble_eq_true rfl⟩ ⟨Nat.le_of_ble_eq_true rfl, Nat.le_of_ble_eq_true rfl⟩ ?_
  refine z_if_eq (tgt := 54) X dX6_provesNone_42 (by decide) (fun c42 => ?_) (fun c42 => ?_)
  · replace h := zif_t h c42
    exact z_at (pc2 := 54) (lv2 := []) (st2 := []) (ws2 := [wX6 (zcT C) aO (aP 0) (aW 0) o39.2, wX9 (zcT C) aW (aP 0) (aS 0) (aD 0) (aQ 0) sW, wX7 (zcT C) aS sS, wX1 (zcT C) aD sD]) rfl rfl rfl [] rfl (bX6_provesNone_54 X hQ  h)
  · replace h := zif_f h c42
    refine z_aload_n X dX6_provesNone_45 1 rfl ?_
    refine z_get (v := .long (zgl o39.2 3)) X 0 0 7 3 ziX6 rfl (by decide) zw289 rfl dX6_provesNone_46 rfl rfl rfl ?_
    refine z_lconst (v := (0 : Int64)) X dX6_provesNone_49 rfl ?_
    refine z_lcmp_lt (tgt := 56) X dX6_provesNone_50 dX6_provesNone_51 (by decide) (fun c50 => ?_) (fun c50 => ?_)
    · replace h := zif_t h c50
      refine z_iconst (v := (0 : Int32)) X dX6_provesNone_56 rfl ?_
      refine z_istore_n (lv2 := [(2, .int (0 : Int32)), (1, .int v11), (0, .ref (aO 0))]) X dX6_provesNone_57 rfl (by decide) rfl ?_
      exact z_at (pc2 := 58) (lv2 := [(0, .ref (aO 0)), (2, .int (0 : Int32))]) (st2 := []) (ws2 := [wX6 (zcT C) aO (aP 0) (aW 0) o39.2, wX9 (zcT C) aW (aP 0) (aS 0) (aD 0) (aQ 0) sW, wX7 (zcT C) aS sS, wX1 (zcT C) aD sD]) rfl rfl rfl [2, 0] rfl (bX6_provesNone_58 X hQ  6000 o39.2 (0 : Int32) h)
    · replace h := zif_f h c50
      exact z_at (pc2 := 54) (lv2 := []) (st2 := []) (ws2 := [wX6 (zcT C) aO (aP 0) (aW 0) o39.2, wX9 (zcT C) aW (aP 0) (aS 0) (aD 0) (aQ 0) sW, wX7 (zcT C) aS sS, wX1 (zcT C) aD sD]) rfl rfl rfl [] rfl (bX6_provesNone_54 X hQ  h)
theorem metX6_provesNone (l : Launch) (D : va_G) (T : Nat → ClassId) (aO : Nat → Nat) (aP : Nat → Nat) (aW : Nat → Nat) (aS : Nat → Nat) (aD : Nat → Nat) (aQ : Nat → Nat) {sO : zSt} {sW : zSt} {sS : zSt} {sD : zSt} {out : Int32 × zSt} (hf : fX6_provesNone sO sW sS sD = some out) (sz : Nat) : Met l yX6_provesNone (zws yX6_provesNone cX6_provesNone 3 (some .boolean)) rmX6_provesNone (zPc D T [.ref (aO 0)] [wX6 T aO (aP 0) (aW 0) sO, wX9 T aW (aP 0) (aS 0) (aD 0) (aQ 0) sW, wX7 T aS sS, wX1 T aD sD] sz) (zQi D out.1 [wX6 T aO (aP 0) (aW 0) out.2] (zA [wX6 T aO (aP 0) (aW 0) sO] sz)) 0 0 (zA [wX6 T aO (aP 0) (aW 0) sO] sz) :=
  zMet (D := D) (T := T) (av := [.ref (aO 0)]) (ws := fun T => [wX6 T aO (aP 0) (aW 0) sO, wX9 T aW (aP 0) (aS 0) (aD 0) (aQ 0) sW, wX7 T aS sS, wX1 T aD sD]) (wm := fun T => [wX6 T aO (aP 0) (aW 0) sO]) (lv0 := [(0, .ref (aO 0))]) [0] (Qc := fun D T A => zQi D out.1 [wX6 T aO (aP 0) (aW 0) out.2] A) (by decide +kernel) rfl (Nat.le_of_ble_eq_true rfl) rfl (fun C X hQ => bX6_provesNone_0 X hQ hf) sz
/-- private long gainOfSide(int); of Tableaufloor$Proof -/
abbrev rmX6_gainOfSide : Room := { frames := 1, cells := 0, slots := 0, locals := 23 }
def fX6_gainOfSide_5 (sO : zSt) (sW : zSt) (sS : zSt) : Nat → Int32 → Int64 → Int32 → Option (Int64)
  | 0, _, _, _ => none
  | n + 1, x1, x2, x4 =>
    (if (3 : Int32) ≤ x4 then
      some (x2)
    else
      ((fX7_slopeOf sS x1 x4).bind (fun o26 =>
        (if zin x4 3 = true then
        (zlet (x2 + (o26 * (zgb sO 2 (x4).toNatClampNeg))) (fun v38 =>
        (zlet (x4 + 1) (fun v39 =>
        (fX6_gainOfSide_5 sO sW sS n x1 v38 v39))))) else none))))
def fX6_gainOfSide (sO : zSt) (sW : zSt) (sS : zSt) (x1 : Int32) : Option (Int64) :=
  (fX6_gainOfSide_5 sO sW sS 6000 x1 (0 : Int64) (0 : Int32))
theorem bX6_gainOfSide_5 {C : zCtx} (X : zFx C cX6_gainOfSide 5 RX6 rmX6_gainOfSide (some .long)) {aO : Nat → Nat} {aP : Nat → Nat} {aW : Nat → Nat} {aS : Nat → Nat} {aD : Nat → Nat} {aQ : Nat → Nat} {sO : zSt} {sW : zSt} {sS : zSt} {out : Int64} (hQ : zHl C out [] 0 0) : ∀ (n : Nat) (x1 : Int32) (x2 : Int64) (x4 : Int32), fX6_gainOfSide_5 sO sW sS n x1 x2 x4 = some out → zG C 5 [] 0 0 [wX6 (zcT C) aO (aP 0) (aW 0) sO, wX9 (zcT C) aW (aP 0) (aS 0) (aD 0) (aQ 0) sW, wX7 (zcT C) aS sS] 5 [(0, .ref (aO 0)), (1, .int x1), (2, .long x2), (4, .int x4)] [] := by
  intro n
  induction n with
  | zero =>
    intro x1 x2 x4 h
    rw [fX6_gainOfSide_5] at h
    exact zno h
  | succ n ih =>
    intro x1 x2 x4 h
    rw [fX6_gainOfSide_5] at h
    refine z_iload X dX6_gainOfSide_5 3 rfl ?_
    refine z_aload_n X dX6_gainOfSide_7 0 rfl ?_
    refine z_get (v := .ref (aO 3)) X 0 0 7 2 ziX6 rfl (by decide) zw288 rfl dX6_gainOfSide_8 rfl rfl rfl ?_
    refine z_alen (v := (3 : Int32)) X 0 1 2 rfl rfl dX6_gainOfSide_11 rfl rfl ?_
    refine z_icmp_ge (tgt := 45) X dX6_gainOfSide_12 (by decide) (fun c12 => ?_) (fun c12 => ?_)
    · replace h := zif_t h c12
      refine z_lload_n X dX6_gainOfSide_45 2 rfl ?_
      cases h
      exact z_lret X hQ dX6_gainOfSide_46 rfl [] rfl (by decide) (by decide)
    · replace h := zif_f h c12
      refine z_lload_n X dX6_gainOfSide_15 2 rfl ?_
      refine z_aload_n X dX6_gainOfSide_16 0 rfl ?_
      refine z_get (v := .ref (aW 0)) X 0 0 7 1 ziX6 rfl (by decide) zw287 rfl dX6_gainOfSide_17 rfl rfl rfl ?_
      refine z_getN (v := .ref (aS 0)) X 1 0 10 1 ziX9 rfl (by decide) zw240 rfl dX6_gainOfSide_20 rfl rfl rfl ?_
      refine z_iload_n X dX6_gainOfSide_23 1 rfl ?_
      refine z_iload X dX6_gainOfSide_24 3 rfl ?_
      obtain ⟨o26, ho26, h⟩ := zbind_of h
      refine z_callVl (st := [.long x2]) (ws2 := [wX6 (zcT C) aO (aP 0) (aW 0) sO, wX9 (zcT C) aW (aP 0) (aS 0) (aD 0) (aQ 0) sW, wX7 (zcT C) aS sS]) X (metX7_slopeOf (zcl C) (zcD C) (zcT C) aS ho26) zmX7_slopeOf zw680 dX6_gainOfSide_26 2 0 8 rfl rfl rfl rfl [2] rfl rfl [] rfl (by decide) trivial rfl rfl rfl (Nat.le_of_ble_eq_true rfl) rfl rfl ⟨Nat.le_of_ble_eq_true rfl, Nat.le_of_ble_eq_true rfl⟩ ⟨Nat.le_of_ble_eq_true rfl, Nat.le_of_ble_eq_true rfl⟩ ?_
      refine z_aload_n X dX6_gainOfSide_29 0 rfl ?_
      refine z_get (v := .ref (aO 3)) X 0 0 7 2 ziX6 rfl (by decide) zw288 rfl dX6_gainOfSide_30 rfl rfl rfl ?_
      refine z_iload X dX6_gainOfSide_33 3 rfl ?_
      obtain ⟨g35, h⟩ := zgd_of h
      refine z_lald X 0 1 g35 dX6_gainOfSide_35 rfl rfl ?_
      refine z_lmul X dX6_gainOfSide_36 ?_
      refine z_ladd X dX6_gainOfSide_37 ?_
      obtain ⟨v38, ev38, h⟩ := zlet_of h
      refine z_topl ev38 ?_
      refine z_lstore_n (lv2 := [(2, .long v38), (0, .ref (aO 0)), (1, .int x1), (4, .int x4)]) X dX6_gainOfSide_38 rfl (by decide) rfl ?_
      obtain ⟨v39, ev39, h⟩ := zlet_of h
      refine z_iinc (v := v39) (lv2 := [(4, .int v39), (2, .long v38), (0, .ref (aO 0)), (1, .int x1)]) X dX6_gainOfSide_39 (k := 3) rfl (by rw [ev39]; rfl) (by decide) rfl ?_
      refine z_goto (tgt := 5) X dX6_gainOfSide_42 (by decide) ?_
      exact z_at (pc2 := 5) (lv2 := [(0, .ref (aO 0)), (1, .int x1), (2, .long v38), (4, .int v39)]) (st2 := []) (ws2 := [wX6 (zcT C) aO (aP 0) (aW 0) sO, wX9 (zcT C) aW (aP 0) (aS 0) (aD 0) (aQ 0) sW, wX7 (zcT C) aS sS]) rfl rfl rfl [2, 3, 1, 0] rfl (ih x1 v38 v39 h)
theorem bX6_gainOfSide_0 {C : zCtx} (X : zFx C cX6_gainOfSide 5 RX6 rmX6_gainOfSide (some .long)) {aO : Nat → Nat} {aP : Nat → Nat} {aW : Nat → Nat} {aS : Nat → Nat} {aD : Nat → Nat} {aQ : Nat → Nat} {sO : zSt} {sW : zSt} {sS : zSt} {x1 : Int32} {out : Int64} (hQ : zHl C out [] 0 0) (h : fX6_gainOfSide sO sW sS x1 = some out) : zG C 5 [] 0 0 [wX6 (zcT C) aO (aP 0) (aW 0) sO, wX9 (zcT C) aW (aP 0) (aS 0) (aD 0) (aQ 0) sW, wX7 (zcT C) aS sS] 0 [(0, .ref (aO 0)), (1, .int x1)] [] := by
  unfold fX6_gainOfSide at h
  refine z_lconst (v := (0 : Int64)) X dX6_gainOfSide_0 rfl ?_
  refine z_lstore_n (lv2 := [(2, .long (0 : Int64)), (0, .ref (aO 0)), (1, .int x1)]) X dX6_gainOfSide_1 rfl (by decide) rfl ?_
  refine z_iconst (v := (0 : Int32)) X dX6_gainOfSide_2 rfl ?_
  refine z_istore (lv2 := [(4, .int (0 : Int32)), (2, .long (0 : Int64)), (0, .ref (aO 0)), (1, .int x1)]) X dX6_gainOfSide_3 (by decide) rfl ?_
  exact z_at (pc2 := 5) (lv2 := [(0, .ref (aO 0)), (1, .int x1), (2, .long (0 : Int64)), (4, .int (0 : Int32))]) (st2 := []) (ws2 := [wX6 (zcT C) aO (aP 0) (aW 0) sO, wX9 (zcT C) aW (aP 0) (aS 0) (aD 0) (aQ 0) sW, wX7 (zcT C) aS sS]) rfl rfl rfl [2, 3, 1, 0] rfl (bX6_gainOfSide_5 X hQ  6000 x1 (0 : Int64) (0 : Int32) h)
theorem metX6_gainOfSide (l : Launch) (D : va_G) (T : Nat → ClassId) (aO : Nat → Nat) (aP : Nat → Nat) (aW : Nat → Nat) (aS : Nat → Nat) (aD : Nat → Nat) (aQ : Nat → Nat) {sO : zSt} {sW : zSt} {sS : zSt} {x1 : Int32} {out : Int64} (hf : fX6_gainOfSide sO sW sS x1 = some out) (sz : Nat) : Met l yX6_gainOfSide (zws yX6_gainOfSide cX6_gainOfSide 5 (some .long)) rmX6_gainOfSide (zPc D T [.ref (aO 0), .int x1] [wX6 T aO (aP 0) (aW 0) sO, wX9 T aW (aP 0) (aS 0) (aD 0) (aQ 0) sW, wX7 T aS sS] sz) (zQl D out [] (zA [] sz)) 0 0 (zA [] sz) :=
  zMet (D := D) (T := T) (av := [.ref (aO 0), .int x1]) (ws := fun T => [wX6 T aO (aP 0) (aW 0) sO, wX9 T aW (aP 0) (aS 0) (aD 0) (aQ 0) sW, wX7 T aS sS]) (wm := fun T => []) (lv0 := [(0, .ref (aO 0)), (1, .int x1)]) [] (Qc := fun D T A => zQl D out [] A) (by decide +kernel) rfl (Nat.le_of_ble_eq_true rfl) rfl (fun C X hQ => bX6_gainOfSide_0 X hQ hf) sz
/-- private long gainOfAim(int); of Tableaufloor$Proof -/
abbrev rmX6_gainOfAim : Room := { frames := 1, cells := 0, slots := 0, locals := 23 }
def fX6_gainOfAim_5 (sO : zSt) (sP : zSt) : Nat → Int32 → Int64 → Int32 → Option (Int64)
  | 0, _, _, _ => none
  | n + 1, x1, x2, x4 =>
    (if (3 : Int32) ≤ x4 then
      ((fX5_directionOf sP x1).bind (fun o49 =>
        some ((x2 * ((o49).toInt64)))))
    else
      ((fX5_aimCoefficient sP x1 x4).bind (fun o23 =>
        (if zin x4 3 = true then
        (zlet (x2 + (((o23).toInt64) * (zgb sO 2 (x4).toNatClampNeg))) (fun v36 =>
        (zlet (x4 + 1) (fun v37 =>
        (fX6_gainOfAim_5 sO sP n x1 v36 v37))))) else none))))
def fX6_gainOfAim (sO : zSt) (sP : zSt) (x1 : Int32) : Option (Int64) :=
  (fX6_gainOfAim_5 sO sP 6000 x1 (0 : Int64) (0 : Int32))
theorem bX6_gainOfAim_5 {C : zCtx} (X : zFx C cX6_gainOfAim 5 RX6 rmX6_gainOfAim (some .long)) {aO : Nat → Nat} {aP : Nat → Nat} {aW : Nat → Nat} {sO : zSt} {sP : zSt} {out : Int64} (hQ : zHl C out [] 0 0) : ∀ (n : Nat) (x1 : Int32) (x2 : Int64) (x4 : Int32), fX6_gainOfAim_5 sO sP n x1 x2 x4 = some out → zG C 5 [] 0 0 [wX6 (zcT C) aO (aP 0) (aW 0) sO, wX5 (zcT C) aP sP] 5 [(0, .ref (aO 0)), (1, .int x1), (2, .long x2), (4, .int x4)] [] := by
  intro n
  induction n with
  | zero =>
    intro x1 x2 x4 h
    rw [fX6_gainOfAim_5] at h
    exact zno h
  | succ n ih =>
    intro x1 x2 x4 h
    rw [fX6_gainOfAim_5] at h
    refine z_iload X dX6_gainOfAim_5 3 rfl ?_
    refine z_aload_n X dX6_gainOfAim_7 0 rfl ?_
    refine z_get (v := .ref (aO 3)) X 0 0 7 2 ziX6 rfl (by decide) zw288 rfl dX6_gainOfAim_8 rfl rfl rfl ?_
    refine z_alen (v := (3 : Int32)) X 0 1 2 rfl rfl dX6_gainOfAim_11 rfl rfl ?_
    refine z_icmp_ge (tgt := 43) X dX6_gainOfAim_12 (by decide) (fun c12 => ?_) (fun c12 => ?_)
    · replace h := zif_t h c12
      refine z_lload_n X dX6_gainOfAim_43 2 rfl ?_
      refine z_aload_n X dX6_gainOfAim_44 0 rfl ?_
      refine z_get (v := .ref (aP 0)) X 0 0 7 0 ziX6 rfl (by decide) zw286 rfl dX6_gainOfAim_45 rfl rfl rfl ?_
      refine z_iload_n X dX6_gainOfAim_48 1 rfl ?_
      obtain ⟨o49, ho49, h⟩ := zbind_of h
      refine z_callVi (st := [.long x2]) (ws2 := [wX6 (zcT C) aO (aP 0) (aW 0) sO, wX5 (zcT C) aP sP]) X (metX5_directionOf (zcl C) (zcD C) (zcT C) aP ho49) zmX5_directionOf zw733 dX6_gainOfAim_49 1 0 6 rfl rfl rfl rfl [1] rfl rfl [] rfl (by decide) trivial rfl rfl rfl (Nat.le_of_ble_eq_true rfl) rfl rfl ⟨Nat.le_of_ble_eq_true rfl, Nat.le_of_ble_eq_true rfl⟩ ⟨Nat.le_of_ble_eq_true rfl, Nat.le_of_ble_eq_true rfl⟩ ?_
      refine z_i2l X dX6_gainOfAim_52 ?_
      refine z_lmul X dX6_gainOfAim_53 ?_
      cases h
      exact z_lret X hQ dX6_gainOfAim_54 rfl [] rfl (by decide) (by decide)
    · replace h := zif_f h c12
      refine z_lload_n X dX6_gainOfAim_15 2 rfl ?_
      refine z_aload_n X dX6_gainOfAim_16 0 rfl ?_
      refine z_get (v := .ref (aP 0)) X 0 0 7 0 ziX6 rfl (by decide) zw286 rfl dX6_gainOfAim_17 rfl rfl rfl ?_
      refine z_iload_n X dX6_gainOfAim_20 1 rfl ?_
      refine z_iload X dX6_gainOfAim_21 3 rfl ?_
      obtain ⟨o23, ho23, h⟩ := zbind_of h
      refine z_callVi (st := [.long x2]) (ws2 := [wX6 (zcT C) aO (aP 0) (aW 0) sO, wX5 (zcT C) aP sP]) X (metX5_aimCoefficient (zcl C) (zcD C) (zcT C) aP ho23) zmX5_aimCoefficient zw732 dX6_gainOfAim_23 1 0 6 rfl rfl rfl rfl [1] rfl rfl [] rfl (by decide) trivial rfl rfl rfl (Nat.le_of_ble_eq_true rfl) rfl rfl ⟨Nat.le_of_ble_eq_true rfl, Nat.le_of_ble_eq_true rfl⟩ ⟨Nat.le_of_ble_eq_true rfl, Nat.le_of_ble_eq_true rfl⟩ ?_
      refine z_i2l X dX6_gainOfAim_26 ?_
      refine z_aload_n X dX6_gainOfAim_27 0 rfl ?_
      refine z_get (v := .ref (aO 3)) X 0 0 7 2 ziX6 rfl (by decide) zw288 rfl dX6_gainOfAim_28 rfl rfl rfl ?_
      refine z_iload X dX6_gainOfAim_31 3 rfl ?_
      obtain ⟨g33, h⟩ := zgd_of h
      refine z_lald X 0 1 g33 dX6_gainOfAim_33 rfl rfl ?_
      refine z_lmul X dX6_gainOfAim_34 ?_
      refine z_ladd X dX6_gainOfAim_35 ?_
      obtain ⟨v36, ev36, h⟩ := zlet_of h
      refine z_topl ev36 ?_
      refine z_lstore_n (lv2 := [(2, .long v36), (0, .ref (aO 0)), (1, .int x1), (4, .int x4)]) X dX6_gainOfAim_36 rfl (by decide) rfl ?_
      obtain ⟨v37, ev37, h⟩ := zlet_of h
      refine z_iinc (v := v37) (lv2 := [(4, .int v37), (2, .long v36), (0, .ref (aO 0)), (1, .int x1)]) X dX6_gainOfAim_37 (k := 3) rfl (by rw [ev37]; rfl) (by decide) rfl ?_
      refine z_goto (tgt := 5) X dX6_gainOfAim_40 (by decide) ?_
      exact z_at (pc2 := 5) (lv2 := [(0, .ref (aO 0)), (1, .int x1), (2, .long v36), (4, .int v37)]) (st2 := []) (ws2 := [wX6 (zcT C) aO (aP 0) (aW 0) sO, wX5 (zcT C) aP sP]) rfl rfl rfl [2, 3, 1, 0] rfl (ih x1 v36 v37 h)
theorem bX6_gainOfAim_0 {C : zCtx} (X : zFx C cX6_gainOfAim 5 RX6 rmX6_gainOfAim (some .long)) {aO : Nat → Nat} {aP : Nat → Nat} {aW : Nat → Nat} {sO : zSt} {sP : zSt} {x1 : Int32} {out : Int64} (hQ : zHl C out [] 0 0) (h : fX6_gainOfAim sO sP x1 = some out) : zG C 5 [] 0 0 [wX6 (zcT C) aO (aP 0) (aW 0) sO, wX5 (zcT C) aP sP] 0 [(0, .ref (aO 0)), (1, .int x1)] [] := by
  unfold fX6_gainOfAim at h
  refine z_lconst (v := (0 : Int64)) X dX6_gainOfAim_0 rfl ?_
  refine z_lstore_n (lv2 := [(2, .long (0 : Int64)), (0, .ref (aO 0)), (1, .int x1)]) X dX6_gainOfAim_1 rfl (by decide) rfl ?_
  refine z_iconst (v := (0 : Int32)) X dX6_gainOfAim_2 rfl ?_
  refine z_istore (lv2 := [(4, .int (0 : Int32)), (2, .long (0 : Int64)), (0, .ref (aO 0)), (1, .int x1)]) X dX6_gainOfAim_3 (by decide) rfl ?_
  exact z_at (pc2 := 5) (lv2 := [(0, .ref (aO 0)), (1, .int x1), (2, .long (0 : Int64)), (4, .int (0 : Int32))]) (st2 := []) (ws2 := [wX6 (zcT C) aO (aP 0) (aW 0) sO, wX5 (zcT C) aP sP]) rfl rfl rfl [2, 3, 1, 0] rfl (bX6_gainOfAim_5 X hQ  6000 x1 (0 : Int64) (0 : Int32) h)
theorem metX6_gainOfAim (l : Launch) (D : va_G) (T : Nat → ClassId) (aO : Nat → Nat) (aP : Nat → Nat) (aW : Nat → Nat) {sO : zSt} {sP : zSt} {x1 : Int32} {out : Int64} (hf : fX6_gainOfAim sO sP x1 = some out) (sz : Nat) : Met l yX6_gainOfAim (zws yX6_gainOfAim cX6_gainOfAim 5 (some .long)) rmX6_gainOfAim (zPc D T [.ref (aO 0), .int x1] [wX6 T aO (aP 0) (aW 0) sO, wX5 T aP sP] sz) (zQl D out [] (zA [] sz)) 0 0 (zA [] sz) :=
  zMet (D := D) (T := T) (av := [.ref (aO 0), .int x1]) (ws := fun T => [wX6 T aO (aP 0) (aW 0) sO, wX5 T aP sP]) (wm := fun T => []) (lv0 := [(0, .ref (aO 0)), (1, .int x1)]) [] (Qc := fun D T A => zQl D out [] A) (by decide +kernel) rfl (Nat.le_of_ble_eq_true rfl) rfl (fun C X hQ => bX6_gainOfAim_0 X hQ hf) sz
/-- private boolean provesOpen(); of Tableaufloor$Proof -/
abbrev rmX6_provesOpen : Room := { frames := 2, cells := 0, slots := 0, locals := 47 }
def fX6_provesOpen_131 (sP : zSt) (sW : zSt) (sS : zSt) (sD : zSt) (sO : zSt) (y0 : Int32) : Option (Int32 × zSt) :=
  (if znar .boolean y0 = true then
    some (y0, sO) else none)
def fX6_provesOpen_81 (sP : zSt) (sW : zSt) (sS : zSt) (sD : zSt) : Nat → zSt → Int32 → Option (Int32 × zSt)
  | 0, _, _ => none
  | n + 1, sO, x1 =>
    (if (zgi sW 6) ≤ x1 then
      ((fX6_gainOfAim sO sP (zgi sW 6)).bind (fun o118 =>
        (if o118 ≤ (0 : Int64) then
        (fX6_provesOpen_131 sP sW sS sD sO (0 : Int32))
      else
        (fX6_provesOpen_131 sP sW sS sD sO (1 : Int32)))))
    else
      ((fX6_gainOfAim sO sP x1).bind (fun o94 =>
        (if o94 = (0 : Int64) then
        (zlet (x1 + 1) (fun v104 =>
          (fX6_provesOpen_81 sP sW sS sD n sO v104)))
      else
        some ((0 : Int32), sO)))))
def fX6_provesOpen_47 (sP : zSt) (sW : zSt) (sS : zSt) (sD : zSt) : Nat → zSt → Int32 → Option (Int32 × zSt)
  | 0, _, _ => none
  | n + 1, sO, x1 =>
    (if (zgi sS 3) ≤ x1 then
      (fX6_provesOpen_81 sP sW sS sD 6000 sO (0 : Int32))
    else
      ((fX6_gainOfSide sO sW sS x1).bind (fun o63 =>
        (if (0 : Int64) ≤ o63 then
        (zlet (x1 + 1) (fun v73 =>
          (fX6_provesOpen_47 sP sW sS sD n sO v73)))
      else
        some ((0 : Int32), sO)))))
def fX6_provesOpen_6 (sP : zSt) (sW : zSt) (sS : zSt) (sD : zSt) : Nat → zSt → Int32 → Option (Int32 × zSt)
  | 0, _, _ => none
  | n + 1, sO, x1 =>
    (if (3 : Int32) ≤ x1 then
      (fX6_provesOpen_47 sP sW sS sD 6000 sO (0 : Int32))
    else
      ((fX1_rateOf sD x1 (zgi sW 7)).bind (fun o35 =>
        (if zin x1 3 = true then
        (zlet (zsb sO 2 (vp_updL (zgb sO 2) (x1).toNatClampNeg o35)) (fun sO38 =>
        (zlet (x1 + 1) (fun v39 =>
        (fX6_provesOpen_6 sP sW sS sD n sO38 v39))))) else none))))
def fX6_provesOpen (sO : zSt) (sP : zSt) (sW : zSt) (sS : zSt) (sD : zSt) : Option (Int32 × zSt) :=
  ((fX6_clear sO).bind (fun o1 =>
    (fX6_provesOpen_6 sP sW sS sD 6000 o1 (0 : Int32))))
theorem bX6_provesOpen_131 {C : zCtx} (X : zFx C cX6_provesOpen 2 RX6 rmX6_provesOpen (some .boolean)) {aO : Nat → Nat} {aP : Nat → Nat} {aW : Nat → Nat} {aS : Nat → Nat} {aD : Nat → Nat} {aQ : Nat → Nat} {sP : zSt} {sW : zSt} {sS : zSt} {sD : zSt} {sO : zSt} {y0 : Int32} {out : Int32 × zSt} (hQ : zHi C out.1 [wX6 (zcT C) aO (aP 0) (aW 0) out.2] 0 0) (h : fX6_provesOpen_131 sP sW sS sD sO y0 = some out) : zG C 2 [0] 0 0 [wX6 (zcT C) aO (aP 0) (aW 0) sO, wX5 (zcT C) aP sP, wX9 (zcT C) aW (aP 0) (aS 0) (aD 0) (aQ 0) sW, wX7 (zcT C) aS sS, wX1 (zcT C) aD sD] 131 [] [.int y0] := by
  unfold fX6_provesOpen_131 at h
  obtain ⟨g131, h⟩ := zgd_of h
  cases h
  exact z_nret X hQ g131 dX6_provesOpen_131 rfl [0] rfl (by decide) (by decide)
theorem bX6_provesOpen_81 {C : zCtx} (X : zFx C cX6_provesOpen 2 RX6 rmX6_provesOpen (some .boolean)) {aO : Nat → Nat} {aP : Nat → Nat} {aW : Nat → Nat} {aS : Nat → Nat} {aD : Nat → Nat} {aQ : Nat → Nat} {sP : zSt} {sW : zSt} {sS : zSt} {sD : zSt} {out : Int32 × zSt} (hQ : zHi C out.1 [wX6 (zcT C) aO (aP 0) (aW 0) out.2] 0 0) : ∀ (n : Nat) (sO : zSt) (x1 : Int32), fX6_provesOpen_81 sP sW sS sD n sO x1 = some out → zG C 2 [0] 0 0 [wX6 (zcT C) aO (aP 0) (aW 0) sO, wX5 (zcT C) aP sP, wX9 (zcT C) aW (aP 0) (aS 0) (aD 0) (aQ 0) sW, wX7 (zcT C) aS sS, wX1 (zcT C) aD sD] 81 [(0, .ref (aO 0)), (1, .int x1)] [] := by
  intro n
  induction n with
  | zero =>
    intro sO x1 h
    rw [fX6_provesOpen_81] at h
    exact zno h
  | succ n ih =>
    intro sO x1 h
    rw [fX6_provesOpen_81] at h
    refine z_iload_n X dX6_provesOpen_81 1 rfl ?_
    refine z_aload_n X dX6_provesOpen_82 0 rfl ?_
    refine z_get (v := .ref (aW 0)) X 0 0 7 1 ziX6 rfl (by decide) zw287 rfl dX6_provesOpen_83 rfl rfl rfl ?_
    refine z_getN (v := .int (zgi sW 6)) X 2 0 10 6 ziX9 rfl (by decide) zw251 rfl dX6_provesOpen_86 rfl rfl rfl ?_
    refine z_icmp_ge (tgt := 110) X dX6_provesOpen_89 (by decide) (fun c89 => ?_) (fun c89 => ?_)
    · replace h := zif_t h c89
      refine z_aload_n X dX6_provesOpen_110 0 rfl ?_
      refine z_aload_n X dX6_provesOpen_111 0 rfl ?_
      refine z_get (v := .ref (aW 0)) X 0 0 7 1 ziX6 rfl (by decide) zw287 rfl dX6_provesOpen_112 rfl rfl rfl ?_
      refine z_getN (v := .int (zgi sW 6)) X 2 0 10 6 ziX9 rfl (by decide) zw251 rfl dX6_provesOpen_115 rfl rfl rfl ?_
      obtain ⟨o118, ho118, h⟩ := zbind_of h
      refine z_callVl (st := []) (ws2 := [wX6 (zcT C) aO (aP 0) (aW 0) sO, wX5 (zcT C) aP sP, wX9 (zcT C) aW (aP 0) (aS 0) (aD 0) (aQ 0) sW, wX7 (zcT C) aS sS, wX1 (zcT C) aD sD]) X (metX6_gainOfAim (zcl C) (zcD C) (zcT C) aO aP aW ho118) zmX6_gainOfAim zw728 dX6_provesOpen_118 0 0 7 rfl rfl rfl rfl [0, 1] rfl rfl [] rfl (by decide) trivial rfl rfl rfl (Nat.le_of_ble_eq_true rfl) rfl rfl ⟨Nat.le_of_ble_eq_true rfl, Nat.le_of_ble_eq_true rfl⟩ ⟨Nat.le_of_ble_eq_true rfl, Nat.le_of_ble_eq_true rfl⟩ ?_
      refine z_lconst (v := (0 : Int64)) X dX6_provesOpen_121 rfl ?_
      refine z_lcmp_le (tgt := 130) X dX6_provesOpen_122 dX6_provesOpen_123 (by decide) (fun c122 => ?_) (fun c122 => ?_)
      · replace h := zif_t h c122
        refine z_iconst (v := (0 : Int32)) X dX6_provesOpen_130 rfl ?_
        exact z_at (pc2 := 131) (lv2 := []) (st2 := [.int (0 : Int32)]) (ws2 := [wX6 (zcT C) aO (aP 0) (aW 0) sO, wX5 (zcT C) aP sP, wX9 (zcT C) aW (aP 0) (aS 0) (aD 0) (aQ 0) sW, wX7 (zcT C) aS sS, wX1 (zcT C) aD sD]) rfl rfl rfl [] rfl (bX6_provesOpen_131 X hQ  h)
      · replace h := zif_f h c122
        refine z_iconst (v := (1 : Int32)) X dX6_provesOpen_126 rfl ?_
        refine z_goto (tgt := 131) X dX6_provesOpen_127 (by decide) ?_
        exact z_at (pc2 := 131) (lv2 := []) (st2 := [.int (1 : Int32)]) (ws2 := [wX6 (zcT C) aO (aP 0) (aW 0) sO, wX5 (zcT C) aP sP, wX9 (zcT C) aW (aP 0) (aS 0) (aD 0) (aQ 0) sW, wX7 (zcT C) aS sS, wX1 (zcT C) aD sD]) rfl rfl rfl [] rfl (bX6_provesOpen_131 X hQ  h)
    · replace h := zif_f h c89
      refine z_aload_n X dX6_provesOpen_92 0 rfl ?_
      refine z_iload_n X dX6_provesOpen_93 1 rfl ?_
      obtain ⟨o94, ho94, h⟩ := zbind_of h
      refine z_callVl (st := []) (ws2 := [wX6 (zcT C) aO (aP 0) (aW 0) sO, wX5 (zcT C) aP sP, wX9 (zcT C) aW (aP 0) (aS 0) (aD 0) (aQ 0) sW, wX7 (zcT C) aS sS, wX1 (zcT C) aD sD]) X (metX6_gainOfAim (zcl C) (zcD C) (zcT C) aO aP aW ho94) zmX6_gainOfAim zw728 dX6_provesOpen_94 0 0 7 rfl rfl rfl rfl [0, 1] rfl rfl [] rfl (by decide) trivial rfl rfl rfl (Nat.le_of_ble_eq_true rfl) rfl rfl ⟨Nat.le_of_ble_eq_true rfl, Nat.le_of_ble_eq_true rfl⟩ ⟨Nat.le_of_ble_eq_true rfl, Nat.le_of_ble_eq_true rfl⟩ ?_
      refine z_lconst (v := (0 : Int64)) X dX6_provesOpen_97 rfl ?_
      refine z_lcmp_eq (tgt := 104) X dX6_provesOpen_98 dX6_provesOpen_99 (by decide) (fun c98 => ?_) (fun c98 => ?_)
      · replace h := zif_t h c98
        obtain ⟨v104, ev104, h⟩ := zlet_of h
        refine z_iinc (v := v104) (lv2 := [(1, .int v104), (0, .ref (aO 0))]) X dX6_provesOpen_104 (k := 1) rfl (by rw [ev104]; rfl) (by decide) rfl ?_
        refine z_goto (tgt := 81) X dX6_provesOpen_107 (by decide) ?_
        exact z_at (pc2 := 81) (lv2 := [(0, .ref (aO 0)), (1, .int v104)]) (st2 := []) (ws2 := [wX6 (zcT C) aO (aP 0) (aW 0) sO, wX5 (zcT C) aP sP, wX9 (zcT C) aW (aP 0) (aS 0) (aD 0) (aQ 0) sW, wX7 (zcT C) aS sS, wX1 (zcT C) aD sD]) rfl rfl rfl [1, 0] rfl (ih sO v104 h)
      · replace h := zif_f h c98
        refine z_iconst (v := (0 : Int32)) X dX6_provesOpen_102 rfl ?_
        cases h
        exact z_nret X hQ rfl dX6_provesOpen_103 rfl [0] rfl (by decide) (by decide)
theorem bX6_provesOpen_47 {C : zCtx} (X : zFx C cX6_provesOpen 2 RX6 rmX6_provesOpen (some .boolean)) {aO : Nat → Nat} {aP : Nat → Nat} {aW : Nat → Nat} {aS : Nat → Nat} {aD : Nat → Nat} {aQ : Nat → Nat} {sP : zSt} {sW : zSt} {sS : zSt} {sD : zSt} {out : Int32 × zSt} (hQ : zHi C out.1 [wX6 (zcT C) aO (aP 0) (aW 0) out.2] 0 0) : ∀ (n : Nat) (sO : zSt) (x1 : Int32), fX6_provesOpen_47 sP sW sS sD n sO x1 = some out → zG C 2 [0] 0 0 [wX6 (zcT C) aO (aP 0) (aW 0) sO, wX5 (zcT C) aP sP, wX9 (zcT C) aW (aP 0) (aS 0) (aD 0) (aQ 0) sW, wX7 (zcT C) aS sS, wX1 (zcT C) aD sD] 47 [(0, .ref (aO 0)), (1, .int x1)] [] := by
  intro n
  induction n with
  | zero =>
    intro sO x1 h
    rw [fX6_provesOpen_47] at h
    exact zno h
  | succ n ih =>
    intro sO x1 h
    rw [fX6_provesOpen_47] at h
    refine z_iload_n X dX6_provesOpen_47 1 rfl ?_
    refine z_aload_n X dX6_provesOpen_48 0 rfl ?_
    refine z_get (v := .ref (aW 0)) X 0 0 7 1 ziX6 rfl (by decide) zw287 rfl dX6_provesOpen_49 rfl rfl rfl ?_
    refine z_getN (v := .ref (aS 0)) X 2 0 10 1 ziX9 rfl (by decide) zw240 rfl dX6_provesOpen_52 rfl rfl rfl ?_
    refine z_getN (v := .int (zgi sS 3)) X 3 0 8 3 ziX7 rfl (by decide) zw176 rfl dX6_provesOpen_55 rfl rfl rfl ?_
    refine z_icmp_ge (tgt := 79) X dX6_provesOpen_58 (by decide) (fun c58 => ?_) (fun c58 => ?_)
    · replace h := zif_t h c58
      refine z_iconst (v := (0 : Int32)) X dX6_provesOpen_79 rfl ?_
      refine z_istore_n (lv2 := [(1, .int (0 : Int32)), (0, .ref (aO 0))]) X dX6_provesOpen_80 rfl (by decide) rfl ?_
      exact z_at (pc2 := 81) (lv2 := [(0, .ref (aO 0)), (1, .int (0 : Int32))]) (st2 := []) (ws2 := [wX6 (zcT C) aO (aP 0) (aW 0) sO, wX5 (zcT C) aP sP, wX9 (zcT C) aW (aP 0) (aS 0) (aD 0) (aQ 0) sW, wX7 (zcT C) aS sS, wX1 (zcT C) aD sD]) rfl rfl rfl [1, 0] rfl (bX6_provesOpen_81 X hQ  6000 sO (0 : Int32) h)
    · replace h := zif_f h c58
      refine z_aload_n X dX6_provesOpen_61 0 rfl ?_
      refine z_iload_n X dX6_provesOpen_62 1 rfl ?_
      obtain ⟨o63, ho63, h⟩ := zbind_of h
      refine z_callVl (st := []) (ws2 := [wX6 (zcT C) aO (aP 0) (aW 0) sO, wX5 (zcT C) aP sP, wX9 (zcT C) aW (aP 0) (aS 0) (aD 0) (aQ 0) sW, wX7 (zcT C) aS sS, wX1 (zcT C) aD sD]) X (metX6_gainOfSide (zcl C) (zcD C) (zcT C) aO aP aW aS aD aQ ho63) zmX6_gainOfSide zw724 dX6_provesOpen_63 0 0 7 rfl rfl rfl rfl [0, 2, 3] rfl rfl [] rfl (by decide) trivial rfl rfl rfl (Nat.le_of_ble_eq_true rfl) rfl rfl ⟨Nat.le_of_ble_eq_true rfl, Nat.le_of_ble_eq_true rfl⟩ ⟨Nat.le_of_ble_eq_true rfl, Nat.le_of_ble_eq_true rfl⟩ ?_
      refine z_lconst (v := (0 : Int64)) X dX6_provesOpen_66 rfl ?_
      refine z_lcmp_ge (tgt := 73) X dX6_provesOpen_67 dX6_provesOpen_68 (by decide) (fun c67 => ?_) (fun c67 => ?_)
      · replace h := zif_t h c67
        obtain ⟨v73, ev73, h⟩ := zlet_of h
        refine z_iinc (v := v73) (lv2 := [(1, .int v73), (0, .ref (aO 0))]) X dX6_provesOpen_73 (k := 1) rfl (by rw [ev73]; rfl) (by decide) rfl ?_
        refine z_goto (tgt := 47) X dX6_provesOpen_76 (by decide) ?_
        exact z_at (pc2 := 47) (lv2 := [(0, .ref (aO 0)), (1, .int v73)]) (st2 := []) (ws2 := [wX6 (zcT C) aO (aP 0) (aW 0) sO, wX5 (zcT C) aP sP, wX9 (zcT C) aW (aP 0) (aS 0) (aD 0) (aQ 0) sW, wX7 (zcT C) aS sS, wX1 (zcT C) aD sD]) rfl rfl rfl [1, 0] rfl (ih sO v73 h)
      · replace h := zif_f h c67
        refine z_iconst (v := (0 : Int32)) X dX6_provesOpen_71 rfl ?_
        cases h
        exact z_nret X hQ rfl dX6_provesOpen_72 rfl [0] rfl (by decide) (by decide)
theorem bX6_provesOpen_6 {C : zCtx} (X : zFx C cX6_provesOpen 2 RX6 rmX6_provesOpen (some .boolean)) {aO : Nat → Nat} {aP : Nat → Nat} {aW : Nat → Nat} {aS : Nat → Nat} {aD : Nat → Nat} {aQ : Nat → Nat} {sP : zSt} {sW : zSt} {sS : zSt} {sD : zSt} {out : Int32 × zSt} (hQ : zHi C out.1 [wX6 (zcT C) aO (aP 0) (aW 0) out.2] 0 0) : ∀ (n : Nat) (sO : zSt) (x1 : Int32), fX6_provesOpen_6 sP sW sS sD n sO x1 = some out → zG C 2 [0] 0 0 [wX6 (zcT C) aO (aP 0) (aW 0) sO, wX5 (zcT C) aP sP, wX9 (zcT C) aW (aP 0) (aS 0) (aD 0) (aQ 0) sW, wX7 (zcT C) aS sS, wX1 (zcT C) aD sD] 6 [(0, .ref (aO 0)), (1, .int x1)] [] := by
  intro n
  induction n with
  | zero =>
    intro sO x1 h
    rw [fX6_provesOpen_6] at h
    exact zno h
  | succ n ih =>
    intro sO x1 h
    rw [fX6_provesOpen_6] at h
    refine z_iload_n X dX6_provesOpen_6 1 rfl ?_
    refine z_aload_n X dX6_provesOpen_7 0 rfl ?_
    refine z_get (v := .ref (aO 3)) X 0 0 7 2 ziX6 rfl (by decide) zw288 rfl dX6_provesOpen_8 rfl rfl rfl ?_
    refine z_alen (v := (3 : Int32)) X 0 1 2 rfl rfl dX6_provesOpen_11 rfl rfl ?_
    refine z_icmp_ge (tgt := 45) X dX6_provesOpen_12 (by decide) (fun c12 => ?_) (fun c12 => ?_)
    · replace h := zif_t h c12
      refine z_iconst (v := (0 : Int32)) X dX6_provesOpen_45 rfl ?_
      refine z_istore_n (lv2 := [(1, .int (0 : Int32)), (0, .ref (aO 0))]) X dX6_provesOpen_46 rfl (by decide) rfl ?_
      exact z_at (pc2 := 47) (lv2 := [(0, .ref (aO 0)), (1, .int (0 : Int32))]) (st2 := []) (ws2 := [wX6 (zcT C) aO (aP 0) (aW 0) sO, wX5 (zcT C) aP sP, wX9 (zcT C) aW (aP 0) (aS 0) (aD 0) (aQ 0) sW, wX7 (zcT C) aS sS, wX1 (zcT C) aD sD]) rfl rfl rfl [1, 0] rfl (bX6_provesOpen_47 X hQ  6000 sO (0 : Int32) h)
    · replace h := zif_f h c12
      refine z_aload_n X dX6_provesOpen_15 0 rfl ?_
      refine z_get (v := .ref (aO 3)) X 0 0 7 2 ziX6 rfl (by decide) zw288 rfl dX6_provesOpen_16 rfl rfl rfl ?_
      refine z_iload_n X dX6_provesOpen_19 1 rfl ?_
      refine z_aload_n X dX6_provesOpen_20 0 rfl ?_
      refine z_get (v := .ref (aW 0)) X 0 0 7 1 ziX6 rfl (by decide) zw287 rfl dX6_provesOpen_21 rfl rfl rfl ?_
      refine z_getN (v := .ref (aD 0)) X 2 0 10 2 ziX9 rfl (by decide) zw242 rfl dX6_provesOpen_24 rfl rfl rfl ?_
      refine z_iload_n X dX6_provesOpen_27 1 rfl ?_
      refine z_aload_n X dX6_provesOpen_28 0 rfl ?_
      refine z_get (v := .ref (aW 0)) X 0 0 7 1 ziX6 rfl (by decide) zw287 rfl dX6_provesOpen_29 rfl rfl rfl ?_
      refine z_getN (v := .int (zgi sW 7)) X 2 0 10 7 ziX9 rfl (by decide) zw254 rfl dX6_provesOpen_32 rfl rfl rfl ?_
      obtain ⟨o35, ho35, h⟩ := zbind_of h
      refine z_callVl (st := [.int x1, .ref (aO 3)]) (ws2 := [wX6 (zcT C) aO (aP 0) (aW 0) sO, wX5 (zcT C) aP sP, wX9 (zcT C) aW (aP 0) (aS 0) (aD 0) (aQ 0) sW, wX7 (zcT C) aS sS, wX1 (zcT C) aD sD]) X (metX1_rateOf (zcl C) (zcD C) (zcT C) aD ho35) zmX1_rateOf zw719 dX6_provesOpen_35 4 0 2 rfl rfl rfl rfl [4] rfl rfl [] rfl (by decide) trivial rfl rfl rfl (Nat.le_of_ble_eq_true rfl) rfl rfl ⟨Nat.le_of_ble_eq_true rfl, Nat.le_of_ble_eq_true rfl⟩ ⟨Nat.le_of_ble_eq_true rfl, Nat.le_of_ble_eq_true rfl⟩ ?_
      obtain ⟨g38, h⟩ := zgd_of h
      obtain ⟨sO38, esO38, h⟩ := zlet_of h
      refine z_last (ws2 := [wX6 (zcT C) aO (aP 0) (aW 0) sO38, wX5 (zcT C) aP sP, wX9 (zcT C) aW (aP 0) (aS 0) (aD 0) (aQ 0) sW, wX7 (zcT C) aS sS, wX1 (zcT C) aD sD]) X 0 1 g38 dX6_provesOpen_38 rfl rfl (by decide) (w2 := wX6 (zcT C) aO (aP 0) (aW 0) sO38) (by rw [esO38]; rfl) rfl ?_
      obtain ⟨v39, ev39, h⟩ := zlet_of h
      refine z_iinc (v := v39) (lv2 := [(1, .int v39), (0, .ref (aO 0))]) X dX6_provesOpen_39 (k := 1) rfl (by rw [ev39]; rfl) (by decide) rfl ?_
      refine z_goto (tgt := 6) X dX6_provesOpen_42 (by decide) ?_
      exact z_at (pc2 := 6) (lv2 := [(0, .ref (aO 0)), (1, .int v39)]) (st2 := []) (ws2 := [wX6 (zcT C) aO (aP 0) (aW 0) sO38, wX5 (zcT C) aP sP, wX9 (zcT C) aW (aP 0) (aS 0) (aD 0) (aQ 0) sW, wX7 (zcT C) aS sS, wX1 (zcT C) aD sD]) rfl rfl rfl [1, 0] rfl (ih sO38 v39 h)
theorem bX6_provesOpen_0 {C : zCtx} (X : zFx C cX6_provesOpen 2 RX6 rmX6_provesOpen (some .boolean)) {aO : Nat → Nat} {aP : Nat → Nat} {aW : Nat → Nat} {aS : Nat → Nat} {aD : Nat → Nat} {aQ : Nat → Nat} {sO : zSt} {sP : zSt} {sW : zSt} {sS : zSt} {sD : zSt} {out : Int32 × zSt} (hQ : zHi C out.1 [wX6 (zcT C) aO (aP 0) (aW 0) out.2] 0 0) (h : fX6_provesOpen sO sP sW sS sD = some out) : zG C 2 [0] 0 0 [wX6 (zcT C) aO (aP 0) (aW 0) sO, wX5 (zcT C) aP sP, wX9 (zcT C) aW (aP 0) (aS 0) (aD 0) (aQ 0) sW, wX7 (zcT C) aS sS, wX1 (zcT C) aD sD] 0 [(0, .ref (aO 0))] [] := by
  unfold fX6_provesOpen at h
  refine z_aload_n X dX6_provesOpen_0 0 rfl ?_
  obtain ⟨o1, ho1, h⟩ := zbind_of h
  refine z_callVv (st := []) (ws2 := [wX6 (zcT C) aO (aP 0) (aW 0) o1, wX5 (zcT C) aP sP, wX9 (zcT C) aW (aP 0) (aS 0) (aD 0) (aQ 0) sW, wX7 (zcT C) aS sS, wX1 (zcT C) aD sD]) X (metX6_clear (zcl C) (zcD C) (zcT C) aO aP aW ho1) zmX6_clear zw670 dX6_provesOpen_1 0 0 7 rfl rfl rfl rfl [0] rfl rfl [0] rfl (by decide) ⟨zsX6 , trivial⟩ rfl rfl rfl (Nat.le_of_ble_eq_true rfl) rfl rfl ⟨Nat.le_of_ble_eq_true rfl, Nat.le_of_ble_eq_true rfl⟩ ⟨Nat.le_of_ble_eq_true rfl, Nat.le_of_ble_eq_true rfl⟩ ?_
  refine z_iconst (v := (0 : Int32)) X dX6_provesOpen_4 rfl ?_
  refine z_istore_n (lv2 := [(1, .int (0 : Int32)), (0, .ref (aO 0))]) X dX6_provesOpen_5 rfl (by decide) rfl ?_
  exact z_at (pc2 := 6) (lv2 := [(0, .ref (aO 0)), (1, .int (0 : Int32))]) (st2 := []) (ws2 := [wX6 (zcT C) aO (aP 0) (aW 0) o1, wX5 (zcT C) aP sP, wX9 (zcT C) aW (aP 0) (aS 0) (aD 0) (aQ 0) sW, wX7 (zcT C) aS sS, wX1 (zcT C) aD sD]) rfl rfl rfl [1, 0] rfl (bX6_provesOpen_6 X hQ  6000 o1 (0 : Int32) h)
theorem metX6_provesOpen (l : Launch) (D : va_G) (T : Nat → ClassId) (aO : Nat → Nat) (aP : Nat → Nat) (aW : Nat → Nat) (aS : Nat → Nat) (aD : Nat → Nat) (aQ : Nat → Nat) {sO : zSt} {sP : zSt} {sW : zSt} {sS : zSt} {sD : zSt} {out : Int32 × zSt} (hf : fX6_provesOpen sO sP sW sS sD = some out) (sz : Nat) : Met l yX6_provesOpen (zws yX6_provesOpen cX6_provesOpen 2 (some .boolean)) rmX6_provesOpen (zPc D T [.ref (aO 0)] [wX6 T aO (aP 0) (aW 0) sO, wX5 T aP sP, wX9 T aW (aP 0) (aS 0) (aD 0) (aQ 0) sW, wX7 T aS sS, wX1 T aD sD] sz) (zQi D out.1 [wX6 T aO (aP 0) (aW 0) out.2] (zA [wX6 T aO (aP 0) (aW 0) sO] sz)) 0 0 (zA [wX6 T aO (aP 0) (aW 0) sO] sz) :=
  zMet (D := D) (T := T) (av := [.ref (aO 0)]) (ws := fun T => [wX6 T aO (aP 0) (aW 0) sO, wX5 T aP sP, wX9 T aW (aP 0) (aS 0) (aD 0) (aQ 0) sW, wX7 T aS sS, wX1 T aD sD]) (wm := fun T => [wX6 T aO (aP 0) (aW 0) sO]) (lv0 := [(0, .ref (aO 0))]) [0] (Qc := fun D T A => zQi D out.1 [wX6 T aO (aP 0) (aW 0) out.2] A) (by decide +kernel) rfl (Nat.le_of_ble_eq_true rfl) rfl (fun C X hQ => bX6_provesOpen_0 X hQ hf) sz
/-- private boolean provesBest(); of Tableaufloor$Proof -/
abbrev rmX6_provesBest : Room := { frames := 3, cells := 0, slots := 0, locals := 71 }
def fX6_provesBest_121 (sP : zSt) (sW : zSt) (sS : zSt) (sD : zSt) (sQ : zSt) (sO : zSt) (y0 : Int32) : Option (Int32 × zSt) :=
  (if znar .boolean y0 = true then
    some (y0, sO) else none)
def fX6_provesBest_40 (sP : zSt) (sW : zSt) (sS : zSt) (sD : zSt) (sQ : zSt) : Nat → zSt → Int64 → Int32 → Option (Int32 × zSt)
  | 0, _, _, _ => none
  | n + 1, sO, x1, x3 =>
    (if (3 : Int32) ≤ x3 then
      ((fX5_aimSum sP sQ (0 : Int32)).bind (fun o108 =>
        (if ((zgl sO 3) * (zgl sQ 1)) = (x1 * o108) then
        (fX6_provesBest_121 sP sW sS sD sQ sO (1 : Int32))
      else
        (fX6_provesBest_121 sP sW sS sD sQ sO (0 : Int32)))))
    else
      (if zin x3 3 = true then
        ((fX5_aimCoefficient sP (0 : Int32) x3).bind (fun o63 =>
        (if (zgb sO 2 (x3).toNatClampNeg) = ((-x1) * ((o63).toInt64)) then
        (zlet (x3 + 1) (fun v74 =>
          (fX6_provesBest_40 sP sW sS sD sQ n sO x1 v74)))
      else
        some ((0 : Int32), sO)))) else none))
def fX6_provesBest (sO : zSt) (sP : zSt) (sW : zSt) (sS : zSt) (sD : zSt) (sQ : zSt) : Option (Int32 × zSt) :=
  ((fX6_clear sO).bind (fun o1 =>
    ((fX1_goalOfAim (0 : Int32)).bind (fun o6 =>
    ((fX6_addOutsides o1 sW sS sD o6).bind (fun o9 =>
    (if o9.1 = 0 then
    some ((0 : Int32), o9.2)
  else
    ((fX5_directionOf sP (0 : Int32)).bind (fun o32 =>
      (zlet ((zgl sD 4) * ((o32).toInt64)) (fun v37 =>
      (fX6_provesBest_40 sP sW sS sD sQ 6000 o9.2 v37 (0 : Int32)))))))))))))
theorem bX6_provesBest_121 {C : zCtx} (X : zFx C cX6_provesBest 4 RX6 rmX6_provesBest (some .boolean)) {aO : Nat → Nat} {aP : Nat → Nat} {aW : Nat → Nat} {aS : Nat → Nat} {aD : Nat → Nat} {aQ : Nat → Nat} {sP : zSt} {sW : zSt} {sS : zSt} {sD : zSt} {sQ : zSt} {sO : zSt} {y0 : Int32} {out : Int32 × zSt} (hQ : zHi C out.1 [wX6 (zcT C) aO (aP 0) (aW 0) out.2] 0 0) (h : fX6_provesBest_121 sP sW sS sD sQ sO y0 = some out) : zG C 4 [0] 0 0 [wX6 (zcT C) aO (aP 0) (aW 0) sO, wX5 (zcT C) aP sP, wX9 (zcT C) aW (aP 0) (aS 0) (aD 0) (aQ 0) sW, wX7 (zcT C) aS sS, wX1 (zcT C) aD sD, wX4 (zcT C) aQ sQ] 121 [] [.int y0] := by
  unfold fX6_provesBest_121 at h
  obtain ⟨g121, h⟩ := zgd_of h
  cases h
  exact z_nret X hQ g121 dX6_provesBest_121 rfl [0] rfl (by decide) (by decide)
theorem bX6_provesBest_40 {C : zCtx} (X : zFx C cX6_provesBest 4 RX6 rmX6_provesBest (some .boolean)) {aO : Nat → Nat} {aP : Nat → Nat} {aW : Nat → Nat} {aS : Nat → Nat} {aD : Nat → Nat} {aQ : Nat → Nat} {sP : zSt} {sW : zSt} {sS : zSt} {sD : zSt} {sQ : zSt} {out : Int32 × zSt} (hQ : zHi C out.1 [wX6 (zcT C) aO (aP 0) (aW 0) out.2] 0 0) : ∀ (n : Nat) (sO : zSt) (x1 : Int64) (x3 : Int32), fX6_provesBest_40 sP sW sS sD sQ n sO x1 x3 = some out → zG C 4 [0] 0 0 [wX6 (zcT C) aO (aP 0) (aW 0) sO, wX5 (zcT C) aP sP, wX9 (zcT C) aW (aP 0) (aS 0) (aD 0) (aQ 0) sW, wX7 (zcT C) aS sS, wX1 (zcT C) aD sD, wX4 (zcT C) aQ sQ] 40 [(0, .ref (aO 0)), (1, .long x1), (3, .int x3)] [] := by
  intro n
  induction n with
  | zero =>
    intro sO x1 x3 h
    rw [fX6_provesBest_40] at h
    exact zno h
  | succ n ih =>
    intro sO x1 x3 h
    rw [fX6_provesBest_40] at h
    refine z_iload_n X dX6_provesBest_40 2 rfl ?_
    refine z_aload_n X dX6_provesBest_41 0 rfl ?_
    refine z_get (v := .ref (aO 3)) X 0 0 7 2 ziX6 rfl (by decide) zw288 rfl dX6_provesBest_42 rfl rfl rfl ?_
    refine z_alen (v := (3 : Int32)) X 0 1 2 rfl rfl dX6_provesBest_45 rfl rfl ?_
    refine z_icmp_ge (tgt := 80) X dX6_provesBest_46 (by decide) (fun c46 => ?_) (fun c46 => ?_)
    · replace h := zif_t h c46
      refine z_aload_n X dX6_provesBest_80 0 rfl ?_
      refine z_get (v := .long (zgl sO 3)) X 0 0 7 3 ziX6 rfl (by decide) zw289 rfl dX6_provesBest_81 rfl rfl rfl ?_
      refine z_aload_n X dX6_provesBest_84 0 rfl ?_
      refine z_get (v := .ref (aW 0)) X 0 0 7 1 ziX6 rfl (by decide) zw287 rfl dX6_provesBest_85 rfl rfl rfl ?_
      refine z_getN (v := .ref (aQ 0)) X 2 0 10 3 ziX9 rfl (by decide) zw244 rfl dX6_provesBest_88 rfl rfl rfl ?_
      refine z_getN (v := .long (zgl sQ 1)) X 5 0 5 1 ziX4 rfl (by decide) zw220 rfl dX6_provesBest_91 rfl rfl rfl ?_
      refine z_lmul X dX6_provesBest_94 ?_
      refine z_lload_n X dX6_provesBest_95 1 rfl ?_
      refine z_aload_n X dX6_provesBest_96 0 rfl ?_
      refine z_get (v := .ref (aP 0)) X 0 0 7 0 ziX6 rfl (by decide) zw286 rfl dX6_provesBest_97 rfl rfl rfl ?_
      refine z_iconst (v := (0 : Int32)) X dX6_provesBest_100 rfl ?_
      refine z_aload_n X dX6_provesBest_101 0 rfl ?_
      refine z_get (v := .ref (aW 0)) X 0 0 7 1 ziX6 rfl (by decide) zw287 rfl dX6_provesBest_102 rfl rfl rfl ?_
      refine z_getN (v := .ref (aQ 0)) X 2 0 10 3 ziX9 rfl (by decide) zw244 rfl dX6_provesBest_105 rfl rfl rfl ?_
      obtain ⟨o108, ho108, h⟩ := zbind_of h
      refine z_callVl (st := [.long x1, .long ((zgl sO 3) * (zgl sQ 1))]) (ws2 := [wX6 (zcT C) aO (aP 0) (aW 0) sO, wX5 (zcT C) aP sP, wX9 (zcT C) aW (aP 0) (aS 0) (aD 0) (aQ 0) sW, wX7 (zcT C) aS sS, wX1 (zcT C) aD sD, wX4 (zcT C) aQ sQ]) X (metX5_aimSum (zcl C) (zcD C) (zcT C) aP aQ ho108) zmX5_aimSum zw739 dX6_provesBest_108 1 0 6 rfl rfl rfl rfl [1, 5] rfl rfl [] rfl (by decide) trivial rfl rfl rfl (Nat.le_of_ble_eq_true rfl) rfl rfl ⟨Nat.le_of_ble_eq_true rfl, Nat.le_of_ble_eq_true rfl⟩ ⟨Nat.le_of_ble_eq_true rfl, Nat.le_of_ble_eq_true rfl⟩ ?_
      refine z_lmul X dX6_provesBest_111 ?_
      refine z_lcmp_ne (tgt := 120) X dX6_provesBest_112 dX6_provesBest_113 (by decide) (fun c112 => ?_) (fun c112 => ?_)
      · replace h := zif_f h c112
        refine z_iconst (v := (0 : Int32)) X dX6_provesBest_120 rfl ?_
        exact z_at (pc2 := 121) (lv2 := []) (st2 := [.int (0 : Int32)]) (ws2 := [wX6 (zcT C) aO (aP 0) (aW 0) sO, wX5 (zcT C) aP sP, wX9 (zcT C) aW (aP 0) (aS 0) (aD 0) (aQ 0) sW, wX7 (zcT C) aS sS, wX1 (zcT C) aD sD, wX4 (zcT C) aQ sQ]) rfl rfl rfl [] rfl (bX6_provesBest_121 X hQ  h)
      · replace h := zif_t h c112
        refine z_iconst (v := (1 : Int32)) X dX6_provesBest_116 rfl ?_
        refine z_goto (tgt := 121) X dX6_provesBest_117 (by decide) ?_
        exact z_at (pc2 := 121) (lv2 := []) (st2 := [.int (1 : Int32)]) (ws2 := [wX6 (zcT C) aO (aP 0) (aW 0) sO, wX5 (zcT C) aP sP, wX9 (zcT C) aW (aP 0) (aS 0) (aD 0) (aQ 0) sW, wX7 (zcT C) aS sS, wX1 (zcT C) aD sD, wX4 (zcT C) aQ sQ]) rfl rfl rfl [] rfl (bX6_provesBest_121 X hQ  h)
    · replace h := zif_f h c46
      refine z_aload_n X dX6_provesBest_49 0 rfl ?_
      refine z_get (v := .ref (aO 3)) X 0 0 7 2 ziX6 rfl (by decide) zw288 rfl dX6_provesBest_50 rfl rfl rfl ?_
      refine z_iload_n X dX6_provesBest_53 2 rfl ?_
      obtain ⟨g54, h⟩ := zgd_of h
      refine z_lald X 0 1 g54 dX6_provesBest_54 rfl rfl ?_
      refine z_lload_n X dX6_provesBest_55 1 rfl ?_
      refine z_lneg X dX6_provesBest_56 ?_
      refine z_aload_n X dX6_provesBest_57 0 rfl ?_
      refine z_get (v := .ref (aP 0)) X 0 0 7 0 ziX6 rfl (by decide) zw286 rfl dX6_provesBest_58 rfl rfl rfl ?_
      refine z_iconst (v := (0 : Int32)) X dX6_provesBest_61 rfl ?_
      refine z_iload_n X dX6_provesBest_62 2 rfl ?_
      obtain ⟨o63, ho63, h⟩ := zbind_of h
      refine z_callVi (st := [.long (-x1), .long (zgb sO 2 (x3).toNatClampNeg)]) (ws2 := [wX6 (zcT C) aO (aP 0) (aW 0) sO, wX5 (zcT C) aP sP, wX9 (zcT C) aW (aP 0) (aS 0) (aD 0) (aQ 0) sW, wX7 (zcT C) aS sS, wX1 (zcT C) aD sD, wX4 (zcT C) aQ sQ]) X (metX5_aimCoefficient (zcl C) (zcD C) (zcT C) aP ho63) zmX5_aimCoefficient zw732 dX6_provesBest_63 1 0 6 rfl rfl rfl rfl [1] rfl rfl [] rfl (by decide) trivial rfl rfl rfl (Nat.le_of_ble_eq_true rfl) rfl rfl ⟨Nat.le_of_ble_eq_true rfl, Nat.le_of_ble_eq_true rfl⟩ ⟨Nat.le_of_ble_eq_true rfl, Nat.le_of_ble_eq_true rfl⟩ ?_
      refine z_i2l X dX6_provesBest_66 ?_
      refine z_lmul X dX6_provesBest_67 ?_
      refine z_lcmp_eq (tgt := 74) X dX6_provesBest_68 dX6_provesBest_69 (by decide) (fun c68 => ?_) (fun c68 => ?_)
      · replace h := zif_t h c68
        obtain ⟨v74, ev74, h⟩ := zlet_of h
        refine z_iinc (v := v74) (lv2 := [(3, .int v74), (0, .ref (aO 0)), (1, .long x1)]) X dX6_provesBest_74 (k := 2) rfl (by rw [ev74]; rfl) (by decide) rfl ?_
        refine z_goto (tgt := 40) X dX6_provesBest_77 (by decide) ?_
        exact z_at (pc2 := 40) (lv2 := [(0, .ref (aO 0)), (1, .long x1), (3, .int v74)]) (st2 := []) (ws2 := [wX6 (zcT C) aO (aP 0) (aW 0) sO, wX5 (zcT C) aP sP, wX9 (zcT C) aW (aP 0) (aS 0) (aD 0) (aQ 0) sW, wX7 (zcT C) aS sS, wX1 (zcT C) aD sD, wX4 (zcT C) aQ sQ]) rfl rfl rfl [1, 2, 0] rfl (ih sO x1 v74 h)
      · replace h := zif_f h c68
        refine z_iconst (v := (0 : Int32)) X dX6_provesBest_72 rfl ?_
        cases h
        exact z_nret X hQ rfl dX6_provesBest_73 rfl [0] rfl (by decide) (by decide)
theorem bX6_provesBest_0 {C : zCtx} (X : zFx C cX6_provesBest 4 RX6 rmX6_provesBest (some .boolean)) {aO : Nat → Nat} {aP : Nat → Nat} {aW : Nat → Nat} {aS : Nat → Nat} {aD : Nat → Nat} {aQ : Nat → Nat} {sO : zSt} {sP : zSt} {sW : zSt} {sS : zSt} {sD : zSt} {sQ : zSt} {out : Int32 × zSt} (hQ : zHi C out.1 [wX6 (zcT C) aO (aP 0) (aW 0) out.2] 0 0) (h : fX6_provesBest sO sP sW sS sD sQ = some out) : zG C 4 [0] 0 0 [wX6 (zcT C) aO (aP 0) (aW 0) sO, wX5 (zcT C) aP sP, wX9 (zcT C) aW (aP 0) (aS 0) (aD 0) (aQ 0) sW, wX7 (zcT C) aS sS, wX1 (zcT C) aD sD, wX4 (zcT C) aQ sQ] 0 [(0, .ref (aO 0))] [] := by
  unfold fX6_provesBest at h
  refine z_aload_n X dX6_provesBest_0 0 rfl ?_
  obtain ⟨o1, ho1, h⟩ := zbind_of h
  refine z_callVv (st := []) (ws2 := [wX6 (zcT C) aO (aP 0) (aW 0) o1, wX5 (zcT C) aP sP, wX9 (zcT C) aW (aP 0) (aS 0) (aD 0) (aQ 0) sW, wX7 (zcT C) aS sS, wX1 (zcT C) aD sD, wX4 (zcT C) aQ sQ]) X (metX6_clear (zcl C) (zcD C) (zcT C) aO aP aW ho1) zmX6_clear zw670 dX6_provesBest_1 0 0 7 rfl rfl rfl rfl [0] rfl rfl [0] rfl (by decide) ⟨zsX6 , trivial⟩ rfl rfl rfl (Nat.le_of_ble_eq_true rfl) rfl rfl ⟨Nat.le_of_ble_eq_true rfl, Nat.le_of_ble_eq_true rfl⟩ ⟨Nat.le_of_ble_eq_true rfl, Nat.le_of_ble_eq_true rfl⟩ ?_
  refine z_aload_n X dX6_provesBest_4 0 rfl ?_
  refine z_iconst (v := (0 : Int32)) X dX6_provesBest_5 rfl ?_
  obtain ⟨o6, ho6, h⟩ := zbind_of h
  refine z_callSi (st := [.ref (aO 0)]) (ws2 := [wX6 (zcT C) aO (aP 0) (aW 0) o1, wX5 (zcT C) aP sP, wX9 (zcT C) aW (aP 0) (aS 0) (aD 0) (aQ 0) sW, wX7 (zcT C) aS sS, wX1 (zcT C) aD sD, wX4 (zcT C) aQ sQ]) X (metX1_goalOfAim (zcl C) (zcD C) (zcT C)  ho6) zmX1_goalOfAim zw738 dX6_provesBest_6 [] rfl rfl [] rfl (by decide) trivial rfl rfl rfl (Nat.le_of_ble_eq_true rfl) rfl rfl ⟨Nat.le_of_ble_eq_true rfl, Nat.le_of_ble_eq_true rfl⟩ ⟨Nat.le_of_ble_eq_true rfl, Nat.le_of_ble_eq_true rfl⟩ ?_
  obtain ⟨o9, ho9, h⟩ := zbind_of h
  refine z_callVi (st := []) (ws2 := [wX6 (zcT C) aO (aP 0) (aW 0) o9.2, wX5 (zcT C) aP sP, wX9 (zcT C) aW (aP 0) (aS 0) (aD 0) (aQ 0) sW, wX7 (zcT C) aS sS, wX1 (zcT C) aD sD, wX4 (zcT C) aQ sQ]) X (metX6_addOutsides (zcl C) (zcD C) (zcT C) aO aP aW aS aD aQ ho9) zmX6_addOutsides zw681 dX6_provesBest_9 0 0 7 rfl rfl rfl rfl [0, 2, 3, 4] rfl rfl [0] rfl (by decide) ⟨zsX6 , trivial⟩ rfl rfl rfl (Nat.le_of_ble_eq_true rfl) rfl rfl ⟨Nat.le_of_ble_eq_true rfl, Nat.le_of_ble_eq_true rfl⟩ ⟨Nat.le_of_ble_eq_true rfl, Nat.le_of_ble_eq_true rfl⟩ ?_
  refine z_if_ne (tgt := 17) X dX6_provesBest_12 (by decide) (fun c12 => ?_) (fun c12 => ?_)
  · replace h := zif_f h c12
    refine z_aload_n X dX6_provesBest_17 0 rfl ?_
    refine z_get (v := .ref (aW 0)) X 0 0 7 1 ziX6 rfl (by decide) zw287 rfl dX6_provesBest_18 rfl rfl rfl ?_
    refine z_getN (v := .ref (aD 0)) X 2 0 10 2 ziX9 rfl (by decide) zw242 rfl dX6_provesBest_21 rfl rfl rfl ?_
    refine z_getN (v := .long (zgl sD 4)) X 4 0 2 4 ziX1 rfl (by decide) zw198 rfl dX6_provesBest_24 rfl rfl rfl ?_
    refine z_aload_n X dX6_provesBest_27 0 rfl ?_
    refine z_get (v := .ref (aP 0)) X 0 0 7 0 ziX6 rfl (by decide) zw286 rfl dX6_provesBest_28 rfl rfl rfl ?_
    refine z_iconst (v := (0 : Int32)) X dX6_provesBest_31 rfl ?_
    obtain ⟨o32, ho32, h⟩ := zbind_of h
    refine z_callVi (st := [.long (zgl sD 4)]) (ws2 := [wX6 (zcT C) aO (aP 0) (aW 0) o9.2, wX5 (zcT C) aP sP, wX9 (zcT C) aW (aP 0) (aS 0) (aD 0) (aQ 0) sW, wX7 (zcT C) aS sS, wX1 (zcT C) aD sD, wX4 (zcT C) aQ sQ]) X (metX5_directionOf (zcl C) (zcD C) (zcT C) aP ho32) zmX5_directionOf zw733 dX6_provesBest_32 1 0 6 rfl rfl rfl rfl [1] rfl rfl [] rfl (by decide) trivial rfl rfl rfl (Nat.le_of_ble_eq_true rfl) rfl rfl ⟨Nat.le_of_ble_eq_true rfl, Nat.le_of_ble_eq_true rfl⟩ ⟨Nat.le_of_ble_eq_true rfl, Nat.le_of_ble_eq_true rfl⟩ ?_
    refine z_i2l X dX6_provesBest_35 ?_
    refine z_lmul X dX6_provesBest_36 ?_
    obtain ⟨v37, ev37, h⟩ := zlet_of h
    refine z_topl ev37 ?_
    refine z_lstore_n (lv2 := [(1, .long v37), (0, .ref (aO 0))]) X dX6_provesBest_37 rfl (by decide) rfl ?_
    refine z_iconst (v := (0 : Int32)) X dX6_provesBest_38 rfl ?_
    refine z_istore_n (lv2 := [(3, .int (0 : Int32)), (1, .long v37), (0, .ref (aO 0))]) X dX6_provesBest_39 rfl (by decide) rfl ?_
    exact z_at (pc2 := 40) (lv2 := [(0, .ref (aO 0)), (1, .long v37), (3, .int (0 : Int32))]) (st2 := []) (ws2 := [wX6 (zcT C) aO (aP 0) (aW 0) o9.2, wX5 (zcT C) aP sP, wX9 (zcT C) aW (aP 0) (aS 0) (aD 0) (aQ 0) sW, wX7 (zcT C) aS sS, wX1 (zcT C) aD sD, wX4 (zcT C) aQ sQ]) rfl rfl rfl [2, 1, 0] rfl (bX6_provesBest_40 X hQ  6000 o9.2 v37 (0 : Int32) h)
  · replace h := zif_t h c12
    refine z_iconst (v := (0 : Int32)) X dX6_provesBest_15 rfl ?_
    cases h
    exact z_nret X hQ rfl dX6_provesBest_16 rfl [0] rfl (by decide) (by decide)
theorem metX6_provesBest (l : Launch) (D : va_G) (T : Nat → ClassId) (aO : Nat → Nat) (aP : Nat → Nat) (aW : Nat → Nat) (aS : Nat → Nat) (aD : Nat → Nat) (aQ : Nat → Nat) {sO : zSt} {sP : zSt} {sW : zSt} {sS : zSt} {sD : zSt} {sQ : zSt} {out : Int32 × zSt} (hf : fX6_provesBest sO sP sW sS sD sQ = some out) (sz : Nat) : Met l yX6_provesBest (zws yX6_provesBest cX6_provesBest 4 (some .boolean)) rmX6_provesBest (zPc D T [.ref (aO 0)] [wX6 T aO (aP 0) (aW 0) sO, wX5 T aP sP, wX9 T aW (aP 0) (aS 0) (aD 0) (aQ 0) sW, wX7 T aS sS, wX1 T aD sD, wX4 T aQ sQ] sz) (zQi D out.1 [wX6 T aO (aP 0) (aW 0) out.2] (zA [wX6 T aO (aP 0) (aW 0) sO] sz)) 0 0 (zA [wX6 T aO (aP 0) (aW 0) sO] sz) :=
  zMet (D := D) (T := T) (av := [.ref (aO 0)]) (ws := fun T => [wX6 T aO (aP 0) (aW 0) sO, wX5 T aP sP, wX9 T aW (aP 0) (aS 0) (aD 0) (aQ 0) sW, wX7 T aS sS, wX1 T aD sD, wX4 T aQ sQ]) (wm := fun T => [wX6 T aO (aP 0) (aW 0) sO]) (lv0 := [(0, .ref (aO 0))]) [0] (Qc := fun D T A => zQi D out.1 [wX6 T aO (aP 0) (aW 0) out.2] A) (by decide +kernel) rfl (Nat.le_of_ble_eq_true rfl) rfl (fun C X hQ => bX6_provesBest_0 X hQ hf) sz
/-- boolean isSound(); of Tableaufloor$Proof -/
abbrev rmX6_isSound : Room := { frames := 4, cells := 0, slots := 0, locals := 94 }
def fX6_isSound_61 (sP : zSt) (sW : zSt) (sS : zSt) (sD : zSt) (sQ : zSt) (sO : zSt) (y0 : Int32) : Option (Int32 × zSt) :=
  (if znar .boolean y0 = true then
    some (y0, sO) else none)
def fX6_isSound (sO : zSt) (sP : zSt) (sW : zSt) (sS : zSt) (sD : zSt) (sQ : zSt) : Option (Int32 × zSt) :=
  (if (zgi sW 5) = (105 : Int32) then
    ((fX6_provesNone sO sW sS sD).bind (fun o13 =>
      (if znar .boolean o13.1 = true then
      some (o13.1, o13.2) else none)))
  else
    ((fX5_breakerOf sP sQ).bind (fun o28 =>
      (if o28 = (100 : Int32) then
      (if (zgi sW 5) = (117 : Int32) then
        ((fX6_provesOpen sO sP sW sS sD).bind (fun o51 =>
          (fX6_isSound_61 sP sW sS sD sQ o51.2 o51.1)))
      else
        ((fX6_provesBest sO sP sW sS sD sQ).bind (fun o58 =>
          (fX6_isSound_61 sP sW sS sD sQ o58.2 o58.1))))
    else
      some ((0 : Int32), sO)))))
theorem bX6_isSound_61 {C : zCtx} (X : zFx C cX6_isSound 1 RX6 rmX6_isSound (some .boolean)) {aO : Nat → Nat} {aP : Nat → Nat} {aW : Nat → Nat} {aS : Nat → Nat} {aD : Nat → Nat} {aQ : Nat → Nat} {sP : zSt} {sW : zSt} {sS : zSt} {sD : zSt} {sQ : zSt} {sO : zSt} {y0 : Int32} {out : Int32 × zSt} (hQ : zHi C out.1 [wX6 (zcT C) aO (aP 0) (aW 0) out.2] 0 0) (h : fX6_isSound_61 sP sW sS sD sQ sO y0 = some out) : zG C 1 [0] 0 0 [wX6 (zcT C) aO (aP 0) (aW 0) sO, wX5 (zcT C) aP sP, wX9 (zcT C) aW (aP 0) (aS 0) (aD 0) (aQ 0) sW, wX7 (zcT C) aS sS, wX1 (zcT C) aD sD, wX4 (zcT C) aQ sQ] 61 [] [.int y0] := by
  unfold fX6_isSound_61 at h
  obtain ⟨g61, h⟩ := zgd_of h
  cases h
  exact z_nret X hQ g61 dX6_isSound_61 rfl [0] rfl (by decide) (by decide)
theorem bX6_isSound_0 {C : zCtx} (X : zFx C cX6_isSound 1 RX6 rmX6_isSound (some .boolean)) {aO : Nat → Nat} {aP : Nat → Nat} {aW : Nat → Nat} {aS : Nat → Nat} {aD : Nat → Nat} {aQ : Nat → Nat} {sO : zSt} {sP : zSt} {sW : zSt} {sS : zSt} {sD : zSt} {sQ : zSt} {out : Int32 × zSt} (hQ : zHi C out.1 [wX6 (zcT C) aO (aP 0) (aW 0) out.2] 0 0) (h : fX6_isSound sO sP sW sS sD sQ = some out) : zG C 1 [0] 0 0 [wX6 (zcT C) aO (aP 0) (aW 0) sO, wX5 (zcT C) aP sP, wX9 (zcT C) aW (aP 0) (aS 0) (aD 0) (aQ 0) sW, wX7 (zcT C) aS sS, wX1 (zcT C) aD sD, wX4 (zcT C) aQ sQ] 0 [(0, .ref (aO 0))] [] := by
  unfold fX6_isSound at h
  refine z_aload_n X dX6_isSound_0 0 rfl ?_
  refine z_get (v := .ref (aW 0)) X 0 0 7 1 ziX6 rfl (by decide) zw287 rfl dX6_isSound_1 rfl rfl rfl ?_
  refine z_getN (v := .int (zgi sW 5)) X 2 0 10 5 ziX9 rfl (by decide) zw248 rfl dX6_isSound_4 rfl rfl rfl ?_
  refine z_bipush (v := (105 : Int32)) X dX6_isSound_7 rfl ?_
  refine z_icmp_ne (tgt := 17) X dX6_isSound_9 (by decide) (fun c9 => ?_) (fun c9 => ?_)
  · replace h := zif_f h c9
    refine z_aload_n X dX6_isSound_17 0 rfl ?_
    refine z_get (v := .ref (aP 0)) X 0 0 7 0 ziX6 rfl (by decide) zw286 rfl dX6_isSound_18 rfl rfl rfl ?_
    refine z_aload_n X dX6_isSound_21 0 rfl ?_
    refine z_get (v := .ref (aW 0)) X 0 0 7 1 ziX6 rfl (by decide) zw287 rfl dX6_isSound_22 rfl rfl rfl ?_
    refine z_getN (v := .ref (aQ 0)) X 2 0 10 3 ziX9 rfl (by decide) zw244 rfl dX6_isSound_25 rfl rfl rfl ?_
    obtain ⟨o28, ho28, h⟩ := zbind_of h
    refine z_callVi (st := []) (ws2 := [wX6 (zcT C) aO (aP 0) (aW 0) sO, wX5 (zcT C) aP sP, wX9 (zcT C) aW (aP 0) (aS 0) (aD 0) (aQ 0) sW, wX7 (zcT C) aS sS, wX1 (zcT C) aD sD, wX4 (zcT C) aQ sQ]) X (metX5_breakerOf (zcl C) (zcD C) (zcT C) aP aQ ho28) zmX5_breakerOf zw687 dX6_isSound_28 1 0 6 rfl rfl rfl rfl [1, 5] rfl rfl [] rfl (by decide) trivial rfl rfl rfl (Nat.le_of_ble_eq_true rfl) rfl rfl ⟨Nat.le_of_ble_eq_true rfl, Nat.le_of_ble_eq_true rfl⟩ ⟨Nat.le_of_ble_eq_true rfl, Nat.le_of_ble_eq_true rfl⟩ ?_
    refine z_bipush (v := (100 : Int32)) X dX6_isSound_31 rfl ?_
    refine z_icmp_eq (tgt := 38) X dX6_isSound_33 (by decide) (fun c33 => ?_) (fun c33 => ?_)
    · replace h := zif_t h c33
      refine z_aload_n X dX6_isSound_38 0 rfl ?_
      refine z_get (v := .ref (aW 0)) X 0 0 7 1 ziX6 rfl (by decide) zw287 rfl dX6_isSound_39 rfl rfl rfl ?_
      refine z_getN (v := .int (zgi sW 5)) X 2 0 10 5 ziX9 rfl (by decide) zw248 rfl dX6_isSound_42 rfl rfl rfl ?_
      refine z_bipush (v := (117 : Int32)) X dX6_isSound_45 rfl ?_
      refine z_icmp_ne (tgt := 57) X dX6_isSound_47 (by decide) (fun c47 => ?_) (fun c47 => ?_)
      · replace h := zif_f h c47
        refine z_aload_n X dX6_isSound_57 0 rfl ?_
        obtain ⟨o58, ho58, h⟩ := zbind_of h
        refine z_callVi (st := []) (ws2 := [wX6 (zcT C) aO (aP 0) (aW 0) o58.2, wX5 (zcT C) aP sP, wX9 (zcT C) aW (aP 0) (aS 0) (aD 0) (aQ 0) sW, wX7 (zcT C) aS sS, wX1 (zcT C) aD sD, wX4 (zcT C) aQ sQ]) X (metX6_provesBest (zcl C) (zcD C) (zcT C) aO aP aW aS aD aQ ho58) zmX6_provesBest zw734 dX6_isSound_58 0 0 7 rfl rfl rfl rfl [0, 1, 2, 3, 4, 5] rfl rfl [0] rfl (by decide) ⟨zsX6 , trivial⟩ rfl rfl rfl (Nat.le_of_ble_eq_true rfl) rfl rfl ⟨Nat.le_of_ble_eq_true rfl, Nat.le_of_ble_eq_true rfl⟩ ⟨Nat.le_of_ble_eq_true rfl, Nat.le_of_ble_eq_true rfl⟩ ?_
        exact z_at (pc2 := 61) (lv2 := []) (st2 := [.int o58.1]) (ws2 := [wX6 (zcT C) aO (aP 0) (aW 0) o58.2, wX5 (zcT C) aP sP, wX9 (zcT C) aW (aP 0) (aS 0) (aD 0) (aQ 0) sW, wX7 (zcT C) aS sS, wX1 (zcT C) aD sD, wX4 (zcT C) aQ sQ]) rfl rfl rfl [] rfl (bX6_isSound_61 X hQ  h)
      · replace h := zif_t h c47
        refine z_aload_n X dX6_isSound_50 0 rfl ?_
        obtain ⟨o51, ho51, h⟩ := zbind_of h
        refine z_callVi (st := []) (ws2 := [wX6 (zcT C) aO (aP 0) (aW 0) o51.2, wX5 (zcT C) aP sP, wX9 (zcT C) aW (aP 0) (aS 0) (aD 0) (aQ 0) sW, wX7 (zcT C) aS sS, wX1 (zcT C) aD sD, wX4 (zcT C) aQ sQ]) X (metX6_provesOpen (zcl C) (zcD C) (zcT C) aO aP aW aS aD aQ ho51) zmX6_provesOpen zw715 dX6_isSound_51 0 0 7 rfl rfl rfl rfl [0, 1, 2, 3, 4] rfl rfl [0] rfl (by decide) ⟨zsX6 , trivial⟩ rfl rfl rfl (Nat.le_of_ble_eq_true rfl) rfl rfl ⟨Nat.le_of_ble_eq_true rfl, Nat.le_of_ble_eq_true rfl⟩ ⟨Nat.le_of_ble_eq_true rfl, Nat.le_of_ble_eq_true rfl⟩ ?_
        refine z_goto (tgt := 61) X dX6_isSound_54 (by decide) ?_
        exact z_at (pc2 := 61) (lv2 := []) (st2 := [.int o51.1]) (ws2 := [wX6 (zcT C) aO (aP 0) (aW 0) o51.2, wX5 (zcT C) aP sP, wX9 (zcT C) aW (aP 0) (aS 0) (aD 0) (aQ 0) sW, wX7 (zcT C) aS sS, wX1 (zcT C) aD sD, wX4 (zcT C) aQ sQ]) rfl rfl rfl [] rfl (bX6_isSound_61 X hQ  h)
    · replace h := zif_f h c33
      refine z_iconst (v := (0 : Int32)) X dX6_isSound_36 rfl ?_
      cases h
      exact z_nret X hQ rfl dX6_isSound_37 rfl [0] rfl (by decide) (by decide)
  · replace h := zif_t h c9
    refine z_aload_n X dX6_isSound_12 0 rfl ?_
    obtain ⟨o13, ho13, h⟩ := zbind_of h
    refine z_callVi (st := []) (ws2 := [wX6 (zcT C) aO (aP 0) (aW 0) o13.2, wX5 (zcT C) aP sP, wX9 (zcT C) aW (aP 0) (aS 0) (aD 0) (aQ 0) sW, wX7 (zcT C) aS sS, wX1 (zcT C) aD sD, wX4 (zcT C) aQ sQ]) X (metX6_provesNone (zcl C) (zcD C) (zcT C) aO aP aW aS aD aQ ho13) zmX6_provesNone zw666 dX6_isSound_13 0 0 7 rfl rfl rfl rfl [0, 2, 3, 4] rfl rfl [0] rfl (by decide) ⟨zsX6 , trivial⟩ rfl rfl rfl (Nat.le_of_ble_eq_true rfl) rfl rfl ⟨Nat.le_of_ble_eq_true rfl, Nat.le_of_ble_eq_true rfl⟩ ⟨Nat.le_of_ble_eq_true rfl, Nat.le_of_ble_eq_true rfl⟩ ?_
    obtain ⟨g16, h⟩ := zgd_of h
    cases h
    exact z_nret X hQ g16 dX6_isSound_16 rfl [0] rfl (by decide) (by decide)
theorem metX6_isSound (l : Launch) (D : va_G) (T : Nat → ClassId) (aO : Nat → Nat) (aP : Nat → Nat) (aW : Nat → Nat) (aS : Nat → Nat) (aD : Nat → Nat) (aQ : Nat → Nat) {sO : zSt} {sP : zSt} {sW : zSt} {sS : zSt} {sD : zSt} {sQ : zSt} {out : Int32 × zSt} (hf : fX6_isSound sO sP sW sS sD sQ = some out) (sz : Nat) : Met l yX6_isSound (zws yX6_isSound cX6_isSound 1 (some .boolean)) rmX6_isSound (zPc D T [.ref (aO 0)] [wX6 T aO (aP 0) (aW 0) sO, wX5 T aP sP, wX9 T aW (aP 0) (aS 0) (aD 0) (aQ 0) sW, wX7 T aS sS, wX1 T aD sD, wX4 T aQ sQ] sz) (zQi D out.1 [wX6 T aO (aP 0) (aW 0) out.2] (zA [wX6 T aO (aP 0) (aW 0) sO] sz)) 0 0 (zA [wX6 T aO (aP 0) (aW 0) sO] sz) :=
  zMet (D := D) (T := T) (av := [.ref (aO 0)]) (ws := fun T => [wX6 T aO (aP 0) (aW 0) sO, wX5 T aP sP, wX9 T aW (aP 0) (aS 0) (aD 0) (aQ 0) sW, wX7 T aS sS, wX1 T aD sD, wX4 T aQ sQ]) (wm := fun T => [wX6 T aO (aP 0) (aW 0) sO]) (lv0 := [(0, .ref (aO 0))]) [0] (Qc := fun D T A => zQi D out.1 [wX6 T aO (aP 0) (aW 0) out.2] A) (by decide +kernel) rfl (Nat.le_of_ble_eq_true rfl) rfl (fun C X hQ => bX6_isSound_0 X hQ hf) sz
