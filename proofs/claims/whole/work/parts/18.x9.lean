/-- private void setOut(int, int); of Tableaufloor$Walk -/
abbrev rmX9_setOut : Room := { frames := 3, cells := 0, slots := 0, locals := 77 }
def fX9_setOut_30 (sP : zSt) : Nat → zSt → zSt → zSt → Int32 → Option (zSt × zSt × zSt)
  | 0, _, _, _, _ => none
  | n + 1, sO, sS, sD, x3 =>
    (if (3 : Int32) ≤ x3 then
      (zlet (zsi sO 6 (-1 : Int32)) (fun sO54 =>
        (zlet (zsi sO54 7 (-1 : Int32)) (fun sO59 =>
        some (sO59, sS, sD)))))
    else
      (if zin x3 3 = true then
        (zlet (zsa sO 4 (upd (zga sO 4) (x3).toNatClampNeg (vp_nar .boolean (0 : Int32)))) (fun sO45 =>
        (zlet (x3 + 1) (fun v46 =>
        (fX9_setOut_30 sP n sO45 sS sD v46))))) else none))
def fX9_setOut (sO : zSt) (sP : zSt) (sS : zSt) (sD : zSt) (x1 : Int32) (x2 : Int32) : Option (zSt × zSt × zSt) :=
  ((fX7_gather sS sP x1 x2).bind (fun o10 =>
    ((fX1_begin sD sP o10).bind (fun o25 =>
    (fX9_setOut_30 sP 6000 sO o10 o25 (0 : Int32))))))
theorem bX9_setOut_30 {C : zCtx} (X : zFx C cX9_setOut 4 RX9 rmX9_setOut none) {aO : Nat → Nat} {aP : Nat → Nat} {aS : Nat → Nat} {aD : Nat → Nat} {aQ : Nat → Nat} {sP : zSt} {out : zSt × zSt × zSt} (hQ : zHv C [wX9 (zcT C) aO (aP 0) (aS 0) (aD 0) (aQ 0) out.1, wX7 (zcT C) aS out.2.1, wX1 (zcT C) aD out.2.2] 0 0) : ∀ (n : Nat) (sO : zSt) (sS : zSt) (sD : zSt) (x3 : Int32), fX9_setOut_30 sP n sO sS sD x3 = some out → zG C 4 [0, 2, 3] 0 0 [wX9 (zcT C) aO (aP 0) (aS 0) (aD 0) (aQ 0) sO, wX5 (zcT C) aP sP, wX7 (zcT C) aS sS, wX1 (zcT C) aD sD] 30 [(0, .ref (aO 0)), (3, .int x3)] [] := by
  intro n
  induction n with
  | zero =>
    intro sO sS sD x3 h
    rw [fX9_setOut_30] at h
    exact zno h
  | succ n ih =>
    intro sO sS sD x3 h
    rw [fX9_setOut_30] at h
    refine z_iload_n X dX9_setOut_30 1 rfl ?_
    refine z_aload_n X dX9_setOut_31 0 rfl ?_
    refine z_get (v := .ref (aO 5)) X 0 0 10 4 ziX9 rfl (by decide) zw246 rfl dX9_setOut_32 rfl rfl rfl ?_
    refine z_alen (v := (3 : Int32)) X 0 1 3 rfl rfl dX9_setOut_35 rfl rfl ?_
    refine z_icmp_ge (tgt := 52) X dX9_setOut_36 (by decide) (fun c36 => ?_) (fun c36 => ?_)
    · replace h := zif_t h c36
      refine z_aload_n X dX9_setOut_52 0 rfl ?_
      refine z_iconst (v := (-1 : Int32)) X dX9_setOut_53 rfl ?_
      obtain ⟨sO54, esO54, h⟩ := zlet_of h
      refine z_put (ws2 := [wX9 (zcT C) aO (aP 0) (aS 0) (aD 0) (aQ 0) sO54, wX5 (zcT C) aP sP, wX7 (zcT C) aS sS, wX1 (zcT C) aD sD]) X 0 0 10 6 ziX9 rfl tyX9 tyX9_ok nmX9 (by decide) zw250 rfl rfl (ty := .int) (by decide +kernel) rfl rfl (by show 6 < 10; decide) dX9_setOut_54 rfl rfl (by decide) (w2 := wX9 (zcT C) aO (aP 0) (aS 0) (aD 0) (aQ 0) sO54) (by rw [esO54]; rfl) rfl ?_
      refine z_aload_n X dX9_setOut_57 0 rfl ?_
      refine z_iconst (v := (-1 : Int32)) X dX9_setOut_58 rfl ?_
      obtain ⟨sO59, esO59, h⟩ := zlet_of h
      refine z_put (ws2 := [wX9 (zcT C) aO (aP 0) (aS 0) (aD 0) (aQ 0) sO59, wX5 (zcT C) aP sP, wX7 (zcT C) aS sS, wX1 (zcT C) aD sD]) X 0 0 10 7 ziX9 rfl tyX9 tyX9_ok nmX9 (by decide) zw253 rfl rfl (ty := .int) (by decide +kernel) rfl rfl (by show 7 < 10; decide) dX9_setOut_59 rfl rfl (by decide) (w2 := wX9 (zcT C) aO (aP 0) (aS 0) (aD 0) (aQ 0) sO59) (by rw [esO59]; rfl) rfl ?_
      cases h
      exact z_vret X hQ dX9_setOut_62 [0, 2, 3] rfl (by decide) (by decide)
    · replace h := zif_f h c36
      refine z_aload_n X dX9_setOut_39 0 rfl ?_
      refine z_get (v := .ref (aO 5)) X 0 0 10 4 ziX9 rfl (by decide) zw246 rfl dX9_setOut_40 rfl rfl rfl ?_
      refine z_iload_n X dX9_setOut_43 1 rfl ?_
      refine z_iconst (v := (0 : Int32)) X dX9_setOut_44 rfl ?_
      obtain ⟨g45, h⟩ := zgd_of h
      obtain ⟨sO45, esO45, h⟩ := zlet_of h
      refine z_zast (ws2 := [wX9 (zcT C) aO (aP 0) (aS 0) (aD 0) (aQ 0) sO45, wX5 (zcT C) aP sP, wX7 (zcT C) aS sS, wX1 (zcT C) aD sD]) X 0 1 g45 dX9_setOut_45 rfl rfl (by decide) (w2 := wX9 (zcT C) aO (aP 0) (aS 0) (aD 0) (aQ 0) sO45) (by rw [esO45]; rfl) rfl ?_
      obtain ⟨v46, ev46, h⟩ := zlet_of h
      refine z_iinc (v := v46) (lv2 := [(3, .int v46), (0, .ref (aO 0))]) X dX9_setOut_46 (k := 1) rfl (by rw [ev46]; rfl) (by decide) rfl ?_
      refine z_goto (tgt := 30) X dX9_setOut_49 (by decide) ?_
      exact z_at (pc2 := 30) (lv2 := [(0, .ref (aO 0)), (3, .int v46)]) (st2 := []) (ws2 := [wX9 (zcT C) aO (aP 0) (aS 0) (aD 0) (aQ 0) sO45, wX5 (zcT C) aP sP, wX7 (zcT C) aS sS, wX1 (zcT C) aD sD]) rfl rfl rfl [1, 0] rfl (ih sO45 sS sD v46 h)
theorem bX9_setOut_0 {C : zCtx} (X : zFx C cX9_setOut 4 RX9 rmX9_setOut none) {aO : Nat → Nat} {aP : Nat → Nat} {aS : Nat → Nat} {aD : Nat → Nat} {aQ : Nat → Nat} {sO : zSt} {sP : zSt} {sS : zSt} {sD : zSt} {x1 : Int32} {x2 : Int32} {out : zSt × zSt × zSt} (hQ : zHv C [wX9 (zcT C) aO (aP 0) (aS 0) (aD 0) (aQ 0) out.1, wX7 (zcT C) aS out.2.1, wX1 (zcT C) aD out.2.2] 0 0) (h : fX9_setOut sO sP sS sD x1 x2 = some out) : zG C 4 [0, 2, 3] 0 0 [wX9 (zcT C) aO (aP 0) (aS 0) (aD 0) (aQ 0) sO, wX5 (zcT C) aP sP, wX7 (zcT C) aS sS, wX1 (zcT C) aD sD] 0 [(0, .ref (aO 0)), (1, .int x1), (2, .int x2)] [] := by
  unfold fX9_setOut at h
  refine z_aload_n X dX9_setOut_0 0 rfl ?_
  refine z_get (v := .ref (aS 0)) X 0 0 10 1 ziX9 rfl (by decide) zw238 rfl dX9_setOut_1 rfl rfl rfl ?_
  refine z_aload_n X dX9_setOut_4 0 rfl ?_
  refine z_get (v := .ref (aP 0)) X 0 0 10 0 ziX9 rfl (by decide) zw237 rfl dX9_setOut_5 rfl rfl rfl ?_
  refine z_iload_n X dX9_setOut_8 1 rfl ?_
  refine z_iload_n X dX9_setOut_9 2 rfl ?_
  obtain ⟨o10, ho10, h⟩ := zbind_of h
  refine z_callVv (st := []) (ws2 := [wX9 (zcT C) aO (aP 0) (aS 0) (aD 0) (aQ 0) sO, wX5 (zcT C) aP sP, wX7 (zcT C) aS o10, wX1 (zcT C) aD sD]) X (metX7_gather (zcl C) (zcD C) (zcT C) aS aP ho10) zmX7_gather zw496 dX9_setOut_10 2 0 8 rfl rfl rfl rfl [2, 1] rfl rfl [2] rfl (by decide) ⟨zsX7 , trivial⟩ rfl rfl rfl (Nat.le_of_ble_eq_true rfl) rfl rfl ⟨Nat.le_of_ble_eq_true rfl, Nat.le_of_ble_eq_true rfl⟩ ⟨Nat.le_of_ble_eq_true rfl, Nat.le_of_ble_eq_true rfl⟩ ?_
  refine z_aload_n X dX9_setOut_13 0 rfl ?_
  refine z_get (v := .ref (aD 0)) X 0 0 10 2 ziX9 rfl (by decide) zw241 rfl dX9_setOut_14 rfl rfl rfl ?_
  refine z_aload_n X dX9_setOut_17 0 rfl ?_
  refine z_get (v := .ref (aP 0)) X 0 0 10 0 ziX9 rfl (by decide) zw237 rfl dX9_setOut_18 rfl rfl rfl ?_
  refine z_aload_n X dX9_setOut_21 0 rfl ?_
  refine z_get (v := .ref (aS 0)) X 0 0 10 1 ziX9 rfl (by decide) zw238 rfl dX9_setOut_22 rfl rfl rfl ?_
  obtain ⟨o25, ho25, h⟩ := zbind_of h
  refine z_callVv (st := []) (ws2 := [wX9 (zcT C) aO (aP 0) (aS 0) (aD 0) (aQ 0) sO, wX5 (zcT C) aP sP, wX7 (zcT C) aS o10, wX1 (zcT C) aD o25]) X (metX1_begin (zcl C) (zcD C) (zcT C) aD aP aS ho25) zmX1_begin zw545 dX9_setOut_25 3 0 2 rfl rfl rfl rfl [3, 1, 2] rfl rfl [3] rfl (by decide) ⟨zsX1 , trivial⟩ rfl rfl rfl (Nat.le_of_ble_eq_true rfl) rfl rfl ⟨Nat.le_of_ble_eq_true rfl, Nat.le_of_ble_eq_true rfl⟩ ⟨Nat.le_of_ble_eq_true rfl, Nat.le_of_ble_eq_true rfl⟩ ?_
  refine z_iconst (v := (0 : Int32)) X dX9_setOut_28 rfl ?_
  refine z_istore_n (lv2 := [(3, .int (0 : Int32)), (0, .ref (aO 0)), (1, .int x1), (2, .int x2)]) X dX9_setOut_29 rfl (by decide) rfl ?_
  exact z_at (pc2 := 30) (lv2 := [(0, .ref (aO 0)), (3, .int (0 : Int32))]) (st2 := []) (ws2 := [wX9 (zcT C) aO (aP 0) (aS 0) (aD 0) (aQ 0) sO, wX5 (zcT C) aP sP, wX7 (zcT C) aS o10, wX1 (zcT C) aD o25]) rfl rfl rfl [1, 0] rfl (bX9_setOut_30 X hQ  6000 sO o10 o25 (0 : Int32) h)
theorem metX9_setOut (l : Launch) (D : va_G) (T : Nat → ClassId) (aO : Nat → Nat) (aP : Nat → Nat) (aS : Nat → Nat) (aD : Nat → Nat) (aQ : Nat → Nat) {sO : zSt} {sP : zSt} {sS : zSt} {sD : zSt} {x1 : Int32} {x2 : Int32} {out : zSt × zSt × zSt} (hf : fX9_setOut sO sP sS sD x1 x2 = some out) (sz : Nat) : Met l yX9_setOut (zws yX9_setOut cX9_setOut 4 none) rmX9_setOut (zPc D T [.ref (aO 0), .int x1, .int x2] [wX9 T aO (aP 0) (aS 0) (aD 0) (aQ 0) sO, wX5 T aP sP, wX7 T aS sS, wX1 T aD sD] sz) (zQv D [wX9 T aO (aP 0) (aS 0) (aD 0) (aQ 0) out.1, wX7 T aS out.2.1, wX1 T aD out.2.2] (zA [wX9 T aO (aP 0) (aS 0) (aD 0) (aQ 0) sO, wX7 T aS sS, wX1 T aD sD] sz)) 0 0 (zA [wX9 T aO (aP 0) (aS 0) (aD 0) (aQ 0) sO, wX7 T aS sS, wX1 T aD sD] sz) :=
  zMet (D := D) (T := T) (av := [.ref (aO 0), .int x1, .int x2]) (ws := fun T => [wX9 T aO (aP 0) (aS 0) (aD 0) (aQ 0) sO, wX5 T aP sP, wX7 T aS sS, wX1 T aD sD]) (wm := fun T => [wX9 T aO (aP 0) (aS 0) (aD 0) (aQ 0) sO, wX7 T aS sS, wX1 T aD sD]) (lv0 := [(0, .ref (aO 0)), (1, .int x1), (2, .int x2)]) [0, 2, 3] (Qc := fun D T A => zQv D [wX9 T aO (aP 0) (aS 0) (aD 0) (aQ 0) out.1, wX7 T aS out.2.1, wX1 T aD out.2.2] A) (by decide +kernel) rfl (Nat.le_of_ble_eq_true rfl) rfl (fun C X hQ => bX9_setOut_0 X hQ hf) sz
/-- private int firstBrokenLine(); of Tableaufloor$Walk -/
abbrev rmX9_firstBrokenLine : Room := { frames := 1, cells := 0, slots := 0, locals := 23 }
def fX9_firstBrokenLine_55 (sO : zSt) (sD : zSt) (k4 : Int32 → Int32 → Option (Int32)) (x1 : Int32) (x2 : Int32) : Option (Int32) :=
  (zlet (x2 + 1) (fun v55 =>
    (k4 x1 v55)))
def fX9_firstBrokenLine_53 (sO : zSt) (sD : zSt) (k4 : Int32 → Int32 → Option (Int32)) (x2 : Int32) : Option (Int32) :=
  (fX9_firstBrokenLine_55 sO sD k4 x2 x2)
def fX9_firstBrokenLine_4 (sO : zSt) (sD : zSt) : Nat → Int32 → Int32 → Option (Int32)
  | 0, _, _ => none
  | n + 1, x1, x2 =>
    (if (zgi sD 3) ≤ x2 then
      some (x1)
    else
      ((fX1_cell sD x2 (3 : Int32)).bind (fun o21 =>
        (if (0 : Int64) ≤ o21 then
        (fX9_firstBrokenLine_55 sO sD (fX9_firstBrokenLine_4 sO sD n) x1 x2)
      else
        (if x1 = (-1 : Int32) then
          (fX9_firstBrokenLine_53 sO sD (fX9_firstBrokenLine_4 sO sD n) x2)
        else
          ((fX1_insideOf sD x2).bind (fun o39 =>
            ((fX1_insideOf sD x1).bind (fun o47 =>
            (if o47 ≤ o39 then
            (fX9_firstBrokenLine_55 sO sD (fX9_firstBrokenLine_4 sO sD n) x1 x2)
          else
            (fX9_firstBrokenLine_53 sO sD (fX9_firstBrokenLine_4 sO sD n) x2)))))))))))
def fX9_firstBrokenLine (sO : zSt) (sD : zSt) : Option (Int32) :=
  (fX9_firstBrokenLine_4 sO sD 6000 (-1 : Int32) (0 : Int32))
theorem bX9_firstBrokenLine_55 {C : zCtx} (X : zFx C cX9_firstBrokenLine 3 RX9 rmX9_firstBrokenLine (some .int)) {aO : Nat → Nat} {aP : Nat → Nat} {aS : Nat → Nat} {aD : Nat → Nat} {aQ : Nat → Nat} {sO : zSt} {sD : zSt} {k4 : Int32 → Int32 → Option (Int32)} {x1 : Int32} {x2 : Int32} {out : Int32} (hQ : zHi C out [] 0 0) (hk4 : ∀ (x1 : Int32) (x2 : Int32), k4 x1 x2 = some out → zG C 3 [] 0 0 [wX9 (zcT C) aO (aP 0) (aS 0) (aD 0) (aQ 0) sO, wX1 (zcT C) aD sD] 4 [(0, .ref (aO 0)), (1, .int x1), (2, .int x2)] []) (h : fX9_firstBrokenLine_55 sO sD k4 x1 x2 = some out) : zG C 3 [] 0 0 [wX9 (zcT C) aO (aP 0) (aS 0) (aD 0) (aQ 0) sO, wX1 (zcT C) aD sD] 55 [(0, .ref (aO 0)), (1, .int x1), (2, .int x2)] [] := by
  unfold fX9_firstBrokenLine_55 at h
  obtain ⟨v55, ev55, h⟩ := zlet_of h
  refine z_iinc (v := v55) (lv2 := [(2, .int v55), (0, .ref (aO 0)), (1, .int x1)]) X dX9_firstBrokenLine_55 (k := 2) rfl (by rw [ev55]; rfl) (by decide) rfl ?_
  refine z_goto (tgt := 4) X dX9_firstBrokenLine_58 (by decide) ?_
  exact z_at (pc2 := 4) (lv2 := [(0, .ref (aO 0)), (1, .int x1), (2, .int v55)]) (st2 := []) (ws2 := [wX9 (zcT C) aO (aP 0) (aS 0) (aD 0) (aQ 0) sO, wX1 (zcT C) aD sD]) rfl rfl rfl [1, 2, 0] rfl (hk4 x1 v55 h)
theorem bX9_firstBrokenLine_53 {C : zCtx} (X : zFx C cX9_firstBrokenLine 3 RX9 rmX9_firstBrokenLine (some .int)) {aO : Nat → Nat} {aP : Nat → Nat} {aS : Nat → Nat} {aD : Nat → Nat} {aQ : Nat → Nat} {sO : zSt} {sD : zSt} {k4 : Int32 → Int32 → Option (Int32)} {x2 : Int32} {out : Int32} (hQ : zHi C out [] 0 0) (hk4 : ∀ (x1 : Int32) (x2 : Int32), k4 x1 x2 = some out → zG C 3 [] 0 0 [wX9 (zcT C) aO (aP 0) (aS 0) (aD 0) (aQ 0) sO, wX1 (zcT C) aD sD] 4 [(0, .ref (aO 0)), (1, .int x1), (2, .int x2)] []) (h : fX9_firstBrokenLine_53 sO sD k4 x2 = some out) : zG C 3 [] 0 0 [wX9 (zcT C) aO (aP 0) (aS 0) (aD 0) (aQ 0) sO, wX1 (zcT C) aD sD] 53 [(0, .ref (aO 0)), (2, .int x2)] [] := by
  unfold fX9_firstBrokenLine_53 at h
  refine z_iload_n X dX9_firstBrokenLine_53 1 rfl ?_
  refine z_istore_n (lv2 := [(1, .int x2), (0, .ref (aO 0)), (2, .int x2)]) X dX9_firstBrokenLine_54 rfl (by decide) rfl ?_
  exact z_at (pc2 := 55) (lv2 := [(0, .ref (aO 0)), (1, .int x2), (2, .int x2)]) (st2 := []) (ws2 := [wX9 (zcT C) aO (aP 0) (aS 0) (aD 0) (aQ 0) sO, wX1 (zcT C) aD sD]) rfl rfl rfl [1, 0, 2] rfl (bX9_firstBrokenLine_55 X hQ hk4 h)
theorem bX9_firstBrokenLine_4 {C : zCtx} (X : zFx C cX9_firstBrokenLine 3 RX9 rmX9_firstBrokenLine (some .int)) {aO : Nat → Nat} {aP : Nat → Nat} {aS : Nat → Nat} {aD : Nat → Nat} {aQ : Nat → Nat} {sO : zSt} {sD : zSt} {out : Int32} (hQ : zHi C out [] 0 0) : ∀ (n : Nat) (x1 : Int32) (x2 : Int32), fX9_firstBrokenLine_4 sO sD n x1 x2 = some out → zG C 3 [] 0 0 [wX9 (zcT C) aO (aP 0) (aS 0) (aD 0) (aQ 0) sO, wX1 (zcT C) aD sD] 4 [(0, .ref (aO 0)), (1, .int x1), (2, .int x2)] [] := by
  intro n
  induction n with
  | zero =>
    intro x1 x2 h
    rw [fX9_firstBrokenLine_4] at h
    exact zno h
  | succ n ih =>
    intro x1 x2 h
    rw [fX9_firstBrokenLine_4] at h
    refine z_iload_n X dX9_firstBrokenLine_4 2 rfl ?_
    refine z_aload_n X dX9_firstBrokenLine_5 0 rfl ?_
    refine z_get (v := .ref (aD 0)) X 0 0 10 2 ziX9 rfl (by decide) zw241 rfl dX9_firstBrokenLine_6 rfl rfl rfl ?_
    refine z_getN (v := .int (zgi sD 3)) X 1 0 2 3 ziX1 rfl (by decide) zw196 rfl dX9_firstBrokenLine_9 rfl rfl rfl ?_
    refine z_icmp_ge (tgt := 61) X dX9_firstBrokenLine_12 (by decide) (fun c12 => ?_) (fun c12 => ?_)
    · replace h := zif_t h c12
      refine z_iload_n X dX9_firstBrokenLine_61 1 rfl ?_
      cases h
      exact z_iret X hQ dX9_firstBrokenLine_62 rfl [] rfl (by decide) (by decide)
    · replace h := zif_f h c12
      refine z_aload_n X dX9_firstBrokenLine_15 0 rfl ?_
      refine z_get (v := .ref (aD 0)) X 0 0 10 2 ziX9 rfl (by decide) zw241 rfl dX9_firstBrokenLine_16 rfl rfl rfl ?_
      refine z_iload_n X dX9_firstBrokenLine_19 2 rfl ?_
      refine z_iconst (v := (3 : Int32)) X dX9_firstBrokenLine_20 rfl ?_
      obtain ⟨o21, ho21, h⟩ := zbind_of h
      refine z_callVl (st := []) (ws2 := [wX9 (zcT C) aO (aP 0) (aS 0) (aD 0) (aQ 0) sO, wX1 (zcT C) aD sD]) X (metX1_cell (zcl C) (zcD C) (zcT C) aD ho21) zmX1_cell zw598 dX9_firstBrokenLine_21 1 0 2 rfl rfl rfl rfl [1] rfl rfl [] rfl (by decide) trivial rfl rfl rfl (Nat.le_of_ble_eq_true rfl) rfl rfl ⟨Nat.le_of_ble_eq_true rfl, Nat.le_of_ble_eq_true rfl⟩ ⟨Nat.le_of_ble_eq_true rfl, Nat.le_of_ble_eq_true rfl⟩ ?_
      refine z_lconst (v := (0 : Int64)) X dX9_firstBrokenLine_24 rfl ?_
      refine z_lcmp_ge (tgt := 55) X dX9_firstBrokenLine_25 dX9_firstBrokenLine_26 (by decide) (fun c25 => ?_) (fun c25 => ?_)
      · replace h := zif_t h c25
        exact z_at (pc2 := 55) (lv2 := [(0, .ref (aO 0)), (1, .int x1), (2, .int x2)]) (st2 := []) (ws2 := [wX9 (zcT C) aO (aP 0) (aS 0) (aD 0) (aQ 0) sO, wX1 (zcT C) aD sD]) rfl rfl rfl [0, 1, 2] rfl (bX9_firstBrokenLine_55 X hQ ih h)
      · replace h := zif_f h c25
        refine z_iload_n X dX9_firstBrokenLine_29 1 rfl ?_
        refine z_iconst (v := (-1 : Int32)) X dX9_firstBrokenLine_30 rfl ?_
        refine z_icmp_eq (tgt := 53) X dX9_firstBrokenLine_31 (by decide) (fun c31 => ?_) (fun c31 => ?_)
        · replace h := zif_t h c31
          exact z_at (pc2 := 53) (lv2 := [(0, .ref (aO 0)), (2, .int x2)]) (st2 := []) (ws2 := [wX9 (zcT C) aO (aP 0) (aS 0) (aD 0) (aQ 0) sO, wX1 (zcT C) aD sD]) rfl rfl rfl [0, 2] rfl (bX9_firstBrokenLine_53 X hQ ih h)
        · replace h := zif_f h c31
          refine z_aload_n X dX9_firstBrokenLine_34 0 rfl ?_
          refine z_get (v := .ref (aD 0)) X 0 0 10 2 ziX9 rfl (by decide) zw241 rfl dX9_firstBrokenLine_35 rfl rfl rfl ?_
          refine z_iload_n X dX9_firstBrokenLine_38 2 rfl ?_
          obtain ⟨o39, ho39, h⟩ := zbind_of h
          refine z_callVi (st := []) (ws2 := [wX9 (zcT C) aO (aP 0) (aS 0) (aD 0) (aQ 0) sO, wX1 (zcT C) aD sD]) X (metX1_insideOf (zcl C) (zcD C) (zcT C) aD ho39) zmX1_insideOf zw602 dX9_firstBrokenLine_39 1 0 2 rfl rfl rfl rfl [1] rfl rfl [] rfl (by decide) trivial rfl rfl rfl (Nat.le_of_ble_eq_true rfl) rfl rfl ⟨Nat.le_of_ble_eq_true rfl, Nat.le_of_ble_eq_true rfl⟩ ⟨Nat.le_of_ble_eq_true rfl, Nat.le_of_ble_eq_true rfl⟩ ?_
          refine z_aload_n X dX9_firstBrokenLine_42 0 rfl ?_
          refine z_get (v := .ref (aD 0)) X 0 0 10 2 ziX9 rfl (by decide) zw241 rfl dX9_firstBrokenLine_43 rfl rfl rfl ?_
          refine z_iload_n X dX9_firstBrokenLine_46 1 rfl ?_
          obtain ⟨o47, ho47, h⟩ := zbind_of h
          refine z_callVi (st := [.int o39]) (ws2 := [wX9 (zcT C) aO (aP 0) (aS 0) (aD 0) (aQ 0) sO, wX1 (zcT C) aD sD]) X (metX1_insideOf (zcl C) (zcD C) (zcT C) aD ho47) zmX1_insideOf zw602 dX9_firstBrokenLine_47 1 0 2 rfl rfl rfl rfl [1] rfl rfl [] rfl (by decide) trivial rfl rfl rfl (Nat.le_of_ble_eq_true rfl) rfl rfl ⟨Nat.le_of_ble_eq_true rfl, Nat.le_of_ble_eq_true rfl⟩ ⟨Nat.le_of_ble_eq_true rfl, Nat.le_of_ble_eq_true rfl⟩ ?_
          refine z_icmp_ge (tgt := 55) X dX9_firstBrokenLine_50 (by decide) (fun c50 => ?_) (fun c50 => ?_)
          · replace h := zif_t h c50
            exact z_at (pc2 := 55) (lv2 := [(0, .ref (aO 0)), (1, .int x1), (2, .int x2)]) (st2 := []) (ws2 := [wX9 (zcT C) aO (aP 0) (aS 0) (aD 0) (aQ 0) sO, wX1 (zcT C) aD sD]) rfl rfl rfl [0, 1, 2] rfl (bX9_firstBrokenLine_55 X hQ ih h)
          · replace h := zif_f h c50
            exact z_at (pc2 := 53) (lv2 := [(0, .ref (aO 0)), (2, .int x2)]) (st2 := []) (ws2 := [wX9 (zcT C) aO (aP 0) (aS 0) (aD 0) (aQ 0) sO, wX1 (zcT C) aD sD]) rfl rfl rfl [0, 2] rfl (bX9_firstBrokenLine_53 X hQ ih h)
theorem bX9_firstBrokenLine_0 {C : zCtx} (X : zFx C cX9_firstBrokenLine 3 RX9 rmX9_firstBrokenLine (some .int)) {aO : Nat → Nat} {aP : Nat → Nat} {aS : Nat → Nat} {aD : Nat → Nat} {aQ : Nat → Nat} {sO : zSt} {sD : zSt} {out : Int32} (hQ : zHi C out [] 0 0) (h : fX9_firstBrokenLine sO sD = some out) : zG C 3 [] 0 0 [wX9 (zcT C) aO (aP 0) (aS 0) (aD 0) (aQ 0) sO, wX1 (zcT C) aD sD] 0 [(0, .ref (aO 0))] [] := by
  unfold fX9_firstBrokenLine at h
  refine z_iconst (v := (-1 : Int32)) X dX9_firstBrokenLine_0 rfl ?_
  refine z_istore_n (lv2 := [(1, .int (-1 : Int32)), (0, .ref (aO 0))]) X dX9_firstBrokenLine_1 rfl (by decide) rfl ?_
  refine z_iconst (v := (0 : Int32)) X dX9_firstBrokenLine_2 rfl ?_
  refine z_istore_n (lv2 := [(2, .int (0 : Int32)), (1, .int (-1 : Int32)), (0, .ref (aO 0))]) X dX9_firstBrokenLine_3 rfl (by decide) rfl ?_
  exact z_at (pc2 := 4) (lv2 := [(0, .ref (aO 0)), (1, .int (-1 : Int32)), (2, .int (0 : Int32))]) (st2 := []) (ws2 := [wX9 (zcT C) aO (aP 0) (aS 0) (aD 0) (aQ 0) sO, wX1 (zcT C) aD sD]) rfl rfl rfl [2, 1, 0] rfl (bX9_firstBrokenLine_4 X hQ  6000 (-1 : Int32) (0 : Int32) h)
theorem metX9_firstBrokenLine (l : Launch) (D : va_G) (T : Nat → ClassId) (aO : Nat → Nat) (aP : Nat → Nat) (aS : Nat → Nat) (aD : Nat → Nat) (aQ : Nat → Nat) {sO : zSt} {sD : zSt} {out : Int32} (hf : fX9_firstBrokenLine sO sD = some out) (sz : Nat) : Met l yX9_firstBrokenLine (zws yX9_firstBrokenLine cX9_firstBrokenLine 3 (some .int)) rmX9_firstBrokenLine (zPc D T [.ref (aO 0)] [wX9 T aO (aP 0) (aS 0) (aD 0) (aQ 0) sO, wX1 T aD sD] sz) (zQi D out [] (zA [] sz)) 0 0 (zA [] sz) :=
  zMet (D := D) (T := T) (av := [.ref (aO 0)]) (ws := fun T => [wX9 T aO (aP 0) (aS 0) (aD 0) (aQ 0) sO, wX1 T aD sD]) (wm := fun T => []) (lv0 := [(0, .ref (aO 0))]) [] (Qc := fun D T A => zQi D out [] A) (by decide +kernel) rfl (Nat.le_of_ble_eq_true rfl) rfl (fun C X hQ => bX9_firstBrokenLine_0 X hQ hf) sz
/-- private int firstGrowing(int); of Tableaufloor$Walk -/
abbrev rmX9_firstGrowing : Room := { frames := 1, cells := 0, slots := 0, locals := 23 }
def fX9_firstGrowing_62 (sO : zSt) (sD : zSt) (k4 : Int32 → Int32 → Int32 → Option (Int32)) (x1 : Int32) (x2 : Int32) (x3 : Int32) : Option (Int32) :=
  (zlet (x3 + 1) (fun v62 =>
    (k4 x1 x2 v62)))
def fX9_firstGrowing_60 (sO : zSt) (sD : zSt) (k4 : Int32 → Int32 → Int32 → Option (Int32)) (x1 : Int32) (x3 : Int32) : Option (Int32) :=
  (fX9_firstGrowing_62 sO sD k4 x1 x3 x3)
def fX9_firstGrowing_4 (sO : zSt) (sD : zSt) : Nat → Int32 → Int32 → Int32 → Option (Int32)
  | 0, _, _, _ => none
  | n + 1, x1, x2, x3 =>
    (if (3 : Int32) ≤ x3 then
      some (x2)
    else
      (if zin x3 3 = true then
        (if (zga sO 4 (x3).toNatClampNeg) = 0 then
        ((fX1_cell sD x1 x3).bind (fun o28 =>
          (if o28 ≤ (0 : Int64) then
          (fX9_firstGrowing_62 sO sD (fX9_firstGrowing_4 sO sD n) x1 x2 x3)
        else
          (if x2 = (-1 : Int32) then
            (fX9_firstGrowing_60 sO sD (fX9_firstGrowing_4 sO sD n) x1 x3)
          else
            ((fX1_outsideOf sD x3).bind (fun o46 =>
              ((fX1_outsideOf sD x2).bind (fun o54 =>
              (if o54 ≤ o46 then
              (fX9_firstGrowing_62 sO sD (fX9_firstGrowing_4 sO sD n) x1 x2 x3)
            else
              (fX9_firstGrowing_60 sO sD (fX9_firstGrowing_4 sO sD n) x1 x3))))))))))
      else
        (fX9_firstGrowing_62 sO sD (fX9_firstGrowing_4 sO sD n) x1 x2 x3)) else none))
def fX9_firstGrowing (sO : zSt) (sD : zSt) (x1 : Int32) : Option (Int32) :=
  (fX9_firstGrowing_4 sO sD 6000 x1 (-1 : Int32) (0 : Int32))
theorem bX9_firstGrowing_62 {C : zCtx} (X : zFx C cX9_firstGrowing 4 RX9 rmX9_firstGrowing (some .int)) {aO : Nat → Nat} {aP : Nat → Nat} {aS : Nat → Nat} {aD : Nat → Nat} {aQ : Nat → Nat} {sO : zSt} {sD : zSt} {k4 : Int32 → Int32 → Int32 → Option (Int32)} {x1 : Int32} {x2 : Int32} {x3 : Int32} {out : Int32} (hQ : zHi C out [] 0 0) (hk4 : ∀ (x1 : Int32) (x2 : Int32) (x3 : Int32), k4 x1 x2 x3 = some out → zG C 4 [] 0 0 [wX9 (zcT C) aO (aP 0) (aS 0) (aD 0) (aQ 0) sO, wX1 (zcT C) aD sD] 4 [(0, .ref (aO 0)), (1, .int x1), (2, .int x2), (3, .int x3)] []) (h : fX9_firstGrowing_62 sO sD k4 x1 x2 x3 = some out) : zG C 4 [] 0 0 [wX9 (zcT C) aO (aP 0) (aS 0) (aD 0) (aQ 0) sO, wX1 (zcT C) aD sD] 62 [(0, .ref (aO 0)), (1, .int x1), (2, .int x2), (3, .int x3)] [] := by
  unfold fX9_firstGrowing_62 at h
  obtain ⟨v62, ev62, h⟩ := zlet_of h
  refine z_iinc (v := v62) (lv2 := [(3, .int v62), (0, .ref (aO 0)), (1, .int x1), (2, .int x2)]) X dX9_firstGrowing_62 (k := 3) rfl (by rw [ev62]; rfl) (by decide) rfl ?_
  refine z_goto (tgt := 4) X dX9_firstGrowing_65 (by decide) ?_
  exact z_at (pc2 := 4) (lv2 := [(0, .ref (aO 0)), (1, .int x1), (2, .int x2), (3, .int v62)]) (st2 := []) (ws2 := [wX9 (zcT C) aO (aP 0) (aS 0) (aD 0) (aQ 0) sO, wX1 (zcT C) aD sD]) rfl rfl rfl [1, 2, 3, 0] rfl (hk4 x1 x2 v62 h)
theorem bX9_firstGrowing_60 {C : zCtx} (X : zFx C cX9_firstGrowing 4 RX9 rmX9_firstGrowing (some .int)) {aO : Nat → Nat} {aP : Nat → Nat} {aS : Nat → Nat} {aD : Nat → Nat} {aQ : Nat → Nat} {sO : zSt} {sD : zSt} {k4 : Int32 → Int32 → Int32 → Option (Int32)} {x1 : Int32} {x3 : Int32} {out : Int32} (hQ : zHi C out [] 0 0) (hk4 : ∀ (x1 : Int32) (x2 : Int32) (x3 : Int32), k4 x1 x2 x3 = some out → zG C 4 [] 0 0 [wX9 (zcT C) aO (aP 0) (aS 0) (aD 0) (aQ 0) sO, wX1 (zcT C) aD sD] 4 [(0, .ref (aO 0)), (1, .int x1), (2, .int x2), (3, .int x3)] []) (h : fX9_firstGrowing_60 sO sD k4 x1 x3 = some out) : zG C 4 [] 0 0 [wX9 (zcT C) aO (aP 0) (aS 0) (aD 0) (aQ 0) sO, wX1 (zcT C) aD sD] 60 [(0, .ref (aO 0)), (1, .int x1), (3, .int x3)] [] := by
  unfold fX9_firstGrowing_60 at h
  refine z_iload_n X dX9_firstGrowing_60 2 rfl ?_
  refine z_istore_n (lv2 := [(2, .int x3), (0, .ref (aO 0)), (1, .int x1), (3, .int x3)]) X dX9_firstGrowing_61 rfl (by decide) rfl ?_
  exact z_at (pc2 := 62) (lv2 := [(0, .ref (aO 0)), (1, .int x1), (2, .int x3), (3, .int x3)]) (st2 := []) (ws2 := [wX9 (zcT C) aO (aP 0) (aS 0) (aD 0) (aQ 0) sO, wX1 (zcT C) aD sD]) rfl rfl rfl [1, 2, 0, 3] rfl (bX9_firstGrowing_62 X hQ hk4 h)
theorem bX9_firstGrowing_4 {C : zCtx} (X : zFx C cX9_firstGrowing 4 RX9 rmX9_firstGrowing (some .int)) {aO : Nat → Nat} {aP : Nat → Nat} {aS : Nat → Nat} {aD : Nat → Nat} {aQ : Nat → Nat} {sO : zSt} {sD : zSt} {out : Int32} (hQ : zHi C out [] 0 0) : ∀ (n : Nat) (x1 : Int32) (x2 : Int32) (x3 : Int32), fX9_firstGrowing_4 sO sD n x1 x2 x3 = some out → zG C 4 [] 0 0 [wX9 (zcT C) aO (aP 0) (aS 0) (aD 0) (aQ 0) sO, wX1 (zcT C) aD sD] 4 [(0, .ref (aO 0)), (1, .int x1), (2, .int x2), (3, .int x3)] [] := by
  intro n
  induction n with
  | zero =>
    intro x1 x2 x3 h
    rw [fX9_firstGrowing_4] at h
    exact zno h
  | succ n ih =>
    intro x1 x2 x3 h
    rw [fX9_firstGrowing_4] at h
    refine z_iload_n X dX9_firstGrowing_4 3 rfl ?_
    refine z_aload_n X dX9_firstGrowing_5 0 rfl ?_
    refine z_get (v := .ref (aO 5)) X 0 0 10 4 ziX9 rfl (by decide) zw246 rfl dX9_firstGrowing_6 rfl rfl rfl ?_
    refine z_alen (v := (3 : Int32)) X 0 1 3 rfl rfl dX9_firstGrowing_9 rfl rfl ?_
    refine z_icmp_ge (tgt := 68) X dX9_firstGrowing_10 (by decide) (fun c10 => ?_) (fun c10 => ?_)
    · replace h := zif_t h c10
      refine z_iload_n X dX9_firstGrowing_68 2 rfl ?_
      cases h
      exact z_iret X hQ dX9_firstGrowing_69 rfl [] rfl (by decide) (by decide)
    · replace h := zif_f h c10
      refine z_aload_n X dX9_firstGrowing_13 0 rfl ?_
      refine z_get (v := .ref (aO 5)) X 0 0 10 4 ziX9 rfl (by decide) zw246 rfl dX9_firstGrowing_14 rfl rfl rfl ?_
      refine z_iload_n X dX9_firstGrowing_17 3 rfl ?_
      obtain ⟨g18, h⟩ := zgd_of h
      refine z_zald X 0 1 g18 dX9_firstGrowing_18 rfl rfl ?_
      refine z_if_ne (tgt := 62) X dX9_firstGrowing_19 (by decide) (fun c19 => ?_) (fun c19 => ?_)
      · replace h := zif_f h c19
        exact z_at (pc2 := 62) (lv2 := [(0, .ref (aO 0)), (1, .int x1), (2, .int x2), (3, .int x3)]) (st2 := []) (ws2 := [wX9 (zcT C) aO (aP 0) (aS 0) (aD 0) (aQ 0) sO, wX1 (zcT C) aD sD]) rfl rfl rfl [0, 1, 2, 3] rfl (bX9_firstGrowing_62 X hQ ih h)
      · replace h := zif_t h c19
        refine z_aload_n X dX9_firstGrowing_22 0 rfl ?_
        refine z_get (v := .ref (aD 0)) X 0 0 10 2 ziX9 rfl (by decide) zw241 rfl dX9_firstGrowing_23 rfl rfl rfl ?_
        refine z_iload_n X dX9_firstGrowing_26 1 rfl ?_
        refine z_iload_n X dX9_firstGrowing_27 3 rfl ?_
        obtain ⟨o28, ho28, h⟩ := zbind_of h
        refine z_callVl (st := []) (ws2 := [wX9 (zcT C) aO (aP 0) (aS 0) (aD 0) (aQ 0) sO, wX1 (zcT C) aD sD]) X (metX1_cell (zcl C) (zcD C) (zcT C) aD ho28) zmX1_cell zw598 dX9_firstGrowing_28 1 0 2 rfl rfl rfl rfl [1] rfl rfl [] rfl (by decide) trivial rfl rfl rfl (Nat.le_of_ble_eq_true rfl) rfl rfl ⟨Nat.le_of_ble_eq_true rfl, Nat.le_of_ble_eq_true rfl⟩ ⟨Nat.le_of_ble_eq_true rfl, Nat.le_of_ble_eq_true rfl⟩ ?_
        refine z_lconst (v := (0 : Int64)) X dX9_firstGrowing_31 rfl ?_
        refine z_lcmp_le (tgt := 62) X dX9_firstGrowing_32 dX9_firstGrowing_33 (by decide) (fun c32 => ?_) (fun c32 => ?_)
        · replace h := zif_t h c32
          exact z_at (pc2 := 62) (lv2 := [(0, .ref (aO 0)), (1, .int x1), (2, .int x2), (3, .int x3)]) (st2 := []) (ws2 := [wX9 (zcT C) aO (aP 0) (aS 0) (aD 0) (aQ 0) sO, wX1 (zcT C) aD sD]) rfl rfl rfl [0, 1, 2, 3] rfl (bX9_firstGrowing_62 X hQ ih h)
        · replace h := zif_f h c32
          refine z_iload_n X dX9_firstGrowing_36 2 rfl ?_
          refine z_iconst (v := (-1 : Int32)) X dX9_firstGrowing_37 rfl ?_
          refine z_icmp_eq (tgt := 60) X dX9_firstGrowing_38 (by decide) (fun c38 => ?_) (fun c38 => ?_)
          · replace h := zif_t h c38
            exact z_at (pc2 := 60) (lv2 := [(0, .ref (aO 0)), (1, .int x1), (3, .int x3)]) (st2 := []) (ws2 := [wX9 (zcT C) aO (aP 0) (aS 0) (aD 0) (aQ 0) sO, wX1 (zcT C) aD sD]) rfl rfl rfl [0, 1, 3] rfl (bX9_firstGrowing_60 X hQ ih h)
          · replace h := zif_f h c38
            refine z_aload_n X dX9_firstGrowing_41 0 rfl ?_
            refine z_get (v := .ref (aD 0)) X 0 0 10 2 ziX9 rfl (by decide) zw241 rfl dX9_firstGrowing_42 rfl rfl rfl ?_
            refine z_iload_n X dX9_firstGrowing_45 3 rfl ?_
            obtain ⟨o46, ho46, h⟩ := zbind_of h
            refine z_callVi (st := []) (ws2 := [wX9 (zcT C) aO (aP 0) (aS 0) (aD 0) (aQ 0) sO, wX1 (zcT C) aD sD]) X (metX1_outsideOf (zcl C) (zcD C) (zcT C) aD ho46) zmX1_outsideOf zw610 dX9_firstGrowing_46 1 0 2 rfl rfl rfl rfl [1] rfl rfl [] rfl (by decide) trivial rfl rfl rfl (Nat.le_of_ble_eq_true rfl) rfl rfl ⟨Nat.le_of_ble_eq_true rfl, Nat.le_of_ble_eq_true rfl⟩ ⟨Nat.le_of_ble_eq_true rfl, Nat.le_of_ble_eq_true rfl⟩ ?_
            refine z_aload_n X dX9_firstGrowing_49 0 rfl ?_
            refine z_get (v := .ref (aD 0)) X 0 0 10 2 ziX9 rfl (by decide) zw241 rfl dX9_firstGrowing_50 rfl rfl rfl ?_
            refine z_iload_n X dX9_firstGrowing_53 2 rfl ?_
            obtain ⟨o54, ho54, h⟩ := zbind_of h
            refine z_callVi (st := [.int o46]) (ws2 := [wX9 (zcT C) aO (aP 0) (aS 0) (aD 0) (aQ 0) sO, wX1 (zcT C) aD sD]) X (metX1_outsideOf (zcl C) (zcD C) (zcT C) aD ho54) zmX1_outsideOf zw610 dX9_firstGrowing_54 1 0 2 rfl rfl rfl rfl [1] rfl rfl [] rfl (by decide) trivial rfl rfl rfl (Nat.le_of_ble_eq_true rfl) rfl rfl ⟨Nat.le_of_ble_eq_true rfl, Nat.le_of_ble_eq_true rfl⟩ ⟨Nat.le_of_ble_eq_true rfl, Nat.le_of_ble_eq_true rfl⟩ ?_
            refine z_icmp_ge (tgt := 62) X dX9_firstGrowing_57 (by decide) (fun c57 => ?_) (fun c57 => ?_)
            · replace h := zif_t h c57
              exact z_at (pc2 := 62) (lv2 := [(0, .ref (aO 0)), (1, .int x1), (2, .int x2), (3, .int x3)]) (st2 := []) (ws2 := [wX9 (zcT C) aO (aP 0) (aS 0) (aD 0) (aQ 0) sO, wX1 (zcT C) aD sD]) rfl rfl rfl [0, 1, 2, 3] rfl (bX9_firstGrowing_62 X hQ ih h)
            · replace h := zif_f h c57
              exact z_at (pc2 := 60) (lv2 := [(0, .ref (aO 0)), (1, .int x1), (3, .int x3)]) (st2 := []) (ws2 := [wX9 (zcT C) aO (aP 0) (aS 0) (aD 0) (aQ 0) sO, wX1 (zcT C) aD sD]) rfl rfl rfl [0, 1, 3] rfl (bX9_firstGrowing_60 X hQ ih h)
theorem bX9_firstGrowing_0 {C : zCtx} (X : zFx C cX9_firstGrowing 4 RX9 rmX9_firstGrowing (some .int)) {aO : Nat → Nat} {aP : Nat → Nat} {aS : Nat → Nat} {aD : Nat → Nat} {aQ : Nat → Nat} {sO : zSt} {sD : zSt} {x1 : Int32} {out : Int32} (hQ : zHi C out [] 0 0) (h : fX9_firstGrowing sO sD x1 = some out) : zG C 4 [] 0 0 [wX9 (zcT C) aO (aP 0) (aS 0) (aD 0) (aQ 0) sO, wX1 (zcT C) aD sD] 0 [(0, .ref (aO 0)), (1, .int x1)] [] := by
  unfold fX9_firstGrowing at h
  refine z_iconst (v := (-1 : Int32)) X dX9_firstGrowing_0 rfl ?_
  refine z_istore_n (lv2 := [(2, .int (-1 : Int32)), (0, .ref (aO 0)), (1, .int x1)]) X dX9_firstGrowing_1 rfl (by decide) rfl ?_
  refine z_iconst (v := (0 : Int32)) X dX9_firstGrowing_2 rfl ?_
  refine z_istore_n (lv2 := [(3, .int (0 : Int32)), (2, .int (-1 : Int32)), (0, .ref (aO 0)), (1, .int x1)]) X dX9_firstGrowing_3 rfl (by decide) rfl ?_
  exact z_at (pc2 := 4) (lv2 := [(0, .ref (aO 0)), (1, .int x1), (2, .int (-1 : Int32)), (3, .int (0 : Int32))]) (st2 := []) (ws2 := [wX9 (zcT C) aO (aP 0) (aS 0) (aD 0) (aQ 0) sO, wX1 (zcT C) aD sD]) rfl rfl rfl [2, 3, 1, 0] rfl (bX9_firstGrowing_4 X hQ  6000 x1 (-1 : Int32) (0 : Int32) h)
theorem metX9_firstGrowing (l : Launch) (D : va_G) (T : Nat → ClassId) (aO : Nat → Nat) (aP : Nat → Nat) (aS : Nat → Nat) (aD : Nat → Nat) (aQ : Nat → Nat) {sO : zSt} {sD : zSt} {x1 : Int32} {out : Int32} (hf : fX9_firstGrowing sO sD x1 = some out) (sz : Nat) : Met l yX9_firstGrowing (zws yX9_firstGrowing cX9_firstGrowing 4 (some .int)) rmX9_firstGrowing (zPc D T [.ref (aO 0), .int x1] [wX9 T aO (aP 0) (aS 0) (aD 0) (aQ 0) sO, wX1 T aD sD] sz) (zQi D out [] (zA [] sz)) 0 0 (zA [] sz) :=
  zMet (D := D) (T := T) (av := [.ref (aO 0), .int x1]) (ws := fun T => [wX9 T aO (aP 0) (aS 0) (aD 0) (aQ 0) sO, wX1 T aD sD]) (wm := fun T => []) (lv0 := [(0, .ref (aO 0)), (1, .int x1)]) [] (Qc := fun D T A => zQi D out [] A) (by decide +kernel) rfl (Nat.le_of_ble_eq_true rfl) rfl (fun C X hQ => bX9_firstGrowing_0 X hQ hf) sz
/-- private boolean mends(); of Tableaufloor$Walk -/
abbrev rmX9_mends : Room := { frames := 3, cells := 0, slots := 0, locals := 82 }
def fX9_mends_8 : Nat → zSt → zSt → Int32 → Option (Int32 × zSt × zSt)
  | 0, _, _, _ => none
  | n + 1, sO, sD, x1 =>
    (if (100000 : Int32) ≤ x1 then
      some ((0 : Int32), sO, sD)
    else
      ((fX9_firstBrokenLine sO sD).bind (fun o16 =>
        (zlet (zsi sO 8 o16) (fun sO19 =>
        (if (zgi sO19 8) = (-1 : Int32) then
        (zlet (zsi sO19 5 (111 : Int32)) (fun sO33 =>
          some ((1 : Int32), sO33, sD)))
      else
        ((fX9_firstGrowing sO19 sD (zgi sO19 8)).bind (fun o43 =>
          (if o43 = (-1 : Int32) then
          some ((0 : Int32), sO19, sD)
        else
          ((fX1_swap sD (zgi sO19 8) o43).bind (fun o63 =>
            (zlet (x1 + 1) (fun v66 =>
            (fX9_mends_8 n sO19 o63 v66))))))))))))))
def fX9_mends (sO : zSt) (sD : zSt) : Option (Int32 × zSt × zSt) :=
  (zlet (zsi sO 5 (105 : Int32)) (fun sO3 =>
    (fX9_mends_8 6000 sO3 sD (0 : Int32))))
theorem bX9_mends_8 {C : zCtx} (X : zFx C cX9_mends 3 RX9 rmX9_mends (some .boolean)) {aO : Nat → Nat} {aP : Nat → Nat} {aS : Nat → Nat} {aD : Nat → Nat} {aQ : Nat → Nat} {out : Int32 × zSt × zSt} (hQ : zHi C out.1 [wX9 (zcT C) aO (aP 0) (aS 0) (aD 0) (aQ 0) out.2.1, wX1 (zcT C) aD out.2.2] 0 0) : ∀ (n : Nat) (sO : zSt) (sD : zSt) (x1 : Int32), fX9_mends_8 n sO sD x1 = some out → zG C 3 [0, 1] 0 0 [wX9 (zcT C) aO (aP 0) (aS 0) (aD 0) (aQ 0) sO, wX1 (zcT C) aD sD] 8 [(0, .ref (aO 0)), (1, .int x1)] [] := by
  intro n
  induction n with
  | zero =>
    intro sO sD x1 h
    rw [fX9_mends_8] at h
    exact zno h
  | succ n ih =>
    intro sO sD x1 h
    rw [fX9_mends_8] at h
    refine z_iload_n X dX9_mends_8 1 rfl ?_
    refine z_ldc (v := (100000 : Int32)) X zw593 dX9_mends_9 ?_
    refine z_icmp_ge (tgt := 72) X dX9_mends_11 (by decide) (fun c11 => ?_) (fun c11 => ?_)
    · replace h := zif_t h c11
      refine z_iconst (v := (0 : Int32)) X dX9_mends_72 rfl ?_
      cases h
      exact z_nret X hQ rfl dX9_mends_73 rfl [0, 1] rfl (by decide) (by decide)
    · replace h := zif_f h c11
      refine z_aload_n X dX9_mends_14 0 rfl ?_
      refine z_aload_n X dX9_mends_15 0 rfl ?_
      obtain ⟨o16, ho16, h⟩ := zbind_of h
      refine z_callVi (st := [.ref (aO 0)]) (ws2 := [wX9 (zcT C) aO (aP 0) (aS 0) (aD 0) (aQ 0) sO, wX1 (zcT C) aD sD]) X (metX9_firstBrokenLine (zcl C) (zcD C) (zcT C) aO aP aS aD aQ ho16) zmX9_firstBrokenLine zw594 dX9_mends_16 0 0 10 rfl rfl rfl rfl [0, 1] rfl rfl [] rfl (by decide) trivial rfl rfl rfl (Nat.le_of_ble_eq_true rfl) rfl rfl ⟨Nat.le_of_ble_eq_true rfl, Nat.le_of_ble_eq_true rfl⟩ ⟨Nat.le_of_ble_eq_true rfl, Nat.le_of_ble_eq_true rfl⟩ ?_
      obtain ⟨sO19, esO19, h⟩ := zlet_of h
      refine z_put (ws2 := [wX9 (zcT C) aO (aP 0) (aS 0) (aD 0) (aQ 0) sO19, wX1 (zcT C) aD sD]) X 0 0 10 8 ziX9 rfl tyX9 tyX9_ok nmX9 (by decide) zw255 rfl rfl (ty := .int) (by decide +kernel) rfl rfl (by show 8 < 10; decide) dX9_mends_19 rfl rfl (by decide) (w2 := wX9 (zcT C) aO (aP 0) (aS 0) (aD 0) (aQ 0) sO19) (by rw [esO19]; rfl) rfl ?_
      refine z_aload_n X dX9_mends_22 0 rfl ?_
      refine z_get (v := .int (zgi sO19 8)) X 0 0 10 8 ziX9 rfl (by decide) zw255 rfl dX9_mends_23 rfl rfl rfl ?_
      refine z_iconst (v := (-1 : Int32)) X dX9_mends_26 rfl ?_
      refine z_icmp_ne (tgt := 38) X dX9_mends_27 (by decide) (fun c27 => ?_) (fun c27 => ?_)
      · replace h := zif_f h c27
        refine z_aload_n X dX9_mends_38 0 rfl ?_
        refine z_aload_n X dX9_mends_39 0 rfl ?_
        refine z_get (v := .int (zgi sO19 8)) X 0 0 10 8 ziX9 rfl (by decide) zw255 rfl dX9_mends_40 rfl rfl rfl ?_
        obtain ⟨o43, ho43, h⟩ := zbind_of h
        refine z_callVi (st := []) (ws2 := [wX9 (zcT C) aO (aP 0) (aS 0) (aD 0) (aQ 0) sO19, wX1 (zcT C) aD sD]) X (metX9_firstGrowing (zcl C) (zcD C) (zcT C) aO aP aS aD aQ ho43) zmX9_firstGrowing zw606 dX9_mends_43 0 0 10 rfl rfl rfl rfl [0, 1] rfl rfl [] rfl (by decide) trivial rfl rfl rfl (Nat.le_of_ble_eq_true rfl) rfl rfl ⟨Nat.le_of_ble_eq_true rfl, Nat.le_of_ble_eq_true rfl⟩ ⟨Nat.le_of_ble_eq_true rfl, Nat.le_of_ble_eq_true rfl⟩ ?_
        refine z_istore_n (lv2 := [(2, .int o43), (0, .ref (aO 0)), (1, .int x1)]) X dX9_mends_46 rfl (by decide) rfl ?_
        refine z_iload_n X dX9_mends_47 0 rfl ?_
        refine z_iconst (v := (-1 : Int32)) X dX9_mends_48 rfl ?_
        refine z_icmp_ne (tgt := 54) X dX9_mends_49 (by decide) (fun c49 => ?_) (fun c49 => ?_)
        · replace h := zif_f h c49
          refine z_aload_n X dX9_mends_54 1 rfl ?_
          refine z_get (v := .ref (aD 0)) X 0 0 10 2 ziX9 rfl (by decide) zw241 rfl dX9_mends_55 rfl rfl rfl ?_
          refine z_aload_n X dX9_mends_58 1 rfl ?_
          refine z_get (v := .int (zgi sO19 8)) X 0 0 10 8 ziX9 rfl (by decide) zw255 rfl dX9_mends_59 rfl rfl rfl ?_
          refine z_iload_n X dX9_mends_62 0 rfl ?_
          obtain ⟨o63, ho63, h⟩ := zbind_of h
          refine z_callVv (st := []) (ws2 := [wX9 (zcT C) aO (aP 0) (aS 0) (aD 0) (aQ 0) sO19, wX1 (zcT C) aD o63]) X (metX1_swap (zcl C) (zcD C) (zcT C) aD ho63) zmX1_swap zw614 dX9_mends_63 1 0 2 rfl rfl rfl rfl [1] rfl rfl [1] rfl (by decide) ⟨zsX1 , trivial⟩ rfl rfl rfl (Nat.le_of_ble_eq_true rfl) rfl rfl ⟨Nat.le_of_ble_eq_true rfl, Nat.le_of_ble_eq_true rfl⟩ ⟨Nat.le_of_ble_eq_true rfl, Nat.le_of_ble_eq_true rfl⟩ ?_
          obtain ⟨v66, ev66, h⟩ := zlet_of h
          refine z_iinc (v := v66) (lv2 := [(1, .int v66), (2, .int o43), (0, .ref (aO 0))]) X dX9_mends_66 (k := 2) rfl (by rw [ev66]; rfl) (by decide) rfl ?_
          refine z_goto (tgt := 8) X dX9_mends_69 (by decide) ?_
          exact z_at (pc2 := 8) (lv2 := [(0, .ref (aO 0)), (1, .int v66)]) (st2 := []) (ws2 := [wX9 (zcT C) aO (aP 0) (aS 0) (aD 0) (aQ 0) sO19, wX1 (zcT C) aD o63]) rfl rfl rfl [2, 0] rfl (ih sO19 o63 v66 h)
        · replace h := zif_t h c49
          refine z_iconst (v := (0 : Int32)) X dX9_mends_52 rfl ?_
          cases h
          exact z_nret X hQ rfl dX9_mends_53 rfl [0, 1] rfl (by decide) (by decide)
      · replace h := zif_t h c27
        refine z_aload_n X dX9_mends_30 0 rfl ?_
        refine z_bipush (v := (111 : Int32)) X dX9_mends_31 rfl ?_
        obtain ⟨sO33, esO33, h⟩ := zlet_of h
        refine z_put (ws2 := [wX9 (zcT C) aO (aP 0) (aS 0) (aD 0) (aQ 0) sO33, wX1 (zcT C) aD sD]) X 0 0 10 5 ziX9 rfl tyX9 tyX9_ok nmX9 (by decide) zw247 rfl rfl (ty := .char) (by decide +kernel) rfl rfl (by show 5 < 10; decide) dX9_mends_33 rfl rfl (by decide) (w2 := wX9 (zcT C) aO (aP 0) (aS 0) (aD 0) (aQ 0) sO33) (by rw [esO33]; rfl) rfl ?_
        refine z_iconst (v := (1 : Int32)) X dX9_mends_36 rfl ?_
        cases h
        exact z_nret X hQ rfl dX9_mends_37 rfl [0, 1] rfl (by decide) (by decide)
theorem bX9_mends_0 {C : zCtx} (X : zFx C cX9_mends 3 RX9 rmX9_mends (some .boolean)) {aO : Nat → Nat} {aP : Nat → Nat} {aS : Nat → Nat} {aD : Nat → Nat} {aQ : Nat → Nat} {sO : zSt} {sD : zSt} {out : Int32 × zSt × zSt} (hQ : zHi C out.1 [wX9 (zcT C) aO (aP 0) (aS 0) (aD 0) (aQ 0) out.2.1, wX1 (zcT C) aD out.2.2] 0 0) (h : fX9_mends sO sD = some out) : zG C 3 [0, 1] 0 0 [wX9 (zcT C) aO (aP 0) (aS 0) (aD 0) (aQ 0) sO, wX1 (zcT C) aD sD] 0 [(0, .ref (aO 0))] [] := by
  unfold fX9_mends at h
  refine z_aload_n X dX9_mends_0 0 rfl ?_
  refine z_bipush (v := (105 : Int32)) X dX9_mends_1 rfl ?_
  obtain ⟨sO3, esO3, h⟩ := zlet_of h
  refine z_put (ws2 := [wX9 (zcT C) aO (aP 0) (aS 0) (aD 0) (aQ 0) sO3, wX1 (zcT C) aD sD]) X 0 0 10 5 ziX9 rfl tyX9 tyX9_ok nmX9 (by decide) zw247 rfl rfl (ty := .char) (by decide +kernel) rfl rfl (by show 5 < 10; decide) dX9_mends_3 rfl rfl (by decide) (w2 := wX9 (zcT C) aO (aP 0) (aS 0) (aD 0) (aQ 0) sO3) (by rw [esO3]; rfl) rfl ?_
  refine z_iconst (v := (0 : Int32)) X dX9_mends_6 rfl ?_
  refine z_istore_n (lv2 := [(1, .int (0 : Int32)), (0, .ref (aO 0))]) X dX9_mends_7 rfl (by decide) rfl ?_
  exact z_at (pc2 := 8) (lv2 := [(0, .ref (aO 0)), (1, .int (0 : Int32))]) (st2 := []) (ws2 := [wX9 (zcT C) aO (aP 0) (aS 0) (aD 0) (aQ 0) sO3, wX1 (zcT C) aD sD]) rfl rfl rfl [1, 0] rfl (bX9_mends_8 X hQ  6000 sO3 sD (0 : Int32) h)
theorem metX9_mends (l : Launch) (D : va_G) (T : Nat → ClassId) (aO : Nat → Nat) (aP : Nat → Nat) (aS : Nat → Nat) (aD : Nat → Nat) (aQ : Nat → Nat) {sO : zSt} {sD : zSt} {out : Int32 × zSt × zSt} (hf : fX9_mends sO sD = some out) (sz : Nat) : Met l yX9_mends (zws yX9_mends cX9_mends 3 (some .boolean)) rmX9_mends (zPc D T [.ref (aO 0)] [wX9 T aO (aP 0) (aS 0) (aD 0) (aQ 0) sO, wX1 T aD sD] sz) (zQi D out.1 [wX9 T aO (aP 0) (aS 0) (aD 0) (aQ 0) out.2.1, wX1 T aD out.2.2] (zA [wX9 T aO (aP 0) (aS 0) (aD 0) (aQ 0) sO, wX1 T aD sD] sz)) 0 0 (zA [wX9 T aO (aP 0) (aS 0) (aD 0) (aQ 0) sO, wX1 T aD sD] sz) :=
  zMet (D := D) (T := T) (av := [.ref (aO 0)]) (ws := fun T => [wX9 T aO (aP 0) (aS 0) (aD 0) (aQ 0) sO, wX1 T aD sD]) (wm := fun T => [wX9 T aO (aP 0) (aS 0) (aD 0) (aQ 0) sO, wX1 T aD sD]) (lv0 := [(0, .ref (aO 0))]) [0, 1] (Qc := fun D T A => zQi D out.1 [wX9 T aO (aP 0) (aS 0) (aD 0) (aQ 0) out.2.1, wX1 T aD out.2.2] A) (by decide +kernel) rfl (Nat.le_of_ble_eq_true rfl) rfl (fun C X hQ => bX9_mends_0 X hQ hf) sz
/-- private void hold(int); of Tableaufloor$Walk -/
abbrev rmX9_hold : Room := { frames := 1, cells := 0, slots := 0, locals := 23 }
def fX9_hold_32 (sD : zSt) (k2 : zSt → Int32 → Int32 → Option (zSt)) (sO : zSt) (x1 : Int32) (x2 : Int32) : Option (zSt) :=
  (zlet (x2 + 1) (fun v32 =>
    (k2 sO x1 v32)))
def fX9_hold_2 (sD : zSt) : Nat → zSt → Int32 → Int32 → Option (zSt)
  | 0, _, _, _ => none
  | n + 1, sO, x1, x2 =>
    (if (3 : Int32) ≤ x2 then
      some (sO)
    else
      ((fX1_cell sD x1 x2).bind (fun o17 =>
        (if o17 = (0 : Int64) then
        (fX9_hold_32 sD (fX9_hold_2 sD n) sO x1 x2)
      else
        (if zin x2 3 = true then
          (zlet (zsa sO 4 (upd (zga sO 4) (x2).toNatClampNeg (vp_nar .boolean (1 : Int32)))) (fun sO31 =>
          (fX9_hold_32 sD (fX9_hold_2 sD n) sO31 x1 x2))) else none)))))
def fX9_hold (sO : zSt) (sD : zSt) (x1 : Int32) : Option (zSt) :=
  (fX9_hold_2 sD 6000 sO x1 (0 : Int32))
theorem bX9_hold_32 {C : zCtx} (X : zFx C cX9_hold 3 RX9 rmX9_hold none) {aO : Nat → Nat} {aP : Nat → Nat} {aS : Nat → Nat} {aD : Nat → Nat} {aQ : Nat → Nat} {sD : zSt} {k2 : zSt → Int32 → Int32 → Option (zSt)} {sO : zSt} {x1 : Int32} {x2 : Int32} {out : zSt} (hQ : zHv C [wX9 (zcT C) aO (aP 0) (aS 0) (aD 0) (aQ 0) out] 0 0) (hk2 : ∀ (sO : zSt) (x1 : Int32) (x2 : Int32), k2 sO x1 x2 = some out → zG C 3 [0] 0 0 [wX9 (zcT C) aO (aP 0) (aS 0) (aD 0) (aQ 0) sO, wX1 (zcT C) aD sD] 2 [(0, .ref (aO 0)), (1, .int x1), (2, .int x2)] []) (h : fX9_hold_32 sD k2 sO x1 x2 = some out) : zG C 3 [0] 0 0 [wX9 (zcT C) aO (aP 0) (aS 0) (aD 0) (aQ 0) sO, wX1 (zcT C) aD sD] 32 [(0, .ref (aO 0)), (1, .int x1), (2, .int x2)] [] := by
  unfold fX9_hold_32 at h
  obtain ⟨v32, ev32, h⟩ := zlet_of h
  refine z_iinc (v := v32) (lv2 := [(2, .int v32), (0, .ref (aO 0)), (1, .int x1)]) X dX9_hold_32 (k := 2) rfl (by rw [ev32]; rfl) (by decide) rfl ?_
  refine z_goto (tgt := 2) X dX9_hold_35 (by decide) ?_
  exact z_at (pc2 := 2) (lv2 := [(0, .ref (aO 0)), (1, .int x1), (2, .int v32)]) (st2 := []) (ws2 := [wX9 (zcT C) aO (aP 0) (aS 0) (aD 0) (aQ 0) sO, wX1 (zcT C) aD sD]) rfl rfl rfl [1, 2, 0] rfl (hk2 sO x1 v32 h)
theorem bX9_hold_2 {C : zCtx} (X : zFx C cX9_hold 3 RX9 rmX9_hold none) {aO : Nat → Nat} {aP : Nat → Nat} {aS : Nat → Nat} {aD : Nat → Nat} {aQ : Nat → Nat} {sD : zSt} {out : zSt} (hQ : zHv C [wX9 (zcT C) aO (aP 0) (aS 0) (aD 0) (aQ 0) out] 0 0) : ∀ (n : Nat) (sO : zSt) (x1 : Int32) (x2 : Int32), fX9_hold_2 sD n sO x1 x2 = some out → zG C 3 [0] 0 0 [wX9 (zcT C) aO (aP 0) (aS 0) (aD 0) (aQ 0) sO, wX1 (zcT C) aD sD] 2 [(0, .ref (aO 0)), (1, .int x1), (2, .int x2)] [] := by
  intro n
  induction n with
  | zero =>
    intro sO x1 x2 h
    rw [fX9_hold_2] at h
    exact zno h
  | succ n ih =>
    intro sO x1 x2 h
    rw [fX9_hold_2] at h
    refine z_iload_n X dX9_hold_2 2 rfl ?_
    refine z_aload_n X dX9_hold_3 0 rfl ?_
    refine z_get (v := .ref (aO 5)) X 0 0 10 4 ziX9 rfl (by decide) zw246 rfl dX9_hold_4 rfl rfl rfl ?_
    refine z_alen (v := (3 : Int32)) X 0 1 3 rfl rfl dX9_hold_7 rfl rfl ?_
    refine z_icmp_ge (tgt := 38) X dX9_hold_8 (by decide) (fun c8 => ?_) (fun c8 => ?_)
    · replace h := zif_t h c8
      cases h
      exact z_vret X hQ dX9_hold_38 [0] rfl (by decide) (by decide)
    · replace h := zif_f h c8
      refine z_aload_n X dX9_hold_11 0 rfl ?_
      refine z_get (v := .ref (aD 0)) X 0 0 10 2 ziX9 rfl (by decide) zw241 rfl dX9_hold_12 rfl rfl rfl ?_
      refine z_iload_n X dX9_hold_15 1 rfl ?_
      refine z_iload_n X dX9_hold_16 2 rfl ?_
      obtain ⟨o17, ho17, h⟩ := zbind_of h
      refine z_callVl (st := []) (ws2 := [wX9 (zcT C) aO (aP 0) (aS 0) (aD 0) (aQ 0) sO, wX1 (zcT C) aD sD]) X (metX1_cell (zcl C) (zcD C) (zcT C) aD ho17) zmX1_cell zw598 dX9_hold_17 1 0 2 rfl rfl rfl rfl [1] rfl rfl [] rfl (by decide) trivial rfl rfl rfl (Nat.le_of_ble_eq_true rfl) rfl rfl ⟨Nat.le_of_ble_eq_true rfl, Nat.le_of_ble_eq_true rfl⟩ ⟨Nat.le_of_ble_eq_true rfl, Nat.le_of_ble_eq_true rfl⟩ ?_
      refine z_lconst (v := (0 : Int64)) X dX9_hold_20 rfl ?_
      refine z_lcmp_eq (tgt := 32) X dX9_hold_21 dX9_hold_22 (by decide) (fun c21 => ?_) (fun c21 => ?_)
      · replace h := zif_t h c21
        exact z_at (pc2 := 32) (lv2 := [(0, .ref (aO 0)), (1, .int x1), (2, .int x2)]) (st2 := []) (ws2 := [wX9 (zcT C) aO (aP 0) (aS 0) (aD 0) (aQ 0) sO, wX1 (zcT C) aD sD]) rfl rfl rfl [0, 1, 2] rfl (bX9_hold_32 X hQ ih h)
      · replace h := zif_f h c21
        refine z_aload_n X dX9_hold_25 0 rfl ?_
        refine z_get (v := .ref (aO 5)) X 0 0 10 4 ziX9 rfl (by decide) zw246 rfl dX9_hold_26 rfl rfl rfl ?_
        refine z_iload_n X dX9_hold_29 2 rfl ?_
        refine z_iconst (v := (1 : Int32)) X dX9_hold_30 rfl ?_
        obtain ⟨g31, h⟩ := zgd_of h
        obtain ⟨sO31, esO31, h⟩ := zlet_of h
        refine z_zast (ws2 := [wX9 (zcT C) aO (aP 0) (aS 0) (aD 0) (aQ 0) sO31, wX1 (zcT C) aD sD]) X 0 1 g31 dX9_hold_31 rfl rfl (by decide) (w2 := wX9 (zcT C) aO (aP 0) (aS 0) (aD 0) (aQ 0) sO31) (by rw [esO31]; rfl) rfl ?_
        exact z_at (pc2 := 32) (lv2 := [(0, .ref (aO 0)), (1, .int x1), (2, .int x2)]) (st2 := []) (ws2 := [wX9 (zcT C) aO (aP 0) (aS 0) (aD 0) (aQ 0) sO31, wX1 (zcT C) aD sD]) rfl rfl rfl [0, 1, 2] rfl (bX9_hold_32 X hQ ih h)
theorem bX9_hold_0 {C : zCtx} (X : zFx C cX9_hold 3 RX9 rmX9_hold none) {aO : Nat → Nat} {aP : Nat → Nat} {aS : Nat → Nat} {aD : Nat → Nat} {aQ : Nat → Nat} {sO : zSt} {sD : zSt} {x1 : Int32} {out : zSt} (hQ : zHv C [wX9 (zcT C) aO (aP 0) (aS 0) (aD 0) (aQ 0) out] 0 0) (h : fX9_hold sO sD x1 = some out) : zG C 3 [0] 0 0 [wX9 (zcT C) aO (aP 0) (aS 0) (aD 0) (aQ 0) sO, wX1 (zcT C) aD sD] 0 [(0, .ref (aO 0)), (1, .int x1)] [] := by
  unfold fX9_hold at h
  refine z_iconst (v := (0 : Int32)) X dX9_hold_0 rfl ?_
  refine z_istore_n (lv2 := [(2, .int (0 : Int32)), (0, .ref (aO 0)), (1, .int x1)]) X dX9_hold_1 rfl (by decide) rfl ?_
  exact z_at (pc2 := 2) (lv2 := [(0, .ref (aO 0)), (1, .int x1), (2, .int (0 : Int32))]) (st2 := []) (ws2 := [wX9 (zcT C) aO (aP 0) (aS 0) (aD 0) (aQ 0) sO, wX1 (zcT C) aD sD]) rfl rfl rfl [1, 2, 0] rfl (bX9_hold_2 X hQ  6000 sO x1 (0 : Int32) h)
theorem metX9_hold (l : Launch) (D : va_G) (T : Nat → ClassId) (aO : Nat → Nat) (aP : Nat → Nat) (aS : Nat → Nat) (aD : Nat → Nat) (aQ : Nat → Nat) {sO : zSt} {sD : zSt} {x1 : Int32} {out : zSt} (hf : fX9_hold sO sD x1 = some out) (sz : Nat) : Met l yX9_hold (zws yX9_hold cX9_hold 3 none) rmX9_hold (zPc D T [.ref (aO 0), .int x1] [wX9 T aO (aP 0) (aS 0) (aD 0) (aQ 0) sO, wX1 T aD sD] sz) (zQv D [wX9 T aO (aP 0) (aS 0) (aD 0) (aQ 0) out] (zA [wX9 T aO (aP 0) (aS 0) (aD 0) (aQ 0) sO] sz)) 0 0 (zA [wX9 T aO (aP 0) (aS 0) (aD 0) (aQ 0) sO] sz) :=
  zMet (D := D) (T := T) (av := [.ref (aO 0), .int x1]) (ws := fun T => [wX9 T aO (aP 0) (aS 0) (aD 0) (aQ 0) sO, wX1 T aD sD]) (wm := fun T => [wX9 T aO (aP 0) (aS 0) (aD 0) (aQ 0) sO]) (lv0 := [(0, .ref (aO 0)), (1, .int x1)]) [0] (Qc := fun D T A => zQv D [wX9 T aO (aP 0) (aS 0) (aD 0) (aQ 0) out] A) (by decide +kernel) rfl (Nat.le_of_ble_eq_true rfl) rfl (fun C X hQ => bX9_hold_0 X hQ hf) sz
/-- private boolean stopsSooner(int, int, int); of Tableaufloor$Walk -/
abbrev rmX9_stopsSooner : Room := { frames := 1, cells := 0, slots := 0, locals := 23 }
def fX9_stopsSooner_84 (sO : zSt) (sD : zSt) (y0 : Int32) : Option (Int32) :=
  (if znar .boolean y0 = true then
    some (y0) else none)
def fX9_stopsSooner_79 (sO : zSt) (sD : zSt) : Option (Int32) :=
  (fX9_stopsSooner_84 sO sD (1 : Int32))
def fX9_stopsSooner_83 (sO : zSt) (sD : zSt) : Option (Int32) :=
  (fX9_stopsSooner_84 sO sD (0 : Int32))
def fX9_stopsSooner (sO : zSt) (sD : zSt) (x1 : Int32) (x2 : Int32) (x3 : Int32) : Option (Int32) :=
  ((fX1_cell sD x1 (3 : Int32)).bind (fun o6 =>
    ((fX1_cell sD x2 x3).bind (fun o15 =>
    (zlet (o6 * (-o15)) (fun v20 =>
    ((fX1_cell sD x2 (3 : Int32)).bind (fun o28 =>
    ((fX1_cell sD x1 x3).bind (fun o37 =>
    (zlet (o28 * (-o37)) (fun v42 =>
    (if v20 < v42 then
    (fX9_stopsSooner_79 sO sD)
  else
    (if v20 = v42 then
      ((fX1_insideOf sD x1).bind (fun o65 =>
        ((fX1_insideOf sD x2).bind (fun o73 =>
        (if o73 ≤ o65 then
        (fX9_stopsSooner_83 sO sD)
      else
        (fX9_stopsSooner_79 sO sD))))))
    else
      (fX9_stopsSooner_83 sO sD)))))))))))))))
theorem bX9_stopsSooner_84 {C : zCtx} (X : zFx C cX9_stopsSooner 8 RX9 rmX9_stopsSooner (some .boolean)) {aO : Nat → Nat} {aP : Nat → Nat} {aS : Nat → Nat} {aD : Nat → Nat} {aQ : Nat → Nat} {sO : zSt} {sD : zSt} {y0 : Int32} {out : Int32} (hQ : zHi C out [] 0 0) (h : fX9_stopsSooner_84 sO sD y0 = some out) : zG C 8 [] 0 0 [wX9 (zcT C) aO (aP 0) (aS 0) (aD 0) (aQ 0) sO, wX1 (zcT C) aD sD] 84 [] [.int y0] := by
  unfold fX9_stopsSooner_84 at h
  obtain ⟨g84, h⟩ := zgd_of h
  cases h
  exact z_nret X hQ g84 dX9_stopsSooner_84 rfl [] rfl (by decide) (by decide)
theorem bX9_stopsSooner_79 {C : zCtx} (X : zFx C cX9_stopsSooner 8 RX9 rmX9_stopsSooner (some .boolean)) {aO : Nat → Nat} {aP : Nat → Nat} {aS : Nat → Nat} {aD : Nat → Nat} {aQ : Nat → Nat} {sO : zSt} {sD : zSt} {out : Int32} (hQ : zHi C out [] 0 0) (h : fX9_stopsSooner_79 sO sD = some out) : zG C 8 [] 0 0 [wX9 (zcT C) aO (aP 0) (aS 0) (aD 0) (aQ 0) sO, wX1 (zcT C) aD sD] 79 [] [] := by
  unfold fX9_stopsSooner_79 at h
  refine z_iconst (v := (1 : Int32)) X dX9_stopsSooner_79 rfl ?_
  refine z_goto (tgt := 84) X dX9_stopsSooner_80 (by decide) ?_
  exact z_at (pc2 := 84) (lv2 := []) (st2 := [.int (1 : Int32)]) (ws2 := [wX9 (zcT C) aO (aP 0) (aS 0) (aD 0) (aQ 0) sO, wX1 (zcT C) aD sD]) rfl rfl rfl [] rfl (bX9_stopsSooner_84 X hQ  h)
theorem bX9_stopsSooner_83 {C : zCtx} (X : zFx C cX9_stopsSooner 8 RX9 rmX9_stopsSooner (some .boolean)) {aO : Nat → Nat} {aP : Nat → Nat} {aS : Nat → Nat} {aD : Nat → Nat} {aQ : Nat → Nat} {sO : zSt} {sD : zSt} {out : Int32} (hQ : zHi C out [] 0 0) (h : fX9_stopsSooner_83 sO sD = some out) : zG C 8 [] 0 0 [wX9 (zcT C) aO (aP 0) (aS 0) (aD 0) (aQ 0) sO, wX1 (zcT C) aD sD] 83 [] [] := by
  unfold fX9_stopsSooner_83 at h
  refine z_iconst (v := (0 : Int32)) X dX9_stopsSooner_83 rfl ?_
  exact z_at (pc2 := 84) (lv2 := []) (st2 := [.int (0 : Int32)]) (ws2 := [wX9 (zcT C) aO (aP 0) (aS 0) (aD 0) (aQ 0) sO, wX1 (zcT C) aD sD]) rfl rfl rfl [] rfl (bX9_stopsSooner_84 X hQ  h)
theorem bX9_stopsSooner_0 {C : zCtx} (X : zFx C cX9_stopsSooner 8 RX9 rmX9_stopsSooner (some .boolean)) {aO : Nat → Nat} {aP : Nat → Nat} {aS : Nat → Nat} {aD : Nat → Nat} {aQ : Nat → Nat} {sO : zSt} {sD : zSt} {x1 : Int32} {x2 : Int32} {x3 : Int32} {out : Int32} (hQ : zHi C out [] 0 0) (h : fX9_stopsSooner sO sD x1 x2 x3 = some out) : zG C 8 [] 0 0 [wX9 (zcT C) aO (aP 0) (aS 0) (aD 0) (aQ 0) sO, wX1 (zcT C) aD sD] 0 [(0, .ref (aO 0)), (1, .int x1), (2, .int x2), (3, .int x3)] [] := by
  unfold fX9_stopsSooner at h
  refine z_aload_n X dX9_stopsSooner_0 0 rfl ?_
  refine z_get (v := .ref (aD 0)) X 0 0 10 2 ziX9 rfl (by decide) zw241 rfl dX9_stopsSooner_1 rfl rfl rfl ?_
  refine z_iload_n X dX9_stopsSooner_4 1 rfl ?_
  refine z_iconst (v := (3 : Int32)) X dX9_stopsSooner_5 rfl ?_
  obtain ⟨o6, ho6, h⟩ := zbind_of h
  refine z_callVl (st := []) (ws2 := [wX9 (zcT C) aO (aP 0) (aS 0) (aD 0) (aQ 0) sO, wX1 (zcT C) aD sD]) X (metX1_cell (zcl C) (zcD C) (zcT C) aD ho6) zmX1_cell zw598 dX9_stopsSooner_6 1 0 2 rfl rfl rfl rfl [1] rfl rfl [] rfl (by decide) trivial rfl rfl rfl (Nat.le_of_ble_eq_true rfl) rfl rfl ⟨Nat.le_of_ble_eq_true rfl, Nat.le_of_ble_eq_true rfl⟩ ⟨Nat.le_of_ble_eq_true rfl, Nat.le_of_ble_eq_true rfl⟩ ?_
  refine z_aload_n X dX9_stopsSooner_9 0 rfl ?_
  refine z_get (v := .ref (aD 0)) X 0 0 10 2 ziX9 rfl (by decide) zw241 rfl dX9_stopsSooner_10 rfl rfl rfl ?_
  refine z_iload_n X dX9_stopsSooner_13 2 rfl ?_
  refine z_iload_n X dX9_stopsSooner_14 3 rfl ?_
  obtain ⟨o15, ho15, h⟩ := zbind_of h
  refine z_callVl (st := [.long o6]) (ws2 := [wX9 (zcT C) aO (aP 0) (aS 0) (aD 0) (aQ 0) sO, wX1 (zcT C) aD sD]) X (metX1_cell (zcl C) (zcD C) (zcT C) aD ho15) zmX1_cell zw598 dX9_stopsSooner_15 1 0 2 rfl rfl rfl rfl [1] rfl rfl [] rfl (by decide) trivial rfl rfl rfl (Nat.le_of_ble_eq_true rfl) rfl rfl ⟨Nat.le_of_ble_eq_true rfl, Nat.le_of_ble_eq_true rfl⟩ ⟨Nat.le_of_ble_eq_true rfl, Nat.le_of_ble_eq_true rfl⟩ ?_
  refine z_lneg X dX9_stopsSooner_18 ?_
  refine z_lmul X dX9_stopsSooner_19 ?_
  obtain ⟨v20, ev20, h⟩ := zlet_of h
  refine z_topl ev20 ?_
  refine z_lstore (lv2 := [(4, .long v20), (0, .ref (aO 0)), (1, .int x1), (2, .int x2), (3, .int x3)]) X dX9_stopsSooner_20 (by decide) rfl ?_
  refine z_aload_n X dX9_stopsSooner_22 1 rfl ?_
  refine z_get (v := .ref (aD 0)) X 0 0 10 2 ziX9 rfl (by decide) zw241 rfl dX9_stopsSooner_23 rfl rfl rfl ?_
  refine z_iload_n X dX9_stopsSooner_26 3 rfl ?_
  refine z_iconst (v := (3 : Int32)) X dX9_stopsSooner_27 rfl ?_
  obtain ⟨o28, ho28, h⟩ := zbind_of h
  refine z_callVl (st := []) (ws2 := [wX9 (zcT C) aO (aP 0) (aS 0) (aD 0) (aQ 0) sO, wX1 (zcT C) aD sD]) X (metX1_cell (zcl C) (zcD C) (zcT C) aD ho28) zmX1_cell zw598 dX9_stopsSooner_28 1 0 2 rfl rfl rfl rfl [1] rfl rfl [] rfl (by decide) trivial rfl rfl rfl (Nat.le_of_ble_eq_true rfl) rfl rfl ⟨Nat.le_of_ble_eq_true rfl, Nat.le_of_ble_eq_true rfl⟩ ⟨Nat.le_of_ble_eq_true rfl, Nat.le_of_ble_eq_true rfl⟩ ?_
  refine z_aload_n X dX9_stopsSooner_31 1 rfl ?_
  refine z_get (v := .ref (aD 0)) X 0 0 10 2 ziX9 rfl (by decide) zw241 rfl dX9_stopsSooner_32 rfl rfl rfl ?_
  refine z_iload_n X dX9_stopsSooner_35 2 rfl ?_
  refine z_iload_n X dX9_stopsSooner_36 4 rfl ?_
  obtain ⟨o37, ho37, h⟩ := zbind_of h
  refine z_callVl (st := [.long o28]) (ws2 := [wX9 (zcT C) aO (aP 0) (aS 0) (aD 0) (aQ 0) sO, wX1 (zcT C) aD sD]) X (metX1_cell (zcl C) (zcD C) (zcT C) aD ho37) zmX1_cell zw598 dX9_stopsSooner_37 1 0 2 rfl rfl rfl rfl [1] rfl rfl [] rfl (by decide) trivial rfl rfl rfl (Nat.le_of_ble_eq_true rfl) rfl rfl ⟨Nat.le_of_ble_eq_true rfl, Nat.le_of_ble_eq_true rfl⟩ ⟨Nat.le_of_ble_eq_true rfl, Nat.le_of_ble_eq_true rfl⟩ ?_
  refine z_lneg X dX9_stopsSooner_40 ?_
  refine z_lmul X dX9_stopsSooner_41 ?_
  obtain ⟨v42, ev42, h⟩ := zlet_of h
  refine z_topl ev42 ?_
  refine z_lstore (lv2 := [(6, .long v42), (4, .long v20), (0, .ref (aO 0)), (1, .int x1), (2, .int x2), (3, .int x3)]) X dX9_stopsSooner_42 (by decide) rfl ?_
  refine z_lload X dX9_stopsSooner_44 1 rfl ?_
  refine z_lload X dX9_stopsSooner_46 0 rfl ?_
  refine z_lcmp_lt (tgt := 79) X dX9_stopsSooner_48 dX9_stopsSooner_49 (by decide) (fun c48 => ?_) (fun c48 => ?_)
  · replace h := zif_t h c48
    exact z_at (pc2 := 79) (lv2 := []) (st2 := []) (ws2 := [wX9 (zcT C) aO (aP 0) (aS 0) (aD 0) (aQ 0) sO, wX1 (zcT C) aD sD]) rfl rfl rfl [] rfl (bX9_stopsSooner_79 X hQ  h)
  · replace h := zif_f h c48
    refine z_lload X dX9_stopsSooner_52 1 rfl ?_
    refine z_lload X dX9_stopsSooner_54 0 rfl ?_
    refine z_lcmp_ne (tgt := 83) X dX9_stopsSooner_56 dX9_stopsSooner_57 (by decide) (fun c56 => ?_) (fun c56 => ?_)
    · replace h := zif_f h c56
      exact z_at (pc2 := 83) (lv2 := []) (st2 := []) (ws2 := [wX9 (zcT C) aO (aP 0) (aS 0) (aD 0) (aQ 0) sO, wX1 (zcT C) aD sD]) rfl rfl rfl [] rfl (bX9_stopsSooner_83 X hQ  h)
    · replace h := zif_t h c56
      refine z_aload_n X dX9_stopsSooner_60 2 rfl ?_
      refine z_get (v := .ref (aD 0)) X 0 0 10 2 ziX9 rfl (by decide) zw241 rfl dX9_stopsSooner_61 rfl rfl rfl ?_
      refine z_iload_n X dX9_stopsSooner_64 3 rfl ?_
      obtain ⟨o65, ho65, h⟩ := zbind_of h
      refine z_callVi (st := []) (ws2 := [wX9 (zcT C) aO (aP 0) (aS 0) (aD 0) (aQ 0) sO, wX1 (zcT C) aD sD]) X (metX1_insideOf (zcl C) (zcD C) (zcT C) aD ho65) zmX1_insideOf zw602 dX9_stopsSooner_65 1 0 2 rfl rfl rfl rfl [1] rfl rfl [] rfl (by decide) trivial rfl rfl rfl (Nat.le_of_ble_eq_true rfl) rfl rfl ⟨Nat.le_of_ble_eq_true rfl, Nat.le_of_ble_eq_true rfl⟩ ⟨Nat.le_of_ble_eq_true rfl, Nat.le_of_ble_eq_true rfl⟩ ?_
      refine z_aload_n X dX9_stopsSooner_68 2 rfl ?_
      refine z_get (v := .ref (aD 0)) X 0 0 10 2 ziX9 rfl (by decide) zw241 rfl dX9_stopsSooner_69 rfl rfl rfl ?_
      refine z_iload_n X dX9_stopsSooner_72 4 rfl ?_
      obtain ⟨o73, ho73, h⟩ := zbind_of h
      refine z_callVi (st := [.int o65]) (ws2 := [wX9 (zcT C) aO (aP 0) (aS 0) (aD 0) (aQ 0) sO, wX1 (zcT C) aD sD]) X (metX1_insideOf (zcl C) (zcD C) (zcT C) aD ho73) zmX1_insideOf zw602 dX9_stopsSooner_73 1 0 2 rfl rfl rfl rfl [1] rfl rfl [] rfl (by decide) trivial rfl rfl rfl (Nat.le_of_ble_eq_true rfl) rfl rfl ⟨Nat.le_of_ble_eq_true rfl, Nat.le_of_ble_eq_true rfl⟩ ⟨Nat.le_of_ble_eq_true rfl, Nat.le_of_ble_eq_true rfl⟩ ?_
      refine z_icmp_ge (tgt := 83) X dX9_stopsSooner_76 (by decide) (fun c76 => ?_) (fun c76 => ?_)
      · replace h := zif_t h c76
        exact z_at (pc2 := 83) (lv2 := []) (st2 := []) (ws2 := [wX9 (zcT C) aO (aP 0) (aS 0) (aD 0) (aQ 0) sO, wX1 (zcT C) aD sD]) rfl rfl rfl [] rfl (bX9_stopsSooner_83 X hQ  h)
      · replace h := zif_f h c76
        exact z_at (pc2 := 79) (lv2 := []) (st2 := []) (ws2 := [wX9 (zcT C) aO (aP 0) (aS 0) (aD 0) (aQ 0) sO, wX1 (zcT C) aD sD]) rfl rfl rfl [] rfl (bX9_stopsSooner_79 X hQ  h)
theorem metX9_stopsSooner (l : Launch) (D : va_G) (T : Nat → ClassId) (aO : Nat → Nat) (aP : Nat → Nat) (aS : Nat → Nat) (aD : Nat → Nat) (aQ : Nat → Nat) {sO : zSt} {sD : zSt} {x1 : Int32} {x2 : Int32} {x3 : Int32} {out : Int32} (hf : fX9_stopsSooner sO sD x1 x2 x3 = some out) (sz : Nat) : Met l yX9_stopsSooner (zws yX9_stopsSooner cX9_stopsSooner 8 (some .boolean)) rmX9_stopsSooner (zPc D T [.ref (aO 0), .int x1, .int x2, .int x3] [wX9 T aO (aP 0) (aS 0) (aD 0) (aQ 0) sO, wX1 T aD sD] sz) (zQi D out [] (zA [] sz)) 0 0 (zA [] sz) :=
  zMet (D := D) (T := T) (av := [.ref (aO 0), .int x1, .int x2, .int x3]) (ws := fun T => [wX9 T aO (aP 0) (aS 0) (aD 0) (aQ 0) sO, wX1 T aD sD]) (wm := fun T => []) (lv0 := [(0, .ref (aO 0)), (1, .int x1), (2, .int x2), (3, .int x3)]) [] (Qc := fun D T A => zQi D out [] A) (by decide +kernel) rfl (Nat.le_of_ble_eq_true rfl) rfl (fun C X hQ => bX9_stopsSooner_0 X hQ hf) sz
/-- private int firstStop(int); of Tableaufloor$Walk -/
abbrev rmX9_firstStop : Room := { frames := 2, cells := 0, slots := 0, locals := 50 }
def fX9_firstStop_46 (sO : zSt) (sD : zSt) (k4 : Int32 → Int32 → Int32 → Option (Int32)) (x1 : Int32) (x2 : Int32) (x3 : Int32) : Option (Int32) :=
  (zlet (x3 + 1) (fun v46 =>
    (k4 x1 x2 v46)))
def fX9_firstStop_44 (sO : zSt) (sD : zSt) (k4 : Int32 → Int32 → Int32 → Option (Int32)) (x1 : Int32) (x3 : Int32) : Option (Int32) :=
  (fX9_firstStop_46 sO sD k4 x1 x3 x3)
def fX9_firstStop_4 (sO : zSt) (sD : zSt) : Nat → Int32 → Int32 → Int32 → Option (Int32)
  | 0, _, _, _ => none
  | n + 1, x1, x2, x3 =>
    (if (zgi sD 3) ≤ x3 then
      some (x2)
    else
      ((fX1_cell sD x3 x1).bind (fun o21 =>
        (if (0 : Int64) ≤ o21 then
        (fX9_firstStop_46 sO sD (fX9_firstStop_4 sO sD n) x1 x2 x3)
      else
        (if x2 = (-1 : Int32) then
          (fX9_firstStop_44 sO sD (fX9_firstStop_4 sO sD n) x1 x3)
        else
          ((fX9_stopsSooner sO sD x3 x2 x1).bind (fun o38 =>
            (if o38 = 0 then
            (fX9_firstStop_46 sO sD (fX9_firstStop_4 sO sD n) x1 x2 x3)
          else
            (fX9_firstStop_44 sO sD (fX9_firstStop_4 sO sD n) x1 x3)))))))))
def fX9_firstStop (sO : zSt) (sD : zSt) (x1 : Int32) : Option (Int32) :=
  (fX9_firstStop_4 sO sD 6000 x1 (-1 : Int32) (0 : Int32))
theorem bX9_firstStop_46 {C : zCtx} (X : zFx C cX9_firstStop 4 RX9 rmX9_firstStop (some .int)) {aO : Nat → Nat} {aP : Nat → Nat} {aS : Nat → Nat} {aD : Nat → Nat} {aQ : Nat → Nat} {sO : zSt} {sD : zSt} {k4 : Int32 → Int32 → Int32 → Option (Int32)} {x1 : Int32} {x2 : Int32} {x3 : Int32} {out : Int32} (hQ : zHi C out [] 0 0) (hk4 : ∀ (x1 : Int32) (x2 : Int32) (x3 : Int32), k4 x1 x2 x3 = some out → zG C 4 [] 0 0 [wX9 (zcT C) aO (aP 0) (aS 0) (aD 0) (aQ 0) sO, wX1 (zcT C) aD sD] 4 [(0, .ref (aO 0)), (1, .int x1), (2, .int x2), (3, .int x3)] []) (h : fX9_firstStop_46 sO sD k4 x1 x2 x3 = some out) : zG C 4 [] 0 0 [wX9 (zcT C) aO (aP 0) (aS 0) (aD 0) (aQ 0) sO, wX1 (zcT C) aD sD] 46 [(0, .ref (aO 0)), (1, .int x1), (2, .int x2), (3, .int x3)] [] := by
  unfold fX9_firstStop_46 at h
  obtain ⟨v46, ev46, h⟩ := zlet_of h
  refine z_iinc (v := v46) (lv2 := [(3, .int v46), (0, .ref (aO 0)), (1, .int x1), (2, .int x2)]) X dX9_firstStop_46 (k := 3) rfl (by rw [ev46]; rfl) (by decide) rfl ?_
  refine z_goto (tgt := 4) X dX9_firstStop_49 (by decide) ?_
  exact z_at (pc2 := 4) (lv2 := [(0, .ref (aO 0)), (1, .int x1), (2, .int x2), (3, .int v46)]) (st2 := []) (ws2 := [wX9 (zcT C) aO (aP 0) (aS 0) (aD 0) (aQ 0) sO, wX1 (zcT C) aD sD]) rfl rfl rfl [1, 2, 3, 0] rfl (hk4 x1 x2 v46 h)
theorem bX9_firstStop_44 {C : zCtx} (X : zFx C cX9_firstStop 4 RX9 rmX9_firstStop (some .int)) {aO : Nat → Nat} {aP : Nat → Nat} {aS : Nat → Nat} {aD : Nat → Nat} {aQ : Nat → Nat} {sO : zSt} {sD : zSt} {k4 : Int32 → Int32 → Int32 → Option (Int32)} {x1 : Int32} {x3 : Int32} {out : Int32} (hQ : zHi C out [] 0 0) (hk4 : ∀ (x1 : Int32) (x2 : Int32) (x3 : Int32), k4 x1 x2 x3 = some out → zG C 4 [] 0 0 [wX9 (zcT C) aO (aP 0) (aS 0) (aD 0) (aQ 0) sO, wX1 (zcT C) aD sD] 4 [(0, .ref (aO 0)), (1, .int x1), (2, .int x2), (3, .int x3)] []) (h : fX9_firstStop_44 sO sD k4 x1 x3 = some out) : zG C 4 [] 0 0 [wX9 (zcT C) aO (aP 0) (aS 0) (aD 0) (aQ 0) sO, wX1 (zcT C) aD sD] 44 [(0, .ref (aO 0)), (1, .int x1), (3, .int x3)] [] := by
  unfold fX9_firstStop_44 at h
  refine z_iload_n X dX9_firstStop_44 2 rfl ?_
  refine z_istore_n (lv2 := [(2, .int x3), (0, .ref (aO 0)), (1, .int x1), (3, .int x3)]) X dX9_firstStop_45 rfl (by decide) rfl ?_
  exact z_at (pc2 := 46) (lv2 := [(0, .ref (aO 0)), (1, .int x1), (2, .int x3), (3, .int x3)]) (st2 := []) (ws2 := [wX9 (zcT C) aO (aP 0) (aS 0) (aD 0) (aQ 0) sO, wX1 (zcT C) aD sD]) rfl rfl rfl [1, 2, 0, 3] rfl (bX9_firstStop_46 X hQ hk4 h)
theorem bX9_firstStop_4 {C : zCtx} (X : zFx C cX9_firstStop 4 RX9 rmX9_firstStop (some .int)) {aO : Nat → Nat} {aP : Nat → Nat} {aS : Nat → Nat} {aD : Nat → Nat} {aQ : Nat → Nat} {sO : zSt} {sD : zSt} {out : Int32} (hQ : zHi C out [] 0 0) : ∀ (n : Nat) (x1 : Int32) (x2 : Int32) (x3 : Int32), fX9_firstStop_4 sO sD n x1 x2 x3 = some out → zG C 4 [] 0 0 [wX9 (zcT C) aO (aP 0) (aS 0) (aD 0) (aQ 0) sO, wX1 (zcT C) aD sD] 4 [(0, .ref (aO 0)), (1, .int x1), (2, .int x2), (3, .int x3)] [] := by
  intro n
  induction n with
  | zero =>
    intro x1 x2 x3 h
    rw [fX9_firstStop_4] at h
    exact zno h
  | succ n ih =>
    intro x1 x2 x3 h
    rw [fX9_firstStop_4] at h
    refine z_iload_n X dX9_firstStop_4 3 rfl ?_
    refine z_aload_n X dX9_firstStop_5 0 rfl ?_
    refine z_get (v := .ref (aD 0)) X 0 0 10 2 ziX9 rfl (by decide) zw241 rfl dX9_firstStop_6 rfl rfl rfl ?_
    refine z_getN (v := .int (zgi sD 3)) X 1 0 2 3 ziX1 rfl (by decide) zw196 rfl dX9_firstStop_9 rfl rfl rfl ?_
    refine z_icmp_ge (tgt := 52) X dX9_firstStop_12 (by decide) (fun c12 => ?_) (fun c12 => ?_)
    · replace h := zif_t h c12
      refine z_iload_n X dX9_firstStop_52 2 rfl ?_
      cases h
      exact z_iret X hQ dX9_firstStop_53 rfl [] rfl (by decide) (by decide)
    · replace h := zif_f h c12
      refine z_aload_n X dX9_firstStop_15 0 rfl ?_
      refine z_get (v := .ref (aD 0)) X 0 0 10 2 ziX9 rfl (by decide) zw241 rfl dX9_firstStop_16 rfl rfl rfl ?_
      refine z_iload_n X dX9_firstStop_19 3 rfl ?_
      refine z_iload_n X dX9_firstStop_20 1 rfl ?_
      obtain ⟨o21, ho21, h⟩ := zbind_of h
      refine z_callVl (st := []) (ws2 := [wX9 (zcT C) aO (aP 0) (aS 0) (aD 0) (aQ 0) sO, wX1 (zcT C) aD sD]) X (metX1_cell (zcl C) (zcD C) (zcT C) aD ho21) zmX1_cell zw598 dX9_firstStop_21 1 0 2 rfl rfl rfl rfl [1] rfl rfl [] rfl (by decide) trivial rfl rfl rfl (Nat.le_of_ble_eq_true rfl) rfl rfl ⟨Nat.le_of_ble_eq_true rfl, Nat.le_of_ble_eq_true rfl⟩ ⟨Nat.le_of_ble_eq_true rfl, Nat.le_of_ble_eq_true rfl⟩ ?_
      refine z_lconst (v := (0 : Int64)) X dX9_firstStop_24 rfl ?_
      refine z_lcmp_ge (tgt := 46) X dX9_firstStop_25 dX9_firstStop_26 (by decide) (fun c25 => ?_) (fun c25 => ?_)
      · replace h := zif_t h c25
        exact z_at (pc2 := 46) (lv2 := [(0, .ref (aO 0)), (1, .int x1), (2, .int x2), (3, .int x3)]) (st2 := []) (ws2 := [wX9 (zcT C) aO (aP 0) (aS 0) (aD 0) (aQ 0) sO, wX1 (zcT C) aD sD]) rfl rfl rfl [0, 1, 2, 3] rfl (bX9_firstStop_46 X hQ ih h)
      · replace h := zif_f h c25
        refine z_iload_n X dX9_firstStop_29 2 rfl ?_
        refine z_iconst (v := (-1 : Int32)) X dX9_firstStop_30 rfl ?_
        refine z_icmp_eq (tgt := 44) X dX9_firstStop_31 (by decide) (fun c31 => ?_) (fun c31 => ?_)
        · replace h := zif_t h c31
          exact z_at (pc2 := 44) (lv2 := [(0, .ref (aO 0)), (1, .int x1), (3, .int x3)]) (st2 := []) (ws2 := [wX9 (zcT C) aO (aP 0) (aS 0) (aD 0) (aQ 0) sO, wX1 (zcT C) aD sD]) rfl rfl rfl [0, 1, 3] rfl (bX9_firstStop_44 X hQ ih h)
        · replace h := zif_f h c31
          refine z_aload_n X dX9_firstStop_34 0 rfl ?_
          refine z_iload_n X dX9_firstStop_35 3 rfl ?_
          refine z_iload_n X dX9_firstStop_36 2 rfl ?_
          refine z_iload_n X dX9_firstStop_37 1 rfl ?_
          obtain ⟨o38, ho38, h⟩ := zbind_of h
          refine z_callVi (st := []) (ws2 := [wX9 (zcT C) aO (aP 0) (aS 0) (aD 0) (aQ 0) sO, wX1 (zcT C) aD sD]) X (metX9_stopsSooner (zcl C) (zcD C) (zcT C) aO aP aS aD aQ ho38) zmX9_stopsSooner zw636 dX9_firstStop_38 0 0 10 rfl rfl rfl rfl [0, 1] rfl rfl [] rfl (by decide) trivial rfl rfl rfl (Nat.le_of_ble_eq_true rfl) rfl rfl ⟨Nat.le_of_ble_eq_true rfl, Nat.le_of_ble_eq_true rfl⟩ ⟨Nat.le_of_ble_eq_true rfl, Nat.le_of_ble_eq_true rfl⟩ ?_
          refine z_if_eq (tgt := 46) X dX9_firstStop_41 (by decide) (fun c41 => ?_) (fun c41 => ?_)
          · replace h := zif_t h c41
            exact z_at (pc2 := 46) (lv2 := [(0, .ref (aO 0)), (1, .int x1), (2, .int x2), (3, .int x3)]) (st2 := []) (ws2 := [wX9 (zcT C) aO (aP 0) (aS 0) (aD 0) (aQ 0) sO, wX1 (zcT C) aD sD]) rfl rfl rfl [0, 1, 2, 3] rfl (bX9_firstStop_46 X hQ ih h)
          · replace h := zif_f h c41
            exact z_at (pc2 := 44) (lv2 := [(0, .ref (aO 0)), (1, .int x1), (3, .int x3)]) (st2 := []) (ws2 := [wX9 (zcT C) aO (aP 0) (aS 0) (aD 0) (aQ 0) sO, wX1 (zcT C) aD sD]) rfl rfl rfl [0, 1, 3] rfl (bX9_firstStop_44 X hQ ih h)
theorem bX9_firstStop_0 {C : zCtx} (X : zFx C cX9_firstStop 4 RX9 rmX9_firstStop (some .int)) {aO : Nat → Nat} {aP : Nat → Nat} {aS : Nat → Nat} {aD : Nat → Nat} {aQ : Nat → Nat} {sO : zSt} {sD : zSt} {x1 : Int32} {out : Int32} (hQ : zHi C out [] 0 0) (h : fX9_firstStop sO sD x1 = some out) : zG C 4 [] 0 0 [wX9 (zcT C) aO (aP 0) (aS 0) (aD 0) (aQ 0) sO, wX1 (zcT C) aD sD] 0 [(0, .ref (aO 0)), (1, .int x1)] [] := by
  unfold fX9_firstStop at h
  refine z_iconst (v := (-1 : Int32)) X dX9_firstStop_0 rfl ?_
  refine z_istore_n (lv2 := [(2, .int (-1 : Int32)), (0, .ref (aO 0)), (1, .int x1)]) X dX9_firstStop_1 rfl (by decide) rfl ?_
  refine z_iconst (v := (0 : Int32)) X dX9_firstStop_2 rfl ?_
  refine z_istore_n (lv2 := [(3, .int (0 : Int32)), (2, .int (-1 : Int32)), (0, .ref (aO 0)), (1, .int x1)]) X dX9_firstStop_3 rfl (by decide) rfl ?_
  exact z_at (pc2 := 4) (lv2 := [(0, .ref (aO 0)), (1, .int x1), (2, .int (-1 : Int32)), (3, .int (0 : Int32))]) (st2 := []) (ws2 := [wX9 (zcT C) aO (aP 0) (aS 0) (aD 0) (aQ 0) sO, wX1 (zcT C) aD sD]) rfl rfl rfl [2, 3, 1, 0] rfl (bX9_firstStop_4 X hQ  6000 x1 (-1 : Int32) (0 : Int32) h)
theorem metX9_firstStop (l : Launch) (D : va_G) (T : Nat → ClassId) (aO : Nat → Nat) (aP : Nat → Nat) (aS : Nat → Nat) (aD : Nat → Nat) (aQ : Nat → Nat) {sO : zSt} {sD : zSt} {x1 : Int32} {out : Int32} (hf : fX9_firstStop sO sD x1 = some out) (sz : Nat) : Met l yX9_firstStop (zws yX9_firstStop cX9_firstStop 4 (some .int)) rmX9_firstStop (zPc D T [.ref (aO 0), .int x1] [wX9 T aO (aP 0) (aS 0) (aD 0) (aQ 0) sO, wX1 T aD sD] sz) (zQi D out [] (zA [] sz)) 0 0 (zA [] sz) :=
  zMet (D := D) (T := T) (av := [.ref (aO 0), .int x1]) (ws := fun T => [wX9 T aO (aP 0) (aS 0) (aD 0) (aQ 0) sO, wX1 T aD sD]) (wm := fun T => []) (lv0 := [(0, .ref (aO 0)), (1, .int x1)]) [] (Qc := fun D T A => zQi D out [] A) (by decide +kernel) rfl (Nat.le_of_ble_eq_true rfl) rfl (fun C X hQ => bX9_firstStop_0 X hQ hf) sz
/-- private boolean climbs(int); of Tableaufloor$Walk -/
abbrev rmX9_climbs : Room := { frames := 3, cells := 0, slots := 0, locals := 82 }
def fX9_climbs_2 : Nat → zSt → zSt → Int32 → Int32 → Option (Int32 × zSt × zSt)
  | 0, _, _, _, _ => none
  | n + 1, sO, sD, x1, x2 =>
    (if (100000 : Int32) ≤ x2 then
      some ((0 : Int32), sO, sD)
    else
      ((fX9_firstGrowing sO sD x1).bind (fun o10 =>
        (if o10 = (-1 : Int32) then
        ((fX9_hold sO sD x1).bind (fun o21 =>
          some ((1 : Int32), o21, sD)))
      else
        ((fX9_firstStop sO sD o10).bind (fun o28 =>
          (if o28 = (-1 : Int32) then
          (zlet (zsi sO 7 o10) (fun sO41 =>
            some ((0 : Int32), sO41, sD)))
        else
          ((fX1_swap sD o28 o10).bind (fun o53 =>
            (zlet (x2 + 1) (fun v56 =>
            (fX9_climbs_2 n sO o53 x1 v56))))))))))))
def fX9_climbs (sO : zSt) (sD : zSt) (x1 : Int32) : Option (Int32 × zSt × zSt) :=
  (fX9_climbs_2 6000 sO sD x1 (0 : Int32))
theorem bX9_climbs_2 {C : zCtx} (X : zFx C cX9_climbs 5 RX9 rmX9_climbs (some .boolean)) {aO : Nat → Nat} {aP : Nat → Nat} {aS : Nat → Nat} {aD : Nat → Nat} {aQ : Nat → Nat} {out : Int32 × zSt × zSt} (hQ : zHi C out.1 [wX9 (zcT C) aO (aP 0) (aS 0) (aD 0) (aQ 0) out.2.1, wX1 (zcT C) aD out.2.2] 0 0) : ∀ (n : Nat) (sO : zSt) (sD : zSt) (x1 : Int32) (x2 : Int32), fX9_climbs_2 n sO sD x1 x2 = some out → zG C 5 [0, 1] 0 0 [wX9 (zcT C) aO (aP 0) (aS 0) (aD 0) (aQ 0) sO, wX1 (zcT C) aD sD] 2 [(0, .ref (aO 0)), (1, .int x1), (2, .int x2)] [] := by
  intro n
  induction n with
  | zero =>
    intro sO sD x1 x2 h
    rw [fX9_climbs_2] at h
    exact zno h
  | succ n ih =>
    intro sO sD x1 x2 h
    rw [fX9_climbs_2] at h
    refine z_iload_n X dX9_climbs_2 2 rfl ?_
    refine z_ldc (v := (100000 : Int32)) X zw593 dX9_climbs_3 ?_
    refine z_icmp_ge (tgt := 62) X dX9_climbs_5 (by decide) (fun c5 => ?_) (fun c5 => ?_)
    · replace h := zif_t h c5
      refine z_iconst (v := (0 : Int32)) X dX9_climbs_62 rfl ?_
      cases h
      exact z_nret X hQ rfl dX9_climbs_63 rfl [0, 1] rfl (by decide) (by decide)
    · replace h := zif_f h c5
      refine z_aload_n X dX9_climbs_8 0 rfl ?_
      refine z_iload_n X dX9_climbs_9 1 rfl ?_
      obtain ⟨o10, ho10, h⟩ := zbind_of h
      refine z_callVi (st := []) (ws2 := [wX9 (zcT C) aO (aP 0) (aS 0) (aD 0) (aQ 0) sO, wX1 (zcT C) aD sD]) X (metX9_firstGrowing (zcl C) (zcD C) (zcT C) aO aP aS aD aQ ho10) zmX9_firstGrowing zw606 dX9_climbs_10 0 0 10 rfl rfl rfl rfl [0, 1] rfl rfl [] rfl (by decide) trivial rfl rfl rfl (Nat.le_of_ble_eq_true rfl) rfl rfl ⟨Nat.le_of_ble_eq_true rfl, Nat.le_of_ble_eq_true rfl⟩ ⟨Nat.le_of_ble_eq_true rfl, Nat.le_of_ble_eq_true rfl⟩ ?_
      refine z_istore_n (lv2 := [(3, .int o10), (0, .ref (aO 0)), (1, .int x1), (2, .int x2)]) X dX9_climbs_13 rfl (by decide) rfl ?_
      refine z_iload_n X dX9_climbs_14 0 rfl ?_
      refine z_iconst (v := (-1 : Int32)) X dX9_climbs_15 rfl ?_
      refine z_icmp_ne (tgt := 26) X dX9_climbs_16 (by decide) (fun c16 => ?_) (fun c16 => ?_)
      · replace h := zif_f h c16
        refine z_aload_n X dX9_climbs_26 1 rfl ?_
        refine z_iload_n X dX9_climbs_27 0 rfl ?_
        obtain ⟨o28, ho28, h⟩ := zbind_of h
        refine z_callVi (st := []) (ws2 := [wX9 (zcT C) aO (aP 0) (aS 0) (aD 0) (aQ 0) sO, wX1 (zcT C) aD sD]) X (metX9_firstStop (zcl C) (zcD C) (zcT C) aO aP aS aD aQ ho28) zmX9_firstStop zw632 dX9_climbs_28 0 0 10 rfl rfl rfl rfl [0, 1] rfl rfl [] rfl (by decide) trivial rfl rfl rfl (Nat.le_of_ble_eq_true rfl) rfl rfl ⟨Nat.le_of_ble_eq_true rfl, Nat.le_of_ble_eq_true rfl⟩ ⟨Nat.le_of_ble_eq_true rfl, Nat.le_of_ble_eq_true rfl⟩ ?_
        refine z_istore (lv2 := [(4, .int o28), (3, .int o10), (0, .ref (aO 0)), (1, .int x1), (2, .int x2)]) X dX9_climbs_31 (by decide) rfl ?_
        refine z_iload X dX9_climbs_33 0 rfl ?_
        refine z_iconst (v := (-1 : Int32)) X dX9_climbs_35 rfl ?_
        refine z_icmp_ne (tgt := 46) X dX9_climbs_36 (by decide) (fun c36 => ?_) (fun c36 => ?_)
        · replace h := zif_f h c36
          refine z_aload_n X dX9_climbs_46 2 rfl ?_
          refine z_get (v := .ref (aD 0)) X 0 0 10 2 ziX9 rfl (by decide) zw241 rfl dX9_climbs_47 rfl rfl rfl ?_
          refine z_iload X dX9_climbs_50 0 rfl ?_
          refine z_iload_n X dX9_climbs_52 1 rfl ?_
          obtain ⟨o53, ho53, h⟩ := zbind_of h
          refine z_callVv (st := []) (ws2 := [wX9 (zcT C) aO (aP 0) (aS 0) (aD 0) (aQ 0) sO, wX1 (zcT C) aD o53]) X (metX1_swap (zcl C) (zcD C) (zcT C) aD ho53) zmX1_swap zw614 dX9_climbs_53 1 0 2 rfl rfl rfl rfl [1] rfl rfl [1] rfl (by decide) ⟨zsX1 , trivial⟩ rfl rfl rfl (Nat.le_of_ble_eq_true rfl) rfl rfl ⟨Nat.le_of_ble_eq_true rfl, Nat.le_of_ble_eq_true rfl⟩ ⟨Nat.le_of_ble_eq_true rfl, Nat.le_of_ble_eq_true rfl⟩ ?_
          obtain ⟨v56, ev56, h⟩ := zlet_of h
          refine z_iinc (v := v56) (lv2 := [(2, .int v56), (4, .int o28), (3, .int o10), (0, .ref (aO 0)), (1, .int x1)]) X dX9_climbs_56 (k := 4) rfl (by rw [ev56]; rfl) (by decide) rfl ?_
          refine z_goto (tgt := 2) X dX9_climbs_59 (by decide) ?_
          exact z_at (pc2 := 2) (lv2 := [(0, .ref (aO 0)), (1, .int x1), (2, .int v56)]) (st2 := []) (ws2 := [wX9 (zcT C) aO (aP 0) (aS 0) (aD 0) (aQ 0) sO, wX1 (zcT C) aD o53]) rfl rfl rfl [3, 4, 0] rfl (ih sO o53 x1 v56 h)
        · replace h := zif_t h c36
          refine z_aload_n X dX9_climbs_39 2 rfl ?_
          refine z_iload_n X dX9_climbs_40 1 rfl ?_
          obtain ⟨sO41, esO41, h⟩ := zlet_of h
          refine z_put (ws2 := [wX9 (zcT C) aO (aP 0) (aS 0) (aD 0) (aQ 0) sO41, wX1 (zcT C) aD sD]) X 0 0 10 7 ziX9 rfl tyX9 tyX9_ok nmX9 (by decide) zw253 rfl rfl (ty := .int) (by decide +kernel) rfl rfl (by show 7 < 10; decide) dX9_climbs_41 rfl rfl (by decide) (w2 := wX9 (zcT C) aO (aP 0) (aS 0) (aD 0) (aQ 0) sO41) (by rw [esO41]; rfl) rfl ?_
          refine z_iconst (v := (0 : Int32)) X dX9_climbs_44 rfl ?_
          cases h
          exact z_nret X hQ rfl dX9_climbs_45 rfl [0, 1] rfl (by decide) (by decide)
      · replace h := zif_t h c16
        refine z_aload_n X dX9_climbs_19 1 rfl ?_
        refine z_iload_n X dX9_climbs_20 2 rfl ?_
        obtain ⟨o21, ho21, h⟩ := zbind_of h
        refine z_callVv (st := []) (ws2 := [wX9 (zcT C) aO (aP 0) (aS 0) (aD 0) (aQ 0) o21, wX1 (zcT C) aD sD]) X (metX9_hold (zcl C) (zcD C) (zcT C) aO aP aS aD aQ ho21) zmX9_hold zw628 dX9_climbs_21 0 0 10 rfl rfl rfl rfl [0, 1] rfl rfl [0] rfl (by decide) ⟨zsX9 , trivial⟩ rfl rfl rfl (Nat.le_of_ble_eq_true rfl) rfl rfl ⟨Nat.le_of_ble_eq_true rfl, Nat.le_of_ble_eq_true rfl⟩ ⟨Nat.le_of_ble_eq_true rfl, Nat.le_of_ble_eq_true rfl⟩ ?_
        refine z_iconst (v := (1 : Int32)) X dX9_climbs_24 rfl ?_
        cases h
        exact z_nret X hQ rfl dX9_climbs_25 rfl [0, 1] rfl (by decide) (by decide)
theorem bX9_climbs_0 {C : zCtx} (X : zFx C cX9_climbs 5 RX9 rmX9_climbs (some .boolean)) {aO : Nat → Nat} {aP : Nat → Nat} {aS : Nat → Nat} {aD : Nat → Nat} {aQ : Nat → Nat} {sO : zSt} {sD : zSt} {x1 : Int32} {out : Int32 × zSt × zSt} (hQ : zHi C out.1 [wX9 (zcT C) aO (aP 0) (aS 0) (aD 0) (aQ 0) out.2.1, wX1 (zcT C) aD out.2.2] 0 0) (h : fX9_climbs sO sD x1 = some out) : zG C 5 [0, 1] 0 0 [wX9 (zcT C) aO (aP 0) (aS 0) (aD 0) (aQ 0) sO, wX1 (zcT C) aD sD] 0 [(0, .ref (aO 0)), (1, .int x1)] [] := by
  unfold fX9_climbs at h
  refine z_iconst (v := (0 : Int32)) X dX9_climbs_0 rfl ?_
  refine z_istore_n (lv2 := [(2, .int (0 : Int32)), (0, .ref (aO 0)), (1, .int x1)]) X dX9_climbs_1 rfl (by decide) rfl ?_
  exact z_at (pc2 := 2) (lv2 := [(0, .ref (aO 0)), (1, .int x1), (2, .int (0 : Int32))]) (st2 := []) (ws2 := [wX9 (zcT C) aO (aP 0) (aS 0) (aD 0) (aQ 0) sO, wX1 (zcT C) aD sD]) rfl rfl rfl [1, 2, 0] rfl (bX9_climbs_2 X hQ  6000 sO sD x1 (0 : Int32) h)
theorem metX9_climbs (l : Launch) (D : va_G) (T : Nat → ClassId) (aO : Nat → Nat) (aP : Nat → Nat) (aS : Nat → Nat) (aD : Nat → Nat) (aQ : Nat → Nat) {sO : zSt} {sD : zSt} {x1 : Int32} {out : Int32 × zSt × zSt} (hf : fX9_climbs sO sD x1 = some out) (sz : Nat) : Met l yX9_climbs (zws yX9_climbs cX9_climbs 5 (some .boolean)) rmX9_climbs (zPc D T [.ref (aO 0), .int x1] [wX9 T aO (aP 0) (aS 0) (aD 0) (aQ 0) sO, wX1 T aD sD] sz) (zQi D out.1 [wX9 T aO (aP 0) (aS 0) (aD 0) (aQ 0) out.2.1, wX1 T aD out.2.2] (zA [wX9 T aO (aP 0) (aS 0) (aD 0) (aQ 0) sO, wX1 T aD sD] sz)) 0 0 (zA [wX9 T aO (aP 0) (aS 0) (aD 0) (aQ 0) sO, wX1 T aD sD] sz) :=
  zMet (D := D) (T := T) (av := [.ref (aO 0), .int x1]) (ws := fun T => [wX9 T aO (aP 0) (aS 0) (aD 0) (aQ 0) sO, wX1 T aD sD]) (wm := fun T => [wX9 T aO (aP 0) (aS 0) (aD 0) (aQ 0) sO, wX1 T aD sD]) (lv0 := [(0, .ref (aO 0)), (1, .int x1)]) [0, 1] (Qc := fun D T A => zQi D out.1 [wX9 T aO (aP 0) (aS 0) (aD 0) (aQ 0) out.2.1, wX1 T aD out.2.2] A) (by decide +kernel) rfl (Nat.le_of_ble_eq_true rfl) rfl (fun C X hQ => bX9_climbs_0 X hQ hf) sz
/-- private void stand(); of Tableaufloor$Walk -/
abbrev rmX9_stand : Room := { frames := 2, cells := 0, slots := 0, locals := 45 }
def fX9_stand_30 (sO : zSt) (sP : zSt) (sD : zSt) : Nat → zSt → Int32 → Option (zSt)
  | 0, _, _ => none
  | n + 1, sQ, x1 =>
    (if (3 : Int32) ≤ x1 then
      some (sQ)
    else
      ((fX5_leastOf sP x1).bind (fun o45 =>
        ((fX1_slackOf sD x1).bind (fun o62 =>
        ((fX4_putTop sQ x1 ((((o45).toInt64) * (zgl sD 4)) + o62)).bind (fun o66 =>
        (zlet (x1 + 1) (fun v69 =>
        (fX9_stand_30 sO sP sD n o66 v69))))))))))
def fX9_stand (sO : zSt) (sP : zSt) (sD : zSt) (sQ : zSt) : Option (zSt) :=
  (zlet (zsi sQ 2 (zgi sP 8)) (fun sQ11 =>
    (zlet (zsl sQ11 1 (zgl sD 4)) (fun sQ25 =>
    (fX9_stand_30 sO sP sD 6000 sQ25 (0 : Int32))))))
theorem bX9_stand_30 {C : zCtx} (X : zFx C cX9_stand 2 RX9 rmX9_stand none) {aO : Nat → Nat} {aP : Nat → Nat} {aS : Nat → Nat} {aD : Nat → Nat} {aQ : Nat → Nat} {sO : zSt} {sP : zSt} {sD : zSt} {out : zSt} (hQ : zHv C [wX4 (zcT C) aQ out] 0 0) : ∀ (n : Nat) (sQ : zSt) (x1 : Int32), fX9_stand_30 sO sP sD n sQ x1 = some out → zG C 2 [3] 0 0 [wX9 (zcT C) aO (aP 0) (aS 0) (aD 0) (aQ 0) sO, wX5 (zcT C) aP sP, wX1 (zcT C) aD sD, wX4 (zcT C) aQ sQ] 30 [(0, .ref (aO 0)), (1, .int x1)] [] := by
  intro n
  induction n with
  | zero =>
    intro sQ x1 h
    rw [fX9_stand_30] at h
    exact zno h
  | succ n ih =>
    intro sQ x1 h
    rw [fX9_stand_30] at h
    refine z_iload_n X dX9_stand_30 1 rfl ?_
    refine z_iconst (v := (3 : Int32)) X dX9_stand_31 rfl ?_
    refine z_icmp_ge (tgt := 75) X dX9_stand_32 (by decide) (fun c32 => ?_) (fun c32 => ?_)
    · replace h := zif_t h c32
      cases h
      exact z_vret X hQ dX9_stand_75 [3] rfl (by decide) (by decide)
    · replace h := zif_f h c32
      refine z_aload_n X dX9_stand_35 0 rfl ?_
      refine z_get (v := .ref (aQ 0)) X 0 0 10 3 ziX9 rfl (by decide) zw243 rfl dX9_stand_36 rfl rfl rfl ?_
      refine z_iload_n X dX9_stand_39 1 rfl ?_
      refine z_aload_n X dX9_stand_40 0 rfl ?_
      refine z_get (v := .ref (aP 0)) X 0 0 10 0 ziX9 rfl (by decide) zw237 rfl dX9_stand_41 rfl rfl rfl ?_
      refine z_iload_n X dX9_stand_44 1 rfl ?_
      obtain ⟨o45, ho45, h⟩ := zbind_of h
      refine z_callVi (st := [.int x1, .ref (aQ 0)]) (ws2 := [wX9 (zcT C) aO (aP 0) (aS 0) (aD 0) (aQ 0) sO, wX5 (zcT C) aP sP, wX1 (zcT C) aD sD, wX4 (zcT C) aQ sQ]) X (metX5_leastOf (zcl C) (zcD C) (zcT C) aP ho45) zmX5_leastOf zw644 dX9_stand_45 1 0 6 rfl rfl rfl rfl [1] rfl rfl [] rfl (by decide) trivial rfl rfl rfl (Nat.le_of_ble_eq_true rfl) rfl rfl ⟨Nat.le_of_ble_eq_true rfl, Nat.le_of_ble_eq_true rfl⟩ ⟨Nat.le_of_ble_eq_true rfl, Nat.le_of_ble_eq_true rfl⟩ ?_
      refine z_i2l X dX9_stand_48 ?_
      refine z_aload_n X dX9_stand_49 0 rfl ?_
      refine z_get (v := .ref (aD 0)) X 0 0 10 2 ziX9 rfl (by decide) zw241 rfl dX9_stand_50 rfl rfl rfl ?_
      refine z_getN (v := .long (zgl sD 4)) X 2 0 2 4 ziX1 rfl (by decide) zw199 rfl dX9_stand_53 rfl rfl rfl ?_
      refine z_lmul X dX9_stand_56 ?_
      refine z_aload_n X dX9_stand_57 0 rfl ?_
      refine z_get (v := .ref (aD 0)) X 0 0 10 2 ziX9 rfl (by decide) zw241 rfl dX9_stand_58 rfl rfl rfl ?_
      refine z_iload_n X dX9_stand_61 1 rfl ?_
      obtain ⟨o62, ho62, h⟩ := zbind_of h
      refine z_callVl (st := [.long (((o45).toInt64) * (zgl sD 4)), .int x1, .ref (aQ 0)]) (ws2 := [wX9 (zcT C) aO (aP 0) (aS 0) (aD 0) (aQ 0) sO, wX5 (zcT C) aP sP, wX1 (zcT C) aD sD, wX4 (zcT C) aQ sQ]) X (metX1_slackOf (zcl C) (zcD C) (zcT C) aD ho62) zmX1_slackOf zw645 dX9_stand_62 2 0 2 rfl rfl rfl rfl [2] rfl rfl [] rfl (by decide) trivial rfl rfl rfl (Nat.le_of_ble_eq_true rfl) rfl rfl ⟨Nat.le_of_ble_eq_true rfl, Nat.le_of_ble_eq_true rfl⟩ ⟨Nat.le_of_ble_eq_true rfl, Nat.le_of_ble_eq_true rfl⟩ ?_
      refine z_ladd X dX9_stand_65 ?_
      obtain ⟨o66, ho66, h⟩ := zbind_of h
      refine z_callVv (st := []) (ws2 := [wX9 (zcT C) aO (aP 0) (aS 0) (aD 0) (aQ 0) sO, wX5 (zcT C) aP sP, wX1 (zcT C) aD sD, wX4 (zcT C) aQ o66]) X (metX4_putTop (zcl C) (zcD C) (zcT C) aQ ho66) zmX4_putTop zw653 dX9_stand_66 3 0 5 rfl rfl rfl rfl [3] rfl rfl [3] rfl (by decide) ⟨zsX4 , trivial⟩ rfl rfl rfl (Nat.le_of_ble_eq_true rfl) rfl rfl ⟨Nat.le_of_ble_eq_true rfl, Nat.le_of_ble_eq_true rfl⟩ ⟨Nat.le_of_ble_eq_true rfl, Nat.le_of_ble_eq_true rfl⟩ ?_
      obtain ⟨v69, ev69, h⟩ := zlet_of h
      refine z_iinc (v := v69) (lv2 := [(1, .int v69), (0, .ref (aO 0))]) X dX9_stand_69 (k := 1) rfl (by rw [ev69]; rfl) (by decide) rfl ?_
      refine z_goto (tgt := 30) X dX9_stand_72 (by decide) ?_
      exact z_at (pc2 := 30) (lv2 := [(0, .ref (aO 0)), (1, .int v69)]) (st2 := []) (ws2 := [wX9 (zcT C) aO (aP 0) (aS 0) (aD 0) (aQ 0) sO, wX5 (zcT C) aP sP, wX1 (zcT C) aD sD, wX4 (zcT C) aQ o66]) rfl rfl rfl [1, 0] rfl (ih o66 v69 h)
theorem bX9_stand_0 {C : zCtx} (X : zFx C cX9_stand 2 RX9 rmX9_stand none) {aO : Nat → Nat} {aP : Nat → Nat} {aS : Nat → Nat} {aD : Nat → Nat} {aQ : Nat → Nat} {sO : zSt} {sP : zSt} {sD : zSt} {sQ : zSt} {out : zSt} (hQ : zHv C [wX4 (zcT C) aQ out] 0 0) (h : fX9_stand sO sP sD sQ = some out) : zG C 2 [3] 0 0 [wX9 (zcT C) aO (aP 0) (aS 0) (aD 0) (aQ 0) sO, wX5 (zcT C) aP sP, wX1 (zcT C) aD sD, wX4 (zcT C) aQ sQ] 0 [(0, .ref (aO 0))] [] := by
  unfold fX9_stand at h
  refine z_aload_n X dX9_stand_0 0 rfl ?_
  refine z_get (v := .ref (aQ 0)) X 0 0 10 3 ziX9 rfl (by decide) zw243 rfl dX9_stand_1 rfl rfl rfl ?_
  refine z_aload_n X dX9_stand_4 0 rfl ?_
  refine z_get (v := .ref (aP 0)) X 0 0 10 0 ziX9 rfl (by decide) zw237 rfl dX9_stand_5 rfl rfl rfl ?_
  refine z_getN (v := .int (zgi sP 8)) X 1 0 6 8 ziX5 rfl (by decide) zw59 rfl dX9_stand_8 rfl rfl rfl ?_
  obtain ⟨sQ11, esQ11, h⟩ := zlet_of h
  refine z_putN (ws2 := [wX9 (zcT C) aO (aP 0) (aS 0) (aD 0) (aQ 0) sO, wX5 (zcT C) aP sP, wX1 (zcT C) aD sD, wX4 (zcT C) aQ sQ11]) X 3 0 5 2 ziX4 rfl tyX4 tyX4_ok nmX4 (by decide) zw228 rfl rfl (ty := .int) (by decide +kernel) rfl rfl (by show 2 < 3; decide) dX9_stand_11 rfl rfl (by decide) (w2 := wX4 (zcT C) aQ sQ11) (by rw [esQ11]; rfl) rfl ?_
  refine z_aload_n X dX9_stand_14 0 rfl ?_
  refine z_get (v := .ref (aQ 0)) X 0 0 10 3 ziX9 rfl (by decide) zw243 rfl dX9_stand_15 rfl rfl rfl ?_
  refine z_aload_n X dX9_stand_18 0 rfl ?_
  refine z_get (v := .ref (aD 0)) X 0 0 10 2 ziX9 rfl (by decide) zw241 rfl dX9_stand_19 rfl rfl rfl ?_
  refine z_getN (v := .long (zgl sD 4)) X 2 0 2 4 ziX1 rfl (by decide) zw199 rfl dX9_stand_22 rfl rfl rfl ?_
  obtain ⟨sQ25, esQ25, h⟩ := zlet_of h
  refine z_putN (ws2 := [wX9 (zcT C) aO (aP 0) (aS 0) (aD 0) (aQ 0) sO, wX5 (zcT C) aP sP, wX1 (zcT C) aD sD, wX4 (zcT C) aQ sQ25]) X 3 0 5 1 ziX4 rfl tyX4 tyX4_ok nmX4 (by decide) zw222 rfl rfl (ty := .long) (by decide +kernel) rfl rfl (by show 1 < 3; decide) dX9_stand_25 rfl rfl (by decide) (w2 := wX4 (zcT C) aQ sQ25) (by rw [esQ25]; rfl) rfl ?_
  refine z_iconst (v := (0 : Int32)) X dX9_stand_28 rfl ?_
  refine z_istore_n (lv2 := [(1, .int (0 : Int32)), (0, .ref (aO 0))]) X dX9_stand_29 rfl (by decide) rfl ?_
  exact z_at (pc2 := 30) (lv2 := [(0, .ref (aO 0)), (1, .int (0 : Int32))]) (st2 := []) (ws2 := [wX9 (zcT C) aO (aP 0) (aS 0) (aD 0) (aQ 0) sO, wX5 (zcT C) aP sP, wX1 (zcT C) aD sD, wX4 (zcT C) aQ sQ25]) rfl rfl rfl [1, 0] rfl (bX9_stand_30 X hQ  6000 sQ25 (0 : Int32) h)
theorem metX9_stand (l : Launch) (D : va_G) (T : Nat → ClassId) (aO : Nat → Nat) (aP : Nat → Nat) (aS : Nat → Nat) (aD : Nat → Nat) (aQ : Nat → Nat) {sO : zSt} {sP : zSt} {sD : zSt} {sQ : zSt} {out : zSt} (hf : fX9_stand sO sP sD sQ = some out) (sz : Nat) : Met l yX9_stand (zws yX9_stand cX9_stand 2 none) rmX9_stand (zPc D T [.ref (aO 0)] [wX9 T aO (aP 0) (aS 0) (aD 0) (aQ 0) sO, wX5 T aP sP, wX1 T aD sD, wX4 T aQ sQ] sz) (zQv D [wX4 T aQ out] (zA [wX4 T aQ sQ] sz)) 0 0 (zA [wX4 T aQ sQ] sz) :=
  zMet (D := D) (T := T) (av := [.ref (aO 0)]) (ws := fun T => [wX9 T aO (aP 0) (aS 0) (aD 0) (aQ 0) sO, wX5 T aP sP, wX1 T aD sD, wX4 T aQ sQ]) (wm := fun T => [wX4 T aQ sQ]) (lv0 := [(0, .ref (aO 0))]) [3] (Qc := fun D T A => zQv D [wX4 T aQ out] A) (by decide +kernel) rfl (Nat.le_of_ble_eq_true rfl) rfl (fun C X hQ => bX9_stand_0 X hQ hf) sz
/-- void findAll(); of Tableaufloor$Walk -/
abbrev rmX9_findAll : Room := { frames := 4, cells := 0, slots := 0, locals := 106 }
def fX9_findAll_75 (sP : zSt) : Nat → zSt → zSt → zSt → zSt → Int32 → Option (zSt × zSt × zSt × zSt)
  | 0, _, _, _, _, _ => none
  | n + 1, sO, sS, sD, sQ, x1 =>
    (if (zgi sP 8) ≤ x1 then
      ((fX9_stand sO sP sD sQ).bind (fun o102 =>
        some (sO, sS, sD, o102)))
    else
      ((fX1_goalOfLeast x1).bind (fun o88 =>
        ((fX9_climbs sO sD o88).bind (fun o91 =>
        (zlet (x1 + 1) (fun v95 =>
        (fX9_findAll_75 sP n o91.2.1 sS o91.2.2 sQ v95))))))))
def fX9_findAll_29 (sP : zSt) : Nat → zSt → zSt → zSt → zSt → Int32 → Option (zSt × zSt × zSt × zSt)
  | 0, _, _, _, _, _ => none
  | n + 1, sO, sS, sD, sQ, x1 =>
    (if (zgi sP 11) ≤ x1 then
      (fX9_findAll_75 sP 6000 sO sS sD sQ (0 : Int32))
    else
      ((fX1_goalOfAim x1).bind (fun o42 =>
        ((fX9_climbs sO sD o42).bind (fun o45 =>
        (if o45.1 = 0 then
        (zlet (zsi o45.2.1 5 (117 : Int32)) (fun sO54 =>
          (zlet (zsi sO54 6 x1) (fun sO59 =>
          ((fX9_stand sO59 sP o45.2.2 sQ).bind (fun o63 =>
          some (sO59, sS, o45.2.2, o63)))))))
      else
        (zlet (x1 + 1) (fun v67 =>
          (fX9_findAll_29 sP n o45.2.1 sS o45.2.2 sQ v67)))))))))
def fX9_findAll (sO : zSt) (sP : zSt) (sS : zSt) (sD : zSt) (sQ : zSt) : Option (zSt × zSt × zSt × zSt) :=
  (if (zgi sO 9) = 0 then
    (zlet (zsi sO 9 (1 : Int32)) (fun sO10 =>
      ((fX9_setOut sO10 sP sS sD (0 : Int32) (-1 : Int32)).bind (fun o16 =>
      ((fX9_mends o16.1 o16.2.2).bind (fun o20 =>
      (if o20.1 = 0 then
      some (o20.2.1, o16.2.1, o20.2.2, sQ)
    else
      (fX9_findAll_29 sP 6000 o20.2.1 o16.2.1 o20.2.2 sQ (0 : Int32)))))))))
  else
    some (sO, sS, sD, sQ))
theorem bX9_findAll_75 {C : zCtx} (X : zFx C cX9_findAll 2 RX9 rmX9_findAll none) {aO : Nat → Nat} {aP : Nat → Nat} {aS : Nat → Nat} {aD : Nat → Nat} {aQ : Nat → Nat} {sP : zSt} {out : zSt × zSt × zSt × zSt} (hQ : zHv C [wX9 (zcT C) aO (aP 0) (aS 0) (aD 0) (aQ 0) out.1, wX7 (zcT C) aS out.2.1, wX1 (zcT C) aD out.2.2.1, wX4 (zcT C) aQ out.2.2.2] 0 0) : ∀ (n : Nat) (sO : zSt) (sS : zSt) (sD : zSt) (sQ : zSt) (x1 : Int32), fX9_findAll_75 sP n sO sS sD sQ x1 = some out → zG C 2 [0, 2, 3, 4] 0 0 [wX9 (zcT C) aO (aP 0) (aS 0) (aD 0) (aQ 0) sO, wX5 (zcT C) aP sP, wX7 (zcT C) aS sS, wX1 (zcT C) aD sD, wX4 (zcT C) aQ sQ] 75 [(0, .ref (aO 0)), (1, .int x1)] [] := by
  intro n
  induction n with
  | zero =>
    intro sO sS sD sQ x1 h
    rw [fX9_findAll_75] at h
    exact zno h
  | succ n ih =>
    intro sO sS sD sQ x1 h
    rw [fX9_findAll_75] at h
    refine z_iload_n X dX9_findAll_75 1 rfl ?_
    refine z_aload_n X dX9_findAll_76 0 rfl ?_
    refine z_get (v := .ref (aP 0)) X 0 0 10 0 ziX9 rfl (by decide) zw237 rfl dX9_findAll_77 rfl rfl rfl ?_
    refine z_getN (v := .int (zgi sP 8)) X 1 0 6 8 ziX5 rfl (by decide) zw59 rfl dX9_findAll_80 rfl rfl rfl ?_
    refine z_icmp_ge (tgt := 101) X dX9_findAll_83 (by decide) (fun c83 => ?_) (fun c83 => ?_)
    · replace h := zif_t h c83
      refine z_aload_n X dX9_findAll_101 0 rfl ?_
      obtain ⟨o102, ho102, h⟩ := zbind_of h
      refine z_callVv (st := []) (ws2 := [wX9 (zcT C) aO (aP 0) (aS 0) (aD 0) (aQ 0) sO, wX5 (zcT C) aP sP, wX7 (zcT C) aS sS, wX1 (zcT C) aD sD, wX4 (zcT C) aQ o102]) X (metX9_stand (zcl C) (zcD C) (zcT C) aO aP aS aD aQ ho102) zmX9_stand zw640 dX9_findAll_102 0 0 10 rfl rfl rfl rfl [0, 1, 3, 4] rfl rfl [4] rfl (by decide) ⟨zsX4 , trivial⟩ rfl rfl rfl (Nat.le_of_ble_eq_true rfl) rfl rfl ⟨Nat.le_of_ble_eq_true rfl, Nat.le_of_ble_eq_true rfl⟩ ⟨Nat.le_of_ble_eq_true rfl, Nat.le_of_ble_eq_true rfl⟩ ?_
      cases h
      exact z_vret X hQ dX9_findAll_105 [0, 2, 3, 4] rfl (by decide) (by decide)
    · replace h := zif_f h c83
      refine z_aload_n X dX9_findAll_86 0 rfl ?_
      refine z_iload_n X dX9_findAll_87 1 rfl ?_
      obtain ⟨o88, ho88, h⟩ := zbind_of h
      refine z_callSi (st := [.ref (aO 0)]) (ws2 := [wX9 (zcT C) aO (aP 0) (aS 0) (aD 0) (aQ 0) sO, wX5 (zcT C) aP sP, wX7 (zcT C) aS sS, wX1 (zcT C) aD sD, wX4 (zcT C) aQ sQ]) X (metX1_goalOfLeast (zcl C) (zcD C) (zcT C)  ho88) zmX1_goalOfLeast zw657 dX9_findAll_88 [] rfl rfl [] rfl (by decide) trivial rfl rfl rfl (Nat.le_of_ble_eq_true rfl) rfl rfl ⟨Nat.le_of_ble_eq_true rfl, Nat.le_of_ble_eq_true rfl⟩ ⟨Nat.le_of_ble_eq_true rfl, Nat.le_of_ble_eq_true rfl⟩ ?_
      obtain ⟨o91, ho91, h⟩ := zbind_of h
      refine z_callVi (st := []) (ws2 := [wX9 (zcT C) aO (aP 0) (aS 0) (aD 0) (aQ 0) o91.2.1, wX5 (zcT C) aP sP, wX7 (zcT C) aS sS, wX1 (zcT C) aD o91.2.2, wX4 (zcT C) aQ sQ]) X (metX9_climbs (zcl C) (zcD C) (zcT C) aO aP aS aD aQ ho91) zmX9_climbs zw624 dX9_findAll_91 0 0 10 rfl rfl rfl rfl [0, 3] rfl rfl [0, 3] rfl (by decide) ⟨zsX9 , ⟨zsX1 , trivial⟩⟩ rfl rfl rfl (Nat.le_of_ble_eq_true rfl) rfl rfl ⟨Nat.le_of_ble_eq_true rfl, Nat.le_of_ble_eq_true rfl⟩ ⟨Nat.le_of_ble_eq_true rfl, Nat.le_of_ble_eq_true rfl⟩ ?_
      refine z_pop X dX9_findAll_94 rfl ?_
      obtain ⟨v95, ev95, h⟩ := zlet_of h
      refine z_iinc (v := v95) (lv2 := [(1, .int v95), (0, .ref (aO 0))]) X dX9_findAll_95 (k := 1) rfl (by rw [ev95]; rfl) (by decide) rfl ?_
      refine z_goto (tgt := 75) X dX9_findAll_98 (by decide) ?_
      exact z_at (pc2 := 75) (lv2 := [(0, .ref (aO 0)), (1, .int v95)]) (st2 := []) (ws2 := [wX9 (zcT C) aO (aP 0) (aS 0) (aD 0) (aQ 0) o91.2.1, wX5 (zcT C) aP sP, wX7 (zcT C) aS sS, wX1 (zcT C) aD o91.2.2, wX4 (zcT C) aQ sQ]) rfl rfl rfl [1, 0] rfl (ih o91.2.1 sS o91.2.2 sQ v95 h)
theorem bX9_findAll_29 {C : zCtx} (X : zFx C cX9_findAll 2 RX9 rmX9_findAll none) {aO : Nat → Nat} {aP : Nat → Nat} {aS : Nat → Nat} {aD : Nat → Nat} {aQ : Nat → Nat} {sP : zSt} {out : zSt × zSt × zSt × zSt} (hQ : zHv C [wX9 (zcT C) aO (aP 0) (aS 0) (aD 0) (aQ 0) out.1, wX7 (zcT C) aS out.2.1, wX1 (zcT C) aD out.2.2.1, wX4 (zcT C) aQ out.2.2.2] 0 0) : ∀ (n : Nat) (sO : zSt) (sS : zSt) (sD : zSt) (sQ : zSt) (x1 : Int32), fX9_findAll_29 sP n sO sS sD sQ x1 = some out → zG C 2 [0, 2, 3, 4] 0 0 [wX9 (zcT C) aO (aP 0) (aS 0) (aD 0) (aQ 0) sO, wX5 (zcT C) aP sP, wX7 (zcT C) aS sS, wX1 (zcT C) aD sD, wX4 (zcT C) aQ sQ] 29 [(0, .ref (aO 0)), (1, .int x1)] [] := by
  intro n
  induction n with
  | zero =>
    intro sO sS sD sQ x1 h
    rw [fX9_findAll_29] at h
    exact zno h
  | succ n ih =>
    intro sO sS sD sQ x1 h
    rw [fX9_findAll_29] at h
    refine z_iload_n X dX9_findAll_29 1 rfl ?_
    refine z_aload_n X dX9_findAll_30 0 rfl ?_
    refine z_get (v := .ref (aP 0)) X 0 0 10 0 ziX9 rfl (by decide) zw237 rfl dX9_findAll_31 rfl rfl rfl ?_
    refine z_getN (v := .int (zgi sP 11)) X 1 0 6 11 ziX5 rfl (by decide) zw69 rfl dX9_findAll_34 rfl rfl rfl ?_
    refine z_icmp_ge (tgt := 73) X dX9_findAll_37 (by decide) (fun c37 => ?_) (fun c37 => ?_)
    · replace h := zif_t h c37
      refine z_iconst (v := (0 : Int32)) X dX9_findAll_73 rfl ?_
      refine z_istore_n (lv2 := [(1, .int (0 : Int32)), (0, .ref (aO 0))]) X dX9_findAll_74 rfl (by decide) rfl ?_
      exact z_at (pc2 := 75) (lv2 := [(0, .ref (aO 0)), (1, .int (0 : Int32))]) (st2 := []) (ws2 := [wX9 (zcT C) aO (aP 0) (aS 0) (aD 0) (aQ 0) sO, wX5 (zcT C) aP sP, wX7 (zcT C) aS sS, wX1 (zcT C) aD sD, wX4 (zcT C) aQ sQ]) rfl rfl rfl [1, 0] rfl (bX9_findAll_75 X hQ  6000 sO sS sD sQ (0 : Int32) h)
    · replace h := zif_f h c37
      refine z_aload_n X dX9_findAll_40 0 rfl ?_
      refine z_iload_n X dX9_findAll_41 1 rfl ?_
      obtain ⟨o42, ho42, h⟩ := zbind_of h
      refine z_callSi (st := [.ref (aO 0)]) (ws2 := [wX9 (zcT C) aO (aP 0) (aS 0) (aD 0) (aQ 0) sO, wX5 (zcT C) aP sP, wX7 (zcT C) aS sS, wX1 (zcT C) aD sD, wX4 (zcT C) aQ sQ]) X (metX1_goalOfAim (zcl C) (zcD C) (zcT C)  ho42) zmX1_goalOfAim zw623 dX9_findAll_42 [] rfl rfl [] rfl (by decide) trivial rfl rfl rfl (Nat.le_of_ble_eq_true rfl) rfl rfl ⟨Nat.le_of_ble_eq_true rfl, Nat.le_of_ble_eq_true rfl⟩ ⟨Nat.le_of_ble_eq_true rfl, Nat.le_of_ble_eq_true rfl⟩ ?_
      obtain ⟨o45, ho45, h⟩ := zbind_of h
      refine z_callVi (st := []) (ws2 := [wX9 (zcT C) aO (aP 0) (aS 0) (aD 0) (aQ 0) o45.2.1, wX5 (zcT C) aP sP, wX7 (zcT C) aS sS, wX1 (zcT C) aD o45.2.2, wX4 (zcT C) aQ sQ]) X (metX9_climbs (zcl C) (zcD C) (zcT C) aO aP aS aD aQ ho45) zmX9_climbs zw624 dX9_findAll_45 0 0 10 rfl rfl rfl rfl [0, 3] rfl rfl [0, 3] rfl (by decide) ⟨zsX9 , ⟨zsX1 , trivial⟩⟩ rfl rfl rfl (Nat.le_of_ble_eq_true rfl) rfl rfl ⟨Nat.le_of_ble_eq_true rfl, Nat.le_of_ble_eq_true rfl⟩ ⟨Nat.le_of_ble_eq_true rfl, Nat.le_of_ble_eq_true rfl⟩ ?_
      refine z_if_ne (tgt := 67) X dX9_findAll_48 (by decide) (fun c48 => ?_) (fun c48 => ?_)
      · replace h := zif_f h c48
        obtain ⟨v67, ev67, h⟩ := zlet_of h
        refine z_iinc (v := v67) (lv2 := [(1, .int v67), (0, .ref (aO 0))]) X dX9_findAll_67 (k := 1) rfl (by rw [ev67]; rfl) (by decide) rfl ?_
        refine z_goto (tgt := 29) X dX9_findAll_70 (by decide) ?_
        exact z_at (pc2 := 29) (lv2 := [(0, .ref (aO 0)), (1, .int v67)]) (st2 := []) (ws2 := [wX9 (zcT C) aO (aP 0) (aS 0) (aD 0) (aQ 0) o45.2.1, wX5 (zcT C) aP sP, wX7 (zcT C) aS sS, wX1 (zcT C) aD o45.2.2, wX4 (zcT C) aQ sQ]) rfl rfl rfl [1, 0] rfl (ih o45.2.1 sS o45.2.2 sQ v67 h)
      · replace h := zif_t h c48
        refine z_aload_n X dX9_findAll_51 0 rfl ?_
        refine z_bipush (v := (117 : Int32)) X dX9_findAll_52 rfl ?_
        obtain ⟨sO54, esO54, h⟩ := zlet_of h
        refine z_put (ws2 := [wX9 (zcT C) aO (aP 0) (aS 0) (aD 0) (aQ 0) sO54, wX5 (zcT C) aP sP, wX7 (zcT C) aS sS, wX1 (zcT C) aD o45.2.2, wX4 (zcT C) aQ sQ]) X 0 0 10 5 ziX9 rfl tyX9 tyX9_ok nmX9 (by decide) zw247 rfl rfl (ty := .char) (by decide +kernel) rfl rfl (by show 5 < 10; decide) dX9_findAll_54 rfl rfl (by decide) (w2 := wX9 (zcT C) aO (aP 0) (aS 0) (aD 0) (aQ 0) sO54) (by rw [esO54]; rfl) rfl ?_
        refine z_aload_n X dX9_findAll_57 0 rfl ?_
        refine z_iload_n X dX9_findAll_58 1 rfl ?_
        obtain ⟨sO59, esO59, h⟩ := zlet_of h
        refine z_put (ws2 := [wX9 (zcT C) aO (aP 0) (aS 0) (aD 0) (aQ 0) sO59, wX5 (zcT C) aP sP, wX7 (zcT C) aS sS, wX1 (zcT C) aD o45.2.2, wX4 (zcT C) aQ sQ]) X 0 0 10 6 ziX9 rfl tyX9 tyX9_ok nmX9 (by decide) zw250 rfl rfl (ty := .int) (by decide +kernel) rfl rfl (by show 6 < 10; decide) dX9_findAll_59 rfl rfl (by decide) (w2 := wX9 (zcT C) aO (aP 0) (aS 0) (aD 0) (aQ 0) sO59) (by rw [esO59]; rfl) rfl ?_
        refine z_aload_n X dX9_findAll_62 0 rfl ?_
        obtain ⟨o63, ho63, h⟩ := zbind_of h
        refine z_callVv (st := []) (ws2 := [wX9 (zcT C) aO (aP 0) (aS 0) (aD 0) (aQ 0) sO59, wX5 (zcT C) aP sP, wX7 (zcT C) aS sS, wX1 (zcT C) aD o45.2.2, wX4 (zcT C) aQ o63]) X (metX9_stand (zcl C) (zcD C) (zcT C) aO aP aS aD aQ ho63) zmX9_stand zw640 dX9_findAll_63 0 0 10 rfl rfl rfl rfl [0, 1, 3, 4] rfl rfl [4] rfl (by decide) ⟨zsX4 , trivial⟩ rfl rfl rfl (Nat.le_of_ble_eq_true rfl) rfl rfl ⟨Nat.le_of_ble_eq_true rfl, Nat.le_of_ble_eq_true rfl⟩ ⟨Nat.le_of_ble_eq_true rfl, Nat.le_of_ble_eq_true rfl⟩ ?_
        cases h
        exact z_vret X hQ dX9_findAll_66 [0, 2, 3, 4] rfl (by decide) (by decide)
theorem bX9_findAll_0 {C : zCtx} (X : zFx C cX9_findAll 2 RX9 rmX9_findAll none) {aO : Nat → Nat} {aP : Nat → Nat} {aS : Nat → Nat} {aD : Nat → Nat} {aQ : Nat → Nat} {sO : zSt} {sP : zSt} {sS : zSt} {sD : zSt} {sQ : zSt} {out : zSt × zSt × zSt × zSt} (hQ : zHv C [wX9 (zcT C) aO (aP 0) (aS 0) (aD 0) (aQ 0) out.1, wX7 (zcT C) aS out.2.1, wX1 (zcT C) aD out.2.2.1, wX4 (zcT C) aQ out.2.2.2] 0 0) (h : fX9_findAll sO sP sS sD sQ = some out) : zG C 2 [0, 2, 3, 4] 0 0 [wX9 (zcT C) aO (aP 0) (aS 0) (aD 0) (aQ 0) sO, wX5 (zcT C) aP sP, wX7 (zcT C) aS sS, wX1 (zcT C) aD sD, wX4 (zcT C) aQ sQ] 0 [(0, .ref (aO 0))] [] := by
  unfold fX9_findAll at h
  refine z_aload_n X dX9_findAll_0 0 rfl ?_
  refine z_get (v := .int (zgi sO 9)) X 0 0 10 9 ziX9 rfl (by decide) zw257 rfl dX9_findAll_1 rfl rfl rfl ?_
  refine z_if_eq (tgt := 8) X dX9_findAll_4 (by decide) (fun c4 => ?_) (fun c4 => ?_)
  · replace h := zif_t h c4
    refine z_aload_n X dX9_findAll_8 0 rfl ?_
    refine z_iconst (v := (1 : Int32)) X dX9_findAll_9 rfl ?_
    obtain ⟨sO10, esO10, h⟩ := zlet_of h
    refine z_put (ws2 := [wX9 (zcT C) aO (aP 0) (aS 0) (aD 0) (aQ 0) sO10, wX5 (zcT C) aP sP, wX7 (zcT C) aS sS, wX1 (zcT C) aD sD, wX4 (zcT C) aQ sQ]) X 0 0 10 9 ziX9 rfl tyX9 tyX9_ok nmX9 (by decide) zw257 rfl rfl (ty := .boolean) (by decide +kernel) rfl rfl (by show 9 < 10; decide) dX9_findAll_10 rfl rfl (by decide) (w2 := wX9 (zcT C) aO (aP 0) (aS 0) (aD 0) (aQ 0) sO10) (by rw [esO10]; rfl) rfl ?_
    refine z_aload_n X dX9_findAll_13 0 rfl ?_
    refine z_iconst (v := (0 : Int32)) X dX9_findAll_14 rfl ?_
    refine z_iconst (v := (-1 : Int32)) X dX9_findAll_15 rfl ?_
    obtain ⟨o16, ho16, h⟩ := zbind_of h
    refine z_callVv (st := []) (ws2 := [wX9 (zcT C) aO (aP 0) (aS 0) (aD 0) (aQ 0) o16.1, wX5 (zcT C) aP sP, wX7 (zcT C) aS o16.2.1, wX1 (zcT C) aD o16.2.2, wX4 (zcT C) aQ sQ]) X (metX9_setOut (zcl C) (zcD C) (zcT C) aO aP aS aD aQ ho16) zmX9_setOut zw492 dX9_findAll_16 0 0 10 rfl rfl rfl rfl [0, 1, 2, 3] rfl rfl [0, 2, 3] rfl (by decide) ⟨zsX9 , ⟨zsX7 , ⟨zsX1 , trivial⟩⟩⟩ rfl rfl rfl (Nat.le_of_ble_eq_true rfl) rfl rfl ⟨Nat.le_of_ble_eq_true rfl, Nat.le_of_ble_eq_true rfl⟩ ⟨Nat.le_of_ble_eq_true rfl, Nat.le_of_ble_eq_true rfl⟩ ?_
    refine z_aload_n X dX9_findAll_19 0 rfl ?_
    obtain ⟨o20, ho20, h⟩ := zbind_of h
    refine z_callVi (st := []) (ws2 := [wX9 (zcT C) aO (aP 0) (aS 0) (aD 0) (aQ 0) o20.2.1, wX5 (zcT C) aP sP, wX7 (zcT C) aS o16.2.1, wX1 (zcT C) aD o20.2.2, wX4 (zcT C) aQ sQ]) X (metX9_mends (zcl C) (zcD C) (zcT C) aO aP aS aD aQ ho20) zmX9_mends zw589 dX9_findAll_20 0 0 10 rfl rfl rfl rfl [0, 3] rfl rfl [0, 3] rfl (by decide) ⟨zsX9 , ⟨zsX1 , trivial⟩⟩ rfl rfl rfl (Nat.le_of_ble_eq_true rfl) rfl rfl ⟨Nat.le_of_ble_eq_true rfl, Nat.le_of_ble_eq_true rfl⟩ ⟨Nat.le_of_ble_eq_true rfl, Nat.le_of_ble_eq_true rfl⟩ ?_
    refine z_if_ne (tgt := 27) X dX9_findAll_23 (by decide) (fun c23 => ?_) (fun c23 => ?_)
    · replace h := zif_f h c23
      refine z_iconst (v := (0 : Int32)) X dX9_findAll_27 rfl ?_
      refine z_istore_n (lv2 := [(1, .int (0 : Int32)), (0, .ref (aO 0))]) X dX9_findAll_28 rfl (by decide) rfl ?_
      exact z_at (pc2 := 29) (lv2 := [(0, .ref (aO 0)), (1, .int (0 : Int32))]) (st2 := []) (ws2 := [wX9 (zcT C) aO (aP 0) (aS 0) (aD 0) (aQ 0) o20.2.1, wX5 (zcT C) aP sP, wX7 (zcT C) aS o16.2.1, wX1 (zcT C) aD o20.2.2, wX4 (zcT C) aQ sQ]) rfl rfl rfl [1, 0] rfl (bX9_findAll_29 X hQ  6000 o20.2.1 o16.2.1 o20.2.2 sQ (0 : Int32) h)
    · replace h := zif_t h c23
      cases h
      exact z_vret X hQ dX9_findAll_26 [0, 2, 3, 4] rfl (by decide) (by decide)
  · replace h := zif_f h c4
    cases h
    exact z_vret X hQ dX9_findAll_7 [0, 2, 3, 4] rfl (by decide) (by decide)
theorem metX9_findAll (l : Launch) (D : va_G) (T : Nat → ClassId) (aO : Nat → Nat) (aP : Nat → Nat) (aS : Nat → Nat) (aD : Nat → Nat) (aQ : Nat → Nat) {sO : zSt} {sP : zSt} {sS : zSt} {sD : zSt} {sQ : zSt} {out : zSt × zSt × zSt × zSt} (hf : fX9_findAll sO sP sS sD sQ = some out) (sz : Nat) : Met l yX9_findAll (zws yX9_findAll cX9_findAll 2 none) rmX9_findAll (zPc D T [.ref (aO 0)] [wX9 T aO (aP 0) (aS 0) (aD 0) (aQ 0) sO, wX5 T aP sP, wX7 T aS sS, wX1 T aD sD, wX4 T aQ sQ] sz) (zQv D [wX9 T aO (aP 0) (aS 0) (aD 0) (aQ 0) out.1, wX7 T aS out.2.1, wX1 T aD out.2.2.1, wX4 T aQ out.2.2.2] (zA [wX9 T aO (aP 0) (aS 0) (aD 0) (aQ 0) sO, wX7 T aS sS, wX1 T aD sD, wX4 T aQ sQ] sz)) 0 0 (zA [wX9 T aO (aP 0) (aS 0) (aD 0) (aQ 0) sO, wX7 T aS sS, wX1 T aD sD, wX4 T aQ sQ] sz) :=
  zMet (D := D) (T := T) (av := [.ref (aO 0)]) (ws := fun T => [wX9 T aO (aP 0) (aS 0) (aD 0) (aQ 0) sO, wX5 T aP sP, wX7 T aS sS, wX1 T aD sD, wX4 T aQ sQ]) (wm := fun T => [wX9 T aO (aP 0) (aS 0) (aD 0) (aQ 0) sO, wX7 T aS sS, wX1 T aD sD, wX4 T aQ sQ]) (lv0 := [(0, .ref (aO 0))]) [0, 2, 3, 4] (Qc := fun D T A => zQv D [wX9 T aO (aP 0) (aS 0) (aD 0) (aQ 0) out.1, wX7 T aS out.2.1, wX1 T aD out.2.2.1, wX4 T aQ out.2.2.2] A) (by decide +kernel) rfl (Nat.le_of_ble_eq_true rfl) rfl (fun C X hQ => bX9_findAll_0 X hQ hf) sz
/-- boolean findsFirstValue(int); of Tableaufloor$Walk -/
abbrev rmX9_findsFirstValue : Room := { frames := 4, cells := 0, slots := 0, locals := 106 }
def fX9_findsFirstValue_29 (sP : zSt) (sO : zSt) (sS : zSt) (sD : zSt) (sQ : zSt) (y0 : Int32) : Option (Int32 × zSt × zSt × zSt × zSt) :=
  ((fX9_stand sO sP sD sQ).bind (fun o31 =>
    (if znar .boolean y0 = true then
    some (y0, sO, sS, sD, o31) else none)))
def fX9_findsFirstValue_28 (sP : zSt) (sO : zSt) (sS : zSt) (sD : zSt) (sQ : zSt) : Option (Int32 × zSt × zSt × zSt × zSt) :=
  (fX9_findsFirstValue_29 sP sO sS sD sQ (0 : Int32))
def fX9_findsFirstValue (sO : zSt) (sP : zSt) (sS : zSt) (sD : zSt) (sQ : zSt) (x1 : Int32) : Option (Int32 × zSt × zSt × zSt × zSt) :=
  ((fX9_setOut sO sP sS sD (0 : Int32) x1).bind (fun o3 =>
    ((fX9_mends o3.1 o3.2.2).bind (fun o7 =>
    (if o7.1 = 0 then
    (fX9_findsFirstValue_28 sP o7.2.1 o3.2.1 o7.2.2 sQ)
  else
    ((fX1_goalOfAim (0 : Int32)).bind (fun o15 =>
      ((fX9_climbs o7.2.1 o7.2.2 o15).bind (fun o18 =>
      (if o18.1 = 0 then
      (fX9_findsFirstValue_28 sP o18.2.1 o3.2.1 o18.2.2 sQ)
    else
      (fX9_findsFirstValue_29 sP o18.2.1 o3.2.1 o18.2.2 sQ (1 : Int32))))))))))))
theorem bX9_findsFirstValue_29 {C : zCtx} (X : zFx C cX9_findsFirstValue 3 RX9 rmX9_findsFirstValue (some .boolean)) {aO : Nat → Nat} {aP : Nat → Nat} {aS : Nat → Nat} {aD : Nat → Nat} {aQ : Nat → Nat} {sP : zSt} {sO : zSt} {sS : zSt} {sD : zSt} {sQ : zSt} {y0 : Int32} {out : Int32 × zSt × zSt × zSt × zSt} (hQ : zHi C out.1 [wX9 (zcT C) aO (aP 0) (aS 0) (aD 0) (aQ 0) out.2.1, wX7 (zcT C) aS out.2.2.1, wX1 (zcT C) aD out.2.2.2.1, wX4 (zcT C) aQ out.2.2.2.2] 0 0) (h : fX9_findsFirstValue_29 sP sO sS sD sQ y0 = some out) : zG C 3 [0, 2, 3, 4] 0 0 [wX9 (zcT C) aO (aP 0) (aS 0) (aD 0) (aQ 0) sO, wX5 (zcT C) aP sP, wX7 (zcT C) aS sS, wX1 (zcT C) aD sD, wX4 (zcT C) aQ sQ] 29 [(0, .ref (aO 0))] [.int y0] := by
  unfold fX9_findsFirstValue_29 at h
  refine z_istore_n (lv2 := [(2, .int y0), (0, .ref (aO 0))]) X dX9_findsFirstValue_29 rfl (by decide) rfl ?_
  refine z_aload_n X dX9_findsFirstValue_30 1 rfl ?_
  obtain ⟨o31, ho31, h⟩ := zbind_of h
  refine z_callVv (st := []) (ws2 := [wX9 (zcT C) aO (aP 0) (aS 0) (aD 0) (aQ 0) sO, wX5 (zcT C) aP sP, wX7 (zcT C) aS sS, wX1 (zcT C) aD sD, wX4 (zcT C) aQ o31]) X (metX9_stand (zcl C) (zcD C) (zcT C) aO aP aS aD aQ ho31) zmX9_stand zw640 dX9_findsFirstValue_31 0 0 10 rfl rfl rfl rfl [0, 1, 3, 4] rfl rfl [4] rfl (by decide) ⟨zsX4 , trivial⟩ rfl rfl rfl (Nat.le_of_ble_eq_true rfl) rfl rfl ⟨Nat.le_of_ble_eq_true rfl, Nat.le_of_ble_eq_true rfl⟩ ⟨Nat.le_of_ble_eq_true rfl, Nat.le_of_ble_eq_true rfl⟩ ?_
  refine z_iload_n X dX9_findsFirstValue_34 0 rfl ?_
  obtain ⟨g35, h⟩ := zgd_of h
  cases h
  exact z_nret X hQ g35 dX9_findsFirstValue_35 rfl [0, 2, 3, 4] rfl (by decide) (by decide)
theorem bX9_findsFirstValue_28 {C : zCtx} (X : zFx C cX9_findsFirstValue 3 RX9 rmX9_findsFirstValue (some .boolean)) {aO : Nat → Nat} {aP : Nat → Nat} {aS : Nat → Nat} {aD : Nat → Nat} {aQ : Nat → Nat} {sP : zSt} {sO : zSt} {sS : zSt} {sD : zSt} {sQ : zSt} {out : Int32 × zSt × zSt × zSt × zSt} (hQ : zHi C out.1 [wX9 (zcT C) aO (aP 0) (aS 0) (aD 0) (aQ 0) out.2.1, wX7 (zcT C) aS out.2.2.1, wX1 (zcT C) aD out.2.2.2.1, wX4 (zcT C) aQ out.2.2.2.2] 0 0) (h : fX9_findsFirstValue_28 sP sO sS sD sQ = some out) : zG C 3 [0, 2, 3, 4] 0 0 [wX9 (zcT C) aO (aP 0) (aS 0) (aD 0) (aQ 0) sO, wX5 (zcT C) aP sP, wX7 (zcT C) aS sS, wX1 (zcT C) aD sD, wX4 (zcT C) aQ sQ] 28 [(0, .ref (aO 0))] [] := by
  unfold fX9_findsFirstValue_28 at h
  refine z_iconst (v := (0 : Int32)) X dX9_findsFirstValue_28 rfl ?_
  exact z_at (pc2 := 29) (lv2 := [(0, .ref (aO 0))]) (st2 := [.int (0 : Int32)]) (ws2 := [wX9 (zcT C) aO (aP 0) (aS 0) (aD 0) (aQ 0) sO, wX5 (zcT C) aP sP, wX7 (zcT C) aS sS, wX1 (zcT C) aD sD, wX4 (zcT C) aQ sQ]) rfl rfl rfl [0] rfl (bX9_findsFirstValue_29 X hQ  h)
theorem bX9_findsFirstValue_0 {C : zCtx} (X : zFx C cX9_findsFirstValue 3 RX9 rmX9_findsFirstValue (some .boolean)) {aO : Nat → Nat} {aP : Nat → Nat} {aS : Nat → Nat} {aD : Nat → Nat} {aQ : Nat → Nat} {sO : zSt} {sP : zSt} {sS : zSt} {sD : zSt} {sQ : zSt} {x1 : Int32} {out : Int32 × zSt × zSt × zSt × zSt} (hQ : zHi C out.1 [wX9 (zcT C) aO (aP 0) (aS 0) (aD 0) (aQ 0) out.2.1, wX7 (zcT C) aS out.2.2.1, wX1 (zcT C) aD out.2.2.2.1, wX4 (zcT C) aQ out.2.2.2.2] 0 0) (h : fX9_findsFirstValue sO sP sS sD sQ x1 = some out) : zG C 3 [0, 2, 3, 4] 0 0 [wX9 (zcT C) aO (aP 0) (aS 0) (aD 0) (aQ 0) sO, wX5 (zcT C) aP sP, wX7 (zcT C) aS sS, wX1 (zcT C) aD sD, wX4 (zcT C) aQ sQ] 0 [(0, .ref (aO 0)), (1, .int x1)] [] := by
  unfold fX9_findsFirstValue at h
  refine z_aload_n X dX9_findsFirstValue_0 0 rfl ?_
  refine z_iconst (v := (0 : Int32)) X dX9_findsFirstValue_1 rfl ?_
  refine z_iload_n X dX9_findsFirstValue_2 1 rfl ?_
  obtain ⟨o3, ho3, h⟩ := zbind_of h
  refine z_callVv (st := []) (ws2 := [wX9 (zcT C) aO (aP 0) (aS 0) (aD 0) (aQ 0) o3.1, wX5 (zcT C) aP sP, wX7 (zcT C) aS o3.2.1, wX1 (zcT C) aD o3.2.2, wX4 (zcT C) aQ sQ]) X (metX9_setOut (zcl C) (zcD C) (zcT C) aO aP aS aD aQ ho3) zmX9_setOut zw492 dX9_findsFirstValue_3 0 0 10 rfl rfl rfl rfl [0, 1, 2, 3] rfl rfl [0, 2, 3] rfl (by decide) ⟨zsX9 , ⟨zsX7 , ⟨zsX1 , trivial⟩⟩⟩ rfl rfl rfl (Nat.le_of_ble_eq_true rfl) rfl rfl ⟨Nat.le_of_ble_eq_true rfl, Nat.le_of_ble_eq_true rfl⟩ ⟨Nat.le_of_ble_eq_true rfl, Nat.le_of_ble_eq_true rfl⟩ ?_
  refine z_aload_n X dX9_findsFirstValue_6 0 rfl ?_
  obtain ⟨o7, ho7, h⟩ := zbind_of h
  refine z_callVi (st := []) (ws2 := [wX9 (zcT C) aO (aP 0) (aS 0) (aD 0) (aQ 0) o7.2.1, wX5 (zcT C) aP sP, wX7 (zcT C) aS o3.2.1, wX1 (zcT C) aD o7.2.2, wX4 (zcT C) aQ sQ]) X (metX9_mends (zcl C) (zcD C) (zcT C) aO aP aS aD aQ ho7) zmX9_mends zw589 dX9_findsFirstValue_7 0 0 10 rfl rfl rfl rfl [0, 3] rfl rfl [0, 3] rfl (by decide) ⟨zsX9 , ⟨zsX1 , trivial⟩⟩ rfl rfl rfl (Nat.le_of_ble_eq_true rfl) rfl rfl ⟨Nat.le_of_ble_eq_true rfl, Nat.le_of_ble_eq_true rfl⟩ ⟨Nat.le_of_ble_eq_true rfl, Nat.le_of_ble_eq_true rfl⟩ ?_
  refine z_if_eq (tgt := 28) X dX9_findsFirstValue_10 (by decide) (fun c10 => ?_) (fun c10 => ?_)
  · replace h := zif_t h c10
    exact z_at (pc2 := 28) (lv2 := [(0, .ref (aO 0))]) (st2 := []) (ws2 := [wX9 (zcT C) aO (aP 0) (aS 0) (aD 0) (aQ 0) o7.2.1, wX5 (zcT C) aP sP, wX7 (zcT C) aS o3.2.1, wX1 (zcT C) aD o7.2.2, wX4 (zcT C) aQ sQ]) rfl rfl rfl [0] rfl (bX9_findsFirstValue_28 X hQ  h)
  · replace h := zif_f h c10
    refine z_aload_n X dX9_findsFirstValue_13 0 rfl ?_
    refine z_iconst (v := (0 : Int32)) X dX9_findsFirstValue_14 rfl ?_
    obtain ⟨o15, ho15, h⟩ := zbind_of h
    refine z_callSi (st := [.ref (aO 0)]) (ws2 := [wX9 (zcT C) aO (aP 0) (aS 0) (aD 0) (aQ 0) o7.2.1, wX5 (zcT C) aP sP, wX7 (zcT C) aS o3.2.1, wX1 (zcT C) aD o7.2.2, wX4 (zcT C) aQ sQ]) X (metX1_goalOfAim (zcl C) (zcD C) (zcT C)  ho15) zmX1_goalOfAim zw623 dX9_findsFirstValue_15 [] rfl rfl [] rfl (by decide) trivial rfl rfl rfl (Nat.le_of_ble_eq_true rfl) rfl rfl ⟨Nat.le_of_ble_eq_true rfl, Nat.le_of_ble_eq_true rfl⟩ ⟨Nat.le_of_ble_eq_true rfl, Nat.le_of_ble_eq_true rfl⟩ ?_
    obtain ⟨o18, ho18, h⟩ := zbind_of h
    refine z_callVi (st := []) (ws2 := [wX9 (zcT C) aO (aP 0) (aS 0) (aD 0) (aQ 0) o18.2.1, wX5 (zcT C) aP sP, wX7 (zcT C) aS o3.2.1, wX1 (zcT C) aD o18.2.2, wX4 (zcT C) aQ sQ]) X (metX9_climbs (zcl C) (zcD C) (zcT C) aO aP aS aD aQ ho18) zmX9_climbs zw624 dX9_findsFirstValue_18 0 0 10 rfl rfl rfl rfl [0, 3] rfl rfl [0, 3] rfl (by decide) ⟨zsX9 , ⟨zsX1 , trivial⟩⟩ rfl rfl rfl (Nat.le_of_ble_eq_true rfl) rfl rfl ⟨Nat.le_of_ble_eq_true rfl, Nat.le_of_ble_eq_true rfl⟩ ⟨Nat.le_of_ble_eq_true rfl, Nat.le_of_ble_eq_true rfl⟩ ?_
    refine z_if_eq (tgt := 28) X dX9_findsFirstValue_21 (by decide) (fun c21 => ?_) (fun c21 => ?_)
    · replace h := zif_t h c21
      exact z_at (pc2 := 28) (lv2 := [(0, .ref (aO 0))]) (st2 := []) (ws2 := [wX9 (zcT C) aO (aP 0) (aS 0) (aD 0) (aQ 0) o18.2.1, wX5 (zcT C) aP sP, wX7 (zcT C) aS o3.2.1, wX1 (zcT C) aD o18.2.2, wX4 (zcT C) aQ sQ]) rfl rfl rfl [0] rfl (bX9_findsFirstValue_28 X hQ  h)
    · replace h := zif_f h c21
      refine z_iconst (v := (1 : Int32)) X dX9_findsFirstValue_24 rfl ?_
      refine z_goto (tgt := 29) X dX9_findsFirstValue_25 (by decide) ?_
      exact z_at (pc2 := 29) (lv2 := [(0, .ref (aO 0))]) (st2 := [.int (1 : Int32)]) (ws2 := [wX9 (zcT C) aO (aP 0) (aS 0) (aD 0) (aQ 0) o18.2.1, wX5 (zcT C) aP sP, wX7 (zcT C) aS o3.2.1, wX1 (zcT C) aD o18.2.2, wX4 (zcT C) aQ sQ]) rfl rfl rfl [0] rfl (bX9_findsFirstValue_29 X hQ  h)
theorem metX9_findsFirstValue (l : Launch) (D : va_G) (T : Nat → ClassId) (aO : Nat → Nat) (aP : Nat → Nat) (aS : Nat → Nat) (aD : Nat → Nat) (aQ : Nat → Nat) {sO : zSt} {sP : zSt} {sS : zSt} {sD : zSt} {sQ : zSt} {x1 : Int32} {out : Int32 × zSt × zSt × zSt × zSt} (hf : fX9_findsFirstValue sO sP sS sD sQ x1 = some out) (sz : Nat) : Met l yX9_findsFirstValue (zws yX9_findsFirstValue cX9_findsFirstValue 3 (some .boolean)) rmX9_findsFirstValue (zPc D T [.ref (aO 0), .int x1] [wX9 T aO (aP 0) (aS 0) (aD 0) (aQ 0) sO, wX5 T aP sP, wX7 T aS sS, wX1 T aD sD, wX4 T aQ sQ] sz) (zQi D out.1 [wX9 T aO (aP 0) (aS 0) (aD 0) (aQ 0) out.2.1, wX7 T aS out.2.2.1, wX1 T aD out.2.2.2.1, wX4 T aQ out.2.2.2.2] (zA [wX9 T aO (aP 0) (aS 0) (aD 0) (aQ 0) sO, wX7 T aS sS, wX1 T aD sD, wX4 T aQ sQ] sz)) 0 0 (zA [wX9 T aO (aP 0) (aS 0) (aD 0) (aQ 0) sO, wX7 T aS sS, wX1 T aD sD, wX4 T aQ sQ] sz) :=
  zMet (D := D) (T := T) (av := [.ref (aO 0), .int x1]) (ws := fun T => [wX9 T aO (aP 0) (aS 0) (aD 0) (aQ 0) sO, wX5 T aP sP, wX7 T aS sS, wX1 T aD sD, wX4 T aQ sQ]) (wm := fun T => [wX9 T aO (aP 0) (aS 0) (aD 0) (aQ 0) sO, wX7 T aS sS, wX1 T aD sD, wX4 T aQ sQ]) (lv0 := [(0, .ref (aO 0)), (1, .int x1)]) [0, 2, 3, 4] (Qc := fun D T A => zQi D out.1 [wX9 T aO (aP 0) (aS 0) (aD 0) (aQ 0) out.2.1, wX7 T aS out.2.2.1, wX1 T aD out.2.2.2.1, wX4 T aQ out.2.2.2.2] A) (by decide +kernel) rfl (Nat.le_of_ble_eq_true rfl) rfl (fun C X hQ => bX9_findsFirstValue_0 X hQ hf) sz
/-- boolean findsFit(int); of Tableaufloor$Walk -/
abbrev rmX9_findsFit : Room := { frames := 4, cells := 0, slots := 0, locals := 104 }
def fX9_findsFit (sO : zSt) (sP : zSt) (sS : zSt) (sD : zSt) (x1 : Int32) : Option (Int32 × zSt × zSt × zSt) :=
  ((fX9_setOut sO sP sS sD x1 (-1 : Int32)).bind (fun o3 =>
    ((fX9_mends o3.1 o3.2.2).bind (fun o7 =>
    (if znar .boolean o7.1 = true then
    some (o7.1, o7.2.1, o3.2.1, o7.2.2) else none)))))
theorem bX9_findsFit_0 {C : zCtx} (X : zFx C cX9_findsFit 2 RX9 rmX9_findsFit (some .boolean)) {aO : Nat → Nat} {aP : Nat → Nat} {aS : Nat → Nat} {aD : Nat → Nat} {aQ : Nat → Nat} {sO : zSt} {sP : zSt} {sS : zSt} {sD : zSt} {x1 : Int32} {out : Int32 × zSt × zSt × zSt} (hQ : zHi C out.1 [wX9 (zcT C) aO (aP 0) (aS 0) (aD 0) (aQ 0) out.2.1, wX7 (zcT C) aS out.2.2.1, wX1 (zcT C) aD out.2.2.2] 0 0) (h : fX9_findsFit sO sP sS sD x1 = some out) : zG C 2 [0, 2, 3] 0 0 [wX9 (zcT C) aO (aP 0) (aS 0) (aD 0) (aQ 0) sO, wX5 (zcT C) aP sP, wX7 (zcT C) aS sS, wX1 (zcT C) aD sD] 0 [(0, .ref (aO 0)), (1, .int x1)] [] := by
  unfold fX9_findsFit at h
  refine z_aload_n X dX9_findsFit_0 0 rfl ?_
  refine z_iload_n X dX9_findsFit_1 1 rfl ?_
  refine z_iconst (v := (-1 : Int32)) X dX9_findsFit_2 rfl ?_
  obtain ⟨o3, ho3, h⟩ := zbind_of h
  refine z_callVv (st := []) (ws2 := [wX9 (zcT C) aO (aP 0) (aS 0) (aD 0) (aQ 0) o3.1, wX5 (zcT C) aP sP, wX7 (zcT C) aS o3.2.1, wX1 (zcT C) aD o3.2.2]) X (metX9_setOut (zcl C) (zcD C) (zcT C) aO aP aS aD aQ ho3) zmX9_setOut zw492 dX9_findsFit_3 0 0 10 rfl rfl rfl rfl [0, 1, 2, 3] rfl rfl [0, 2, 3] rfl (by decide) ⟨zsX9 , ⟨zsX7 , ⟨zsX1 , trivial⟩⟩⟩ rfl rfl rfl (Nat.le_of_ble_eq_true rfl) rfl rfl ⟨Nat.le_of_ble_eq_true rfl, Nat.le_of_ble_eq_true rfl⟩ ⟨Nat.le_of_ble_eq_true rfl, Nat.le_of_ble_eq_true rfl⟩ ?_
  refine z_aload_n X dX9_findsFit_6 0 rfl ?_
  obtain ⟨o7, ho7, h⟩ := zbind_of h
  refine z_callVi (st := []) (ws2 := [wX9 (zcT C) aO (aP 0) (aS 0) (aD 0) (aQ 0) o7.2.1, wX5 (zcT C) aP sP, wX7 (zcT C) aS o3.2.1, wX1 (zcT C) aD o7.2.2]) X (metX9_mends (zcl C) (zcD C) (zcT C) aO aP aS aD aQ ho7) zmX9_mends zw589 dX9_findsFit_7 0 0 10 rfl rfl rfl rfl [0, 3] rfl rfl [0, 3] rfl (by decide) ⟨zsX9 , ⟨zsX1 , trivial⟩⟩ rfl rfl rfl (Nat.le_of_ble_eq_true rfl) rfl rfl ⟨Nat.le_of_ble_eq_true rfl, Nat.le_of_ble_eq_true rfl⟩ ⟨Nat.le_of_ble_eq_true rfl, Nat.le_of_ble_eq_true rfl⟩ ?_
  obtain ⟨g10, h⟩ := zgd_of h
  cases h
  exact z_nret X hQ g10 dX9_findsFit_10 rfl [0, 2, 3] rfl (by decide) (by decide)
theorem metX9_findsFit (l : Launch) (D : va_G) (T : Nat → ClassId) (aO : Nat → Nat) (aP : Nat → Nat) (aS : Nat → Nat) (aD : Nat → Nat) (aQ : Nat → Nat) {sO : zSt} {sP : zSt} {sS : zSt} {sD : zSt} {x1 : Int32} {out : Int32 × zSt × zSt × zSt} (hf : fX9_findsFit sO sP sS sD x1 = some out) (sz : Nat) : Met l yX9_findsFit (zws yX9_findsFit cX9_findsFit 2 (some .boolean)) rmX9_findsFit (zPc D T [.ref (aO 0), .int x1] [wX9 T aO (aP 0) (aS 0) (aD 0) (aQ 0) sO, wX5 T aP sP, wX7 T aS sS, wX1 T aD sD] sz) (zQi D out.1 [wX9 T aO (aP 0) (aS 0) (aD 0) (aQ 0) out.2.1, wX7 T aS out.2.2.1, wX1 T aD out.2.2.2] (zA [wX9 T aO (aP 0) (aS 0) (aD 0) (aQ 0) sO, wX7 T aS sS, wX1 T aD sD] sz)) 0 0 (zA [wX9 T aO (aP 0) (aS 0) (aD 0) (aQ 0) sO, wX7 T aS sS, wX1 T aD sD] sz) :=
  zMet (D := D) (T := T) (av := [.ref (aO 0), .int x1]) (ws := fun T => [wX9 T aO (aP 0) (aS 0) (aD 0) (aQ 0) sO, wX5 T aP sP, wX7 T aS sS, wX1 T aD sD]) (wm := fun T => [wX9 T aO (aP 0) (aS 0) (aD 0) (aQ 0) sO, wX7 T aS sS, wX1 T aD sD]) (lv0 := [(0, .ref (aO 0)), (1, .int x1)]) [0, 2, 3] (Qc := fun D T A => zQi D out.1 [wX9 T aO (aP 0) (aS 0) (aD 0) (aQ 0) out.2.1, wX7 T aS out.2.2.1, wX1 T aD out.2.2.2] A) (by decide +kernel) rfl (Nat.le_of_ble_eq_true rfl) rfl (fun C X hQ => bX9_findsFit_0 X hQ hf) sz
/-- boolean hasValue(int); of Tableaufloor$Walk -/
abbrev rmX9_hasValue : Room := { frames := 0, cells := 0, slots := 0, locals := 0 }
def fX9_hasValue_31 (sO : zSt) (y0 : Int32) : Option (Int32) :=
  (if znar .boolean y0 = true then
    some (y0) else none)
def fX9_hasValue_26 (sO : zSt) : Option (Int32) :=
  (fX9_hasValue_31 sO (1 : Int32))
def fX9_hasValue_30 (sO : zSt) : Option (Int32) :=
  (fX9_hasValue_31 sO (0 : Int32))
def fX9_hasValue (sO : zSt) (x1 : Int32) : Option (Int32) :=
  (if (zgi sO 5) = (111 : Int32) then
    (fX9_hasValue_26 sO)
  else
    (if (zgi sO 5) = (117 : Int32) then
      (if (zgi sO 6) ≤ x1 then
        (fX9_hasValue_30 sO)
      else
        (fX9_hasValue_26 sO))
    else
      (fX9_hasValue_30 sO)))
theorem bX9_hasValue_31 {C : zCtx} (X : zFx C cX9_hasValue 2 RX9 rmX9_hasValue (some .boolean)) {aO : Nat → Nat} {aP : Nat → Nat} {aS : Nat → Nat} {aD : Nat → Nat} {aQ : Nat → Nat} {sO : zSt} {y0 : Int32} {out : Int32} (hQ : zHi C out [] 0 0) (h : fX9_hasValue_31 sO y0 = some out) : zG C 2 [] 0 0 [wX9 (zcT C) aO (aP 0) (aS 0) (aD 0) (aQ 0) sO] 31 [] [.int y0] := by
  unfold fX9_hasValue_31 at h
  obtain ⟨g31, h⟩ := zgd_of h
  cases h
  exact z_nret X hQ g31 dX9_hasValue_31 rfl [] rfl (by decide) (by decide)
theorem bX9_hasValue_26 {C : zCtx} (X : zFx C cX9_hasValue 2 RX9 rmX9_hasValue (some .boolean)) {aO : Nat → Nat} {aP : Nat → Nat} {aS : Nat → Nat} {aD : Nat → Nat} {aQ : Nat → Nat} {sO : zSt} {out : Int32} (hQ : zHi C out [] 0 0) (h : fX9_hasValue_26 sO = some out) : zG C 2 [] 0 0 [wX9 (zcT C) aO (aP 0) (aS 0) (aD 0) (aQ 0) sO] 26 [] [] := by
  unfold fX9_hasValue_26 at h
  refine z_iconst (v := (1 : Int32)) X dX9_hasValue_26 rfl ?_
  refine z_goto (tgt := 31) X dX9_hasValue_27 (by decide) ?_
  exact z_at (pc2 := 31) (lv2 := []) (st2 := [.int (1 : Int32)]) (ws2 := [wX9 (zcT C) aO (aP 0) (aS 0) (aD 0) (aQ 0) sO]) rfl rfl rfl [] rfl (bX9_hasValue_31 X hQ  h)
theorem bX9_hasValue_30 {C : zCtx} (X : zFx C cX9_hasValue 2 RX9 rmX9_hasValue (some .boolean)) {aO : Nat → Nat} {aP : Nat → Nat} {aS : Nat → Nat} {aD : Nat → Nat} {aQ : Nat → Nat} {sO : zSt} {out : Int32} (hQ : zHi C out [] 0 0) (h : fX9_hasValue_30 sO = some out) : zG C 2 [] 0 0 [wX9 (zcT C) aO (aP 0) (aS 0) (aD 0) (aQ 0) sO] 30 [] [] := by
  unfold fX9_hasValue_30 at h
  refine z_iconst (v := (0 : Int32)) X dX9_hasValue_30 rfl ?_
  exact z_at (pc2 := 31) (lv2 := []) (st2 := [.int (0 : Int32)]) (ws2 := [wX9 (zcT C) aO (aP 0) (aS 0) (aD 0) (aQ 0) sO]) rfl rfl rfl [] rfl (bX9_hasValue_31 X hQ  h)
theorem bX9_hasValue_0 {C : zCtx} (X : zFx C cX9_hasValue 2 RX9 rmX9_hasValue (some .boolean)) {aO : Nat → Nat} {aP : Nat → Nat} {aS : Nat → Nat} {aD : Nat → Nat} {aQ : Nat → Nat} {sO : zSt} {x1 : Int32} {out : Int32} (hQ : zHi C out [] 0 0) (h : fX9_hasValue sO x1 = some out) : zG C 2 [] 0 0 [wX9 (zcT C) aO (aP 0) (aS 0) (aD 0) (aQ 0) sO] 0 [(0, .ref (aO 0)), (1, .int x1)] [] := by
  unfold fX9_hasValue at h
  refine z_aload_n X dX9_hasValue_0 0 rfl ?_
  refine z_get (v := .int (zgi sO 5)) X 0 0 10 5 ziX9 rfl (by decide) zw247 rfl dX9_hasValue_1 rfl rfl rfl ?_
  refine z_bipush (v := (111 : Int32)) X dX9_hasValue_4 rfl ?_
  refine z_icmp_eq (tgt := 26) X dX9_hasValue_6 (by decide) (fun c6 => ?_) (fun c6 => ?_)
  · replace h := zif_t h c6
    exact z_at (pc2 := 26) (lv2 := []) (st2 := []) (ws2 := [wX9 (zcT C) aO (aP 0) (aS 0) (aD 0) (aQ 0) sO]) rfl rfl rfl [] rfl (bX9_hasValue_26 X hQ  h)
  · replace h := zif_f h c6
    refine z_aload_n X dX9_hasValue_9 0 rfl ?_
    refine z_get (v := .int (zgi sO 5)) X 0 0 10 5 ziX9 rfl (by decide) zw247 rfl dX9_hasValue_10 rfl rfl rfl ?_
    refine z_bipush (v := (117 : Int32)) X dX9_hasValue_13 rfl ?_
    refine z_icmp_ne (tgt := 30) X dX9_hasValue_15 (by decide) (fun c15 => ?_) (fun c15 => ?_)
    · replace h := zif_f h c15
      exact z_at (pc2 := 30) (lv2 := []) (st2 := []) (ws2 := [wX9 (zcT C) aO (aP 0) (aS 0) (aD 0) (aQ 0) sO]) rfl rfl rfl [] rfl (bX9_hasValue_30 X hQ  h)
    · replace h := zif_t h c15
      refine z_iload_n X dX9_hasValue_18 1 rfl ?_
      refine z_aload_n X dX9_hasValue_19 0 rfl ?_
      refine z_get (v := .int (zgi sO 6)) X 0 0 10 6 ziX9 rfl (by decide) zw250 rfl dX9_hasValue_20 rfl rfl rfl ?_
      refine z_icmp_ge (tgt := 30) X dX9_hasValue_23 (by decide) (fun c23 => ?_) (fun c23 => ?_)
      · replace h := zif_t h c23
        exact z_at (pc2 := 30) (lv2 := []) (st2 := []) (ws2 := [wX9 (zcT C) aO (aP 0) (aS 0) (aD 0) (aQ 0) sO]) rfl rfl rfl [] rfl (bX9_hasValue_30 X hQ  h)
      · replace h := zif_f h c23
        exact z_at (pc2 := 26) (lv2 := []) (st2 := []) (ws2 := [wX9 (zcT C) aO (aP 0) (aS 0) (aD 0) (aQ 0) sO]) rfl rfl rfl [] rfl (bX9_hasValue_26 X hQ  h)
theorem metX9_hasValue (l : Launch) (D : va_G) (T : Nat → ClassId) (aO : Nat → Nat) (aP : Nat → Nat) (aS : Nat → Nat) (aD : Nat → Nat) (aQ : Nat → Nat) {sO : zSt} {x1 : Int32} {out : Int32} (hf : fX9_hasValue sO x1 = some out) (sz : Nat) : Met l yX9_hasValue (zws yX9_hasValue cX9_hasValue 2 (some .boolean)) rmX9_hasValue (zPc D T [.ref (aO 0), .int x1] [wX9 T aO (aP 0) (aS 0) (aD 0) (aQ 0) sO] sz) (zQi D out [] (zA [] sz)) 0 0 (zA [] sz) :=
  zMet (D := D) (T := T) (av := [.ref (aO 0), .int x1]) (ws := fun T => [wX9 T aO (aP 0) (aS 0) (aD 0) (aQ 0) sO]) (wm := fun T => []) (lv0 := [(0, .ref (aO 0)), (1, .int x1)]) [] (Qc := fun D T A => zQi D out [] A) (by decide +kernel) rfl (Nat.le_of_ble_eq_true rfl) rfl (fun C X hQ => bX9_hasValue_0 X hQ hf) sz
