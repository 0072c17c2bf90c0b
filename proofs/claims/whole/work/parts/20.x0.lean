/-- private long cross(int, int, int); of Tableaufloor$Corners -/
abbrev rmX0_cross : Room := { frames := 1, cells := 0, slots := 0, locals := 23 }
def fX0_cross_25 (sO : zSt) (sS : zSt) (x1 : Int32) (x2 : Int32) (x4 : Int32) (y0 : Int32) : Option (Int64) :=
  ((fX7_slopeOf sS x1 x4).bind (fun o34 =>
    ((fX7_slopeOf sS x2 y0).bind (fun o44 =>
    ((fX7_slopeOf sS x1 y0).bind (fun o55 =>
    ((fX7_slopeOf sS x2 x4).bind (fun o65 =>
    some (((o34 * o44) - (o55 * o65)))))))))))
def fX0_cross_12 (sO : zSt) (sS : zSt) (x1 : Int32) (x2 : Int32) (x3 : Int32) (y0 : Int32) : Option (Int64) :=
  (if x3 = 0 then
    (fX0_cross_25 sO sS x1 x2 y0 (2 : Int32))
  else
    (fX0_cross_25 sO sS x1 x2 y0 (x3 - (1 : Int32))))
def fX0_cross (sO : zSt) (sS : zSt) (x1 : Int32) (x2 : Int32) (x3 : Int32) : Option (Int64) :=
  (if x3 = (2 : Int32) then
    (fX0_cross_12 sO sS x1 x2 x3 (0 : Int32))
  else
    (fX0_cross_12 sO sS x1 x2 x3 (x3 + (1 : Int32))))
theorem bX0_cross_25 {C : zCtx} (X : zFx C cX0_cross 6 RX0 rmX0_cross (some .long)) {aO : Nat → Nat} {aP : Nat → Nat} {aS : Nat → Nat} {aB : Nat → Nat} {aK : Nat → Nat} {sO : zSt} {sS : zSt} {x1 : Int32} {x2 : Int32} {x4 : Int32} {y0 : Int32} {out : Int64} (hQ : zHl C out [] 0 0) (h : fX0_cross_25 sO sS x1 x2 x4 y0 = some out) : zG C 6 [] 0 0 [wX0 (zcT C) aO (aP 0) (aS 0) (aB 0) (aK 0) sO, wX7 (zcT C) aS sS] 25 [(0, .ref (aO 0)), (1, .int x1), (2, .int x2), (4, .int x4)] [.int y0] := by
  unfold fX0_cross_25 at h
  refine z_istore (lv2 := [(5, .int y0), (0, .ref (aO 0)), (1, .int x1), (2, .int x2), (4, .int x4)]) X dX0_cross_25 (by decide) rfl ?_
  refine z_aload_n X dX0_cross_27 1 rfl ?_
  refine z_get (v := .ref (aS 0)) X 0 0 1 1 ziX0 rfl (by decide) zw308 rfl dX0_cross_28 rfl rfl rfl ?_
  refine z_iload_n X dX0_cross_31 2 rfl ?_
  refine z_iload X dX0_cross_32 4 rfl ?_
  obtain ⟨o34, ho34, h⟩ := zbind_of h
  refine z_callVl (st := []) (ws2 := [wX0 (zcT C) aO (aP 0) (aS 0) (aB 0) (aK 0) sO, wX7 (zcT C) aS sS]) X (metX7_slopeOf (zcl C) (zcD C) (zcT C) aS ho34) zmX7_slopeOf zw1145 dX0_cross_34 1 0 8 rfl rfl rfl rfl [1] rfl rfl [] rfl (by decide) trivial rfl rfl rfl (Nat.le_of_ble_eq_true rfl) rfl rfl ⟨Nat.le_of_ble_eq_true rfl, Nat.le_of_ble_eq_true rfl⟩ ⟨Nat.le_of_ble_eq_true rfl, Nat.le_of_ble_eq_true rfl⟩ ?_
  refine z_aload_n X dX0_cross_37 1 rfl ?_
  refine z_get (v := .ref (aS 0)) X 0 0 1 1 ziX0 rfl (by decide) zw308 rfl dX0_cross_38 rfl rfl rfl ?_
  refine z_iload_n X dX0_cross_41 3 rfl ?_
  refine z_iload X dX0_cross_42 0 rfl ?_
  obtain ⟨o44, ho44, h⟩ := zbind_of h
  refine z_callVl (st := [.long o34]) (ws2 := [wX0 (zcT C) aO (aP 0) (aS 0) (aB 0) (aK 0) sO, wX7 (zcT C) aS sS]) X (metX7_slopeOf (zcl C) (zcD C) (zcT C) aS ho44) zmX7_slopeOf zw1145 dX0_cross_44 1 0 8 rfl rfl rfl rfl [1] rfl rfl [] rfl (by decide) trivial rfl rfl rfl (Nat.le_of_ble_eq_true rfl) rfl rfl ⟨Nat.le_of_ble_eq_true rfl, Nat.le_of_ble_eq_true rfl⟩ ⟨Nat.le_of_ble_eq_true rfl, Nat.le_of_ble_eq_true rfl⟩ ?_
  refine z_lmul X dX0_cross_47 ?_
  refine z_aload_n X dX0_cross_48 1 rfl ?_
  refine z_get (v := .ref (aS 0)) X 0 0 1 1 ziX0 rfl (by decide) zw308 rfl dX0_cross_49 rfl rfl rfl ?_
  refine z_iload_n X dX0_cross_52 2 rfl ?_
  refine z_iload X dX0_cross_53 0 rfl ?_
  obtain ⟨o55, ho55, h⟩ := zbind_of h
  refine z_callVl (st := [.long (o34 * o44)]) (ws2 := [wX0 (zcT C) aO (aP 0) (aS 0) (aB 0) (aK 0) sO, wX7 (zcT C) aS sS]) X (metX7_slopeOf (zcl C) (zcD C) (zcT C) aS ho55) zmX7_slopeOf zw1145 dX0_cross_55 1 0 8 rfl rfl rfl rfl [1] rfl rfl [] rfl (by decide) trivial rfl rfl rfl (Nat.le_of_ble_eq_true rfl) rfl rfl ⟨Nat.le_of_ble_eq_true rfl, Nat.le_of_ble_eq_true rfl⟩ ⟨Nat.le_of_ble_eq_true rfl, Nat.le_of_ble_eq_true rfl⟩ ?_
  refine z_aload_n X dX0_cross_58 1 rfl ?_
  refine z_get (v := .ref (aS 0)) X 0 0 1 1 ziX0 rfl (by decide) zw308 rfl dX0_cross_59 rfl rfl rfl ?_
  refine z_iload_n X dX0_cross_62 3 rfl ?_
  refine z_iload X dX0_cross_63 4 rfl ?_
  obtain ⟨o65, ho65, h⟩ := zbind_of h
  refine z_callVl (st := [.long o55, .long (o34 * o44)]) (ws2 := [wX0 (zcT C) aO (aP 0) (aS 0) (aB 0) (aK 0) sO, wX7 (zcT C) aS sS]) X (metX7_slopeOf (zcl C) (zcD C) (zcT C) aS ho65) zmX7_slopeOf zw1145 dX0_cross_65 1 0 8 rfl rfl rfl rfl [1] rfl rfl [] rfl (by decide) trivial rfl rfl rfl (Nat.le_of_ble_eq_true rfl) rfl rfl ⟨Nat.le_of_ble_eq_true rfl, Nat.le_of_ble_eq_true rfl⟩ ⟨Nat.le_of_ble_eq_true rfl, Nat.le_of_ble_eq_true rfl⟩ ?_
  refine z_lmul X dX0_cross_68 ?_
  refine z_lsub X dX0_cross_69 ?_
  cases h
  exact z_lret X hQ dX0_cross_70 rfl [] rfl (by decide) (by decide)
theorem bX0_cross_12 {C : zCtx} (X : zFx C cX0_cross 6 RX0 rmX0_cross (some .long)) {aO : Nat → Nat} {aP : Nat → Nat} {aS : Nat → Nat} {aB : Nat → Nat} {aK : Nat → Nat} {sO : zSt} {sS : zSt} {x1 : Int32} {x2 : Int32} {x3 : Int32} {y0 : Int32} {out : Int64} (hQ : zHl C out [] 0 0) (h : fX0_cross_12 sO sS x1 x2 x3 y0 = some out) : zG C 6 [] 0 0 [wX0 (zcT C) aO (aP 0) (aS 0) (aB 0) (aK 0) sO, wX7 (zcT C) aS sS] 12 [(0, .ref (aO 0)), (1, .int x1), (2, .int x2), (3, .int x3)] [.int y0] := by
  unfold fX0_cross_12 at h
  refine z_istore (lv2 := [(4, .int y0), (0, .ref (aO 0)), (1, .int x1), (2, .int x2), (3, .int x3)]) X dX0_cross_12 (by decide) rfl ?_
  refine z_iload_n X dX0_cross_14 4 rfl ?_
  refine z_if_ne (tgt := 22) X dX0_cross_15 (by decide) (fun c15 => ?_) (fun c15 => ?_)
  · replace h := zif_f h c15
    refine z_iload_n X dX0_cross_22 4 rfl ?_
    refine z_iconst (v := (1 : Int32)) X dX0_cross_23 rfl ?_
    refine z_isub X dX0_cross_24 ?_
    exact z_at (pc2 := 25) (lv2 := [(0, .ref (aO 0)), (1, .int x1), (2, .int x2), (4, .int y0)]) (st2 := [.int (x3 - (1 : Int32))]) (ws2 := [wX0 (zcT C) aO (aP 0) (aS 0) (aB 0) (aK 0) sO, wX7 (zcT C) aS sS]) rfl rfl rfl [1, 2, 3, 0] rfl (bX0_cross_25 X hQ  h)
  · replace h := zif_t h c15
    refine z_iconst (v := (2 : Int32)) X dX0_cross_18 rfl ?_
    refine z_goto (tgt := 25) X dX0_cross_19 (by decide) ?_
    exact z_at (pc2 := 25) (lv2 := [(0, .ref (aO 0)), (1, .int x1), (2, .int x2), (4, .int y0)]) (st2 := [.int (2 : Int32)]) (ws2 := [wX0 (zcT C) aO (aP 0) (aS 0) (aB 0) (aK 0) sO, wX7 (zcT C) aS sS]) rfl rfl rfl [1, 2, 3, 0] rfl (bX0_cross_25 X hQ  h)
theorem bX0_cross_0 {C : zCtx} (X : zFx C cX0_cross 6 RX0 rmX0_cross (some .long)) {aO : Nat → Nat} {aP : Nat → Nat} {aS : Nat → Nat} {aB : Nat → Nat} {aK : Nat → Nat} {sO : zSt} {sS : zSt} {x1 : Int32} {x2 : Int32} {x3 : Int32} {out : Int64} (hQ : zHl C out [] 0 0) (h : fX0_cross sO sS x1 x2 x3 = some out) : zG C 6 [] 0 0 [wX0 (zcT C) aO (aP 0) (aS 0) (aB 0) (aK 0) sO, wX7 (zcT C) aS sS] 0 [(0, .ref (aO 0)), (1, .int x1), (2, .int x2), (3, .int x3)] [] := by
  unfold fX0_cross at h
  refine z_iload_n X dX0_cross_0 3 rfl ?_
  refine z_iconst (v := (2 : Int32)) X dX0_cross_1 rfl ?_
  refine z_icmp_ne (tgt := 9) X dX0_cross_2 (by decide) (fun c2 => ?_) (fun c2 => ?_)
  · replace h := zif_f h c2
    refine z_iload_n X dX0_cross_9 3 rfl ?_
    refine z_iconst (v := (1 : Int32)) X dX0_cross_10 rfl ?_
    refine z_iadd X dX0_cross_11 ?_
    exact z_at (pc2 := 12) (lv2 := [(0, .ref (aO 0)), (1, .int x1), (2, .int x2), (3, .int x3)]) (st2 := [.int (x3 + (1 : Int32))]) (ws2 := [wX0 (zcT C) aO (aP 0) (aS 0) (aB 0) (aK 0) sO, wX7 (zcT C) aS sS]) rfl rfl rfl [0, 1, 2, 3] rfl (bX0_cross_12 X hQ  h)
  · replace h := zif_t h c2
    refine z_iconst (v := (0 : Int32)) X dX0_cross_5 rfl ?_
    refine z_goto (tgt := 12) X dX0_cross_6 (by decide) ?_
    exact z_at (pc2 := 12) (lv2 := [(0, .ref (aO 0)), (1, .int x1), (2, .int x2), (3, .int x3)]) (st2 := [.int (0 : Int32)]) (ws2 := [wX0 (zcT C) aO (aP 0) (aS 0) (aB 0) (aK 0) sO, wX7 (zcT C) aS sS]) rfl rfl rfl [0, 1, 2, 3] rfl (bX0_cross_12 X hQ  h)
theorem metX0_cross (l : Launch) (D : va_G) (T : Nat → ClassId) (aO : Nat → Nat) (aP : Nat → Nat) (aS : Nat → Nat) (aB : Nat → Nat) (aK : Nat → Nat) {sO : zSt} {sS : zSt} {x1 : Int32} {x2 : Int32} {x3 : Int32} {out : Int64} (hf : fX0_cross sO sS x1 x2 x3 = some out) (sz : Nat) : Met l yX0_cross (zws yX0_cross cX0_cross 6 (some .long)) rmX0_cross (zPc D T [.ref (aO 0), .int x1, .int x2, .int x3] [wX0 T aO (aP 0) (aS 0) (aB 0) (aK 0) sO, wX7 T aS sS] sz) (zQl D out [] (zA [] sz)) 0 0 (zA [] sz) :=
  zMet (D := D) (T := T) (av := [.ref (aO 0), .int x1, .int x2, .int x3]) (ws := fun T => [wX0 T aO (aP 0) (aS 0) (aB 0) (aK 0) sO, wX7 T aS sS]) (wm := fun T => []) (lv0 := [(0, .ref (aO 0)), (1, .int x1), (2, .int x2), (3, .int x3)]) [] (Qc := fun D T A => zQl D out [] A) (by decide +kernel) rfl (Nat.le_of_ble_eq_true rfl) rfl (fun C X hQ => bX0_cross_0 X hQ hf) sz
/-- private boolean meet(int, int, int); of Tableaufloor$Corners -/
abbrev rmX0_meet : Room := { frames := 2, cells := 0, slots := 0, locals := 48 }
def fX0_meet_165 (sO : zSt) (sP : zSt) (sS : zSt) (sK : zSt) (y1 : Int64) : Option (Int32 × zSt) :=
  (zlet (zsl sK 1 y1) (fun sK165 =>
    (zlet (zsi sK165 2 (zgi sP 8)) (fun sK179 =>
    some ((1 : Int32), sK179)))))
def fX0_meet_68 (sO : zSt) (sP : zSt) (sS : zSt) : Nat → zSt → Int32 → Int32 → Int32 → Int64 → Int32 → Int32 → Option (Int32 × zSt)
  | 0, _, _, _, _, _, _, _ => none
  | n + 1, sK, x1, x2, x3, x4, x6, x7 =>
    (if (3 : Int32) ≤ x7 then
      (if (0 : Int64) ≤ x4 then
        (fX0_meet_165 sO sP sS sK x4)
      else
        (fX0_meet_165 sO sP sS sK (-x4)))
    else
      ((fX7_constantOf sS x1).bind (fun o88 =>
        ((fX0_cross sO sS x2 x3 x7).bind (fun o96 =>
        ((fX7_constantOf sS x2).bind (fun o105 =>
        ((fX0_cross sO sS x3 x1 x7).bind (fun o113 =>
        ((fX7_constantOf sS x3).bind (fun o123 =>
        ((fX0_cross sO sS x1 x2 x7).bind (fun o131 =>
        ((fX4_putTop sK x7 (((x6).toInt64) * (((o88 * o96) + (o105 * o113)) + (o123 * o131)))).bind (fun o137 =>
        (zlet (x7 + 1) (fun v140 =>
        (fX0_meet_68 sO sP sS n o137 x1 x2 x3 x4 x6 v140))))))))))))))))))
def fX0_meet_63 (sO : zSt) (sP : zSt) (sS : zSt) (sK : zSt) (x1 : Int32) (x2 : Int32) (x3 : Int32) (x4 : Int64) (y0 : Int32) : Option (Int32 × zSt) :=
  (fX0_meet_68 sO sP sS 6000 sK x1 x2 x3 x4 y0 (0 : Int32))
def fX0_meet_6 (sO : zSt) (sP : zSt) (sS : zSt) : Nat → zSt → Int32 → Int32 → Int32 → Int64 → Int32 → Option (Int32 × zSt)
  | 0, _, _, _, _, _, _ => none
  | n + 1, sK, x1, x2, x3, x4, x6 =>
    (if (3 : Int32) ≤ x6 then
      (if x4 = (0 : Int64) then
        some ((0 : Int32), sK)
      else
        (if (0 : Int64) ≤ x4 then
          (fX0_meet_63 sO sP sS sK x1 x2 x3 x4 (-1 : Int32))
        else
          (fX0_meet_63 sO sP sS sK x1 x2 x3 x4 (1 : Int32))))
    else
      ((fX7_slopeOf sS x1 x6).bind (fun o21 =>
        ((fX0_cross sO sS x2 x3 x6).bind (fun o29 =>
        (zlet (x4 + (o21 * o29)) (fun v34 =>
        (zlet (x6 + 1) (fun v36 =>
        (fX0_meet_6 sO sP sS n sK x1 x2 x3 v34 v36))))))))))
def fX0_meet (sO : zSt) (sP : zSt) (sS : zSt) (sK : zSt) (x1 : Int32) (x2 : Int32) (x3 : Int32) : Option (Int32 × zSt) :=
  (fX0_meet_6 sO sP sS 6000 sK x1 x2 x3 (0 : Int64) (0 : Int32))
theorem bX0_meet_165 {C : zCtx} (X : zFx C cX0_meet 8 RX0 rmX0_meet (some .boolean)) {aO : Nat → Nat} {aP : Nat → Nat} {aS : Nat → Nat} {aB : Nat → Nat} {aK : Nat → Nat} {sO : zSt} {sP : zSt} {sS : zSt} {sK : zSt} {y1 : Int64} {out : Int32 × zSt} (hQ : zHi C out.1 [wX4 (zcT C) aK out.2] 0 0) (h : fX0_meet_165 sO sP sS sK y1 = some out) : zG C 8 [3] 0 0 [wX0 (zcT C) aO (aP 0) (aS 0) (aB 0) (aK 0) sO, wX5 (zcT C) aP sP, wX7 (zcT C) aS sS, wX4 (zcT C) aK sK] 165 [(0, .ref (aO 0))] [.long y1, .ref (aK 0)] := by
  unfold fX0_meet_165 at h
  obtain ⟨sK165, esK165, h⟩ := zlet_of h
  refine z_putN (ws2 := [wX0 (zcT C) aO (aP 0) (aS 0) (aB 0) (aK 0) sO, wX5 (zcT C) aP sP, wX7 (zcT C) aS sS, wX4 (zcT C) aK sK165]) X 3 0 5 1 ziX4 rfl tyX4 tyX4_ok nmX4 (by decide) zw221 rfl rfl (ty := .long) (by decide +kernel) rfl rfl (by show 1 < 3; decide) dX0_meet_165 rfl rfl (by decide) (w2 := wX4 (zcT C) aK sK165) (by rw [esK165]; rfl) rfl ?_
  refine z_aload_n X dX0_meet_168 0 rfl ?_
  refine z_get (v := .ref (aK 0)) X 0 0 1 3 ziX0 rfl (by decide) zw311 rfl dX0_meet_169 rfl rfl rfl ?_
  refine z_aload_n X dX0_meet_172 0 rfl ?_
  refine z_get (v := .ref (aP 0)) X 0 0 1 0 ziX0 rfl (by decide) zw307 rfl dX0_meet_173 rfl rfl rfl ?_
  refine z_getN (v := .int (zgi sP 8)) X 1 0 6 8 ziX5 rfl (by decide) zw63 rfl dX0_meet_176 rfl rfl rfl ?_
  obtain ⟨sK179, esK179, h⟩ := zlet_of h
  refine z_putN (ws2 := [wX0 (zcT C) aO (aP 0) (aS 0) (aB 0) (aK 0) sO, wX5 (zcT C) aP sP, wX7 (zcT C) aS sS, wX4 (zcT C) aK sK179]) X 3 0 5 2 ziX4 rfl tyX4 tyX4_ok nmX4 (by decide) zw227 rfl rfl (ty := .int) (by decide +kernel) rfl rfl (by show 2 < 3; decide) dX0_meet_179 rfl rfl (by decide) (w2 := wX4 (zcT C) aK sK179) (by rw [esK179]; rfl) rfl ?_
  refine z_iconst (v := (1 : Int32)) X dX0_meet_182 rfl ?_
  cases h
  exact z_nret X hQ rfl dX0_meet_183 rfl [3] rfl (by decide) (by decide)
theorem bX0_meet_68 {C : zCtx} (X : zFx C cX0_meet 8 RX0 rmX0_meet (some .boolean)) {aO : Nat → Nat} {aP : Nat → Nat} {aS : Nat → Nat} {aB : Nat → Nat} {aK : Nat → Nat} {sO : zSt} {sP : zSt} {sS : zSt} {out : Int32 × zSt} (hQ : zHi C out.1 [wX4 (zcT C) aK out.2] 0 0) : ∀ (n : Nat) (sK : zSt) (x1 : Int32) (x2 : Int32) (x3 : Int32) (x4 : Int64) (x6 : Int32) (x7 : Int32), fX0_meet_68 sO sP sS n sK x1 x2 x3 x4 x6 x7 = some out → zG C 8 [3] 0 0 [wX0 (zcT C) aO (aP 0) (aS 0) (aB 0) (aK 0) sO, wX5 (zcT C) aP sP, wX7 (zcT C) aS sS, wX4 (zcT C) aK sK] 68 [(0, .ref (aO 0)), (1, .int x1), (2, .int x2), (3, .int x3), (4, .long x4), (6, .int x6), (7, .int x7)] [] := by
  intro n
  induction n with
  | zero =>
    intro sK x1 x2 x3 x4 x6 x7 h
    rw [fX0_meet_68] at h
    exact zno h
  | succ n ih =>
    intro sK x1 x2 x3 x4 x6 x7 h
    rw [fX0_meet_68] at h
    refine z_iload X dX0_meet_68 6 rfl ?_
    refine z_iconst (v := (3 : Int32)) X dX0_meet_70 rfl ?_
    refine z_icmp_ge (tgt := 146) X dX0_meet_71 (by decide) (fun c71 => ?_) (fun c71 => ?_)
    · replace h := zif_t h c71
      refine z_aload_n X dX0_meet_146 0 rfl ?_
      refine z_get (v := .ref (aK 0)) X 0 0 1 3 ziX0 rfl (by decide) zw311 rfl dX0_meet_147 rfl rfl rfl ?_
      refine z_lload X dX0_meet_150 4 rfl ?_
      refine z_lconst (v := (0 : Int64)) X dX0_meet_152 rfl ?_
      refine z_lcmp_ge (tgt := 163) X dX0_meet_153 dX0_meet_154 (by decide) (fun c153 => ?_) (fun c153 => ?_)
      · replace h := zif_t h c153
        refine z_lload X dX0_meet_163 4 rfl ?_
        exact z_at (pc2 := 165) (lv2 := [(0, .ref (aO 0))]) (st2 := [.long x4, .ref (aK 0)]) (ws2 := [wX0 (zcT C) aO (aP 0) (aS 0) (aB 0) (aK 0) sO, wX5 (zcT C) aP sP, wX7 (zcT C) aS sS, wX4 (zcT C) aK sK]) rfl rfl rfl [0] rfl (bX0_meet_165 X hQ  h)
      · replace h := zif_f h c153
        refine z_lload X dX0_meet_157 4 rfl ?_
        refine z_lneg X dX0_meet_159 ?_
        refine z_goto (tgt := 165) X dX0_meet_160 (by decide) ?_
        exact z_at (pc2 := 165) (lv2 := [(0, .ref (aO 0))]) (st2 := [.long (-x4), .ref (aK 0)]) (ws2 := [wX0 (zcT C) aO (aP 0) (aS 0) (aB 0) (aK 0) sO, wX5 (zcT C) aP sP, wX7 (zcT C) aS sS, wX4 (zcT C) aK sK]) rfl rfl rfl [0] rfl (bX0_meet_165 X hQ  h)
    · replace h := zif_f h c71
      refine z_aload_n X dX0_meet_74 0 rfl ?_
      refine z_get (v := .ref (aK 0)) X 0 0 1 3 ziX0 rfl (by decide) zw311 rfl dX0_meet_75 rfl rfl rfl ?_
      refine z_iload X dX0_meet_78 6 rfl ?_
      refine z_iload X dX0_meet_80 5 rfl ?_
      refine z_i2l X dX0_meet_82 ?_
      refine z_aload_n X dX0_meet_83 0 rfl ?_
      refine z_get (v := .ref (aS 0)) X 0 0 1 1 ziX0 rfl (by decide) zw308 rfl dX0_meet_84 rfl rfl rfl ?_
      refine z_iload_n X dX0_meet_87 1 rfl ?_
      obtain ⟨o88, ho88, h⟩ := zbind_of h
      refine z_callVl (st := [.long ((x6).toInt64), .int x7, .ref (aK 0)]) (ws2 := [wX0 (zcT C) aO (aP 0) (aS 0) (aB 0) (aK 0) sO, wX5 (zcT C) aP sP, wX7 (zcT C) aS sS, wX4 (zcT C) aK sK]) X (metX7_constantOf (zcl C) (zcD C) (zcT C) aS ho88) zmX7_constantOf zw1150 dX0_meet_88 2 0 8 rfl rfl rfl rfl [2] rfl rfl [] rfl (by decide) trivial rfl rfl rfl (Nat.le_of_ble_eq_true rfl) rfl rfl ⟨Nat.le_of_ble_eq_true rfl, Nat.le_of_ble_eq_true rfl⟩ ⟨Nat.le_of_ble_eq_true rfl, Nat.le_of_ble_eq_true rfl⟩ ?_
      refine z_aload_n X dX0_meet_91 0 rfl ?_
      refine z_iload_n X dX0_meet_92 2 rfl ?_
      refine z_iload_n X dX0_meet_93 3 rfl ?_
      refine z_iload X dX0_meet_94 6 rfl ?_
      obtain ⟨o96, ho96, h⟩ := zbind_of h
      refine z_callVl (st := [.long o88, .long ((x6).toInt64), .int x7, .ref (aK 0)]) (ws2 := [wX0 (zcT C) aO (aP 0) (aS 0) (aB 0) (aK 0) sO, wX5 (zcT C) aP sP, wX7 (zcT C) aS sS, wX4 (zcT C) aK sK]) X (metX0_cross (zcl C) (zcD C) (zcT C) aO aP aS aB aK ho96) zmX0_cross zw1146 dX0_meet_96 0 0 1 rfl rfl rfl rfl [0, 2] rfl rfl [] rfl (by decide) trivial rfl rfl rfl (Nat.le_of_ble_eq_true rfl) rfl rfl ⟨Nat.le_of_ble_eq_true rfl, Nat.le_of_ble_eq_true rfl⟩ ⟨Nat.le_of_ble_eq_true rfl, Nat.le_of_ble_eq_true rfl⟩ ?_
      refine z_lmul X dX0_meet_99 ?_
      refine z_aload_n X dX0_meet_100 0 rfl ?_
      refine z_get (v := .ref (aS 0)) X 0 0 1 1 ziX0 rfl (by decide) zw308 rfl dX0_meet_101 rfl rfl rfl ?_
      refine z_iload_n X dX0_meet_104 2 rfl ?_
      obtain ⟨o105, ho105, h⟩ := zbind_of h
      refine z_callVl (st := [.long (o88 * o96), .long ((x6).toInt64), .int x7, .ref (aK 0)]) (ws2 := [wX0 (zcT C) aO (aP 0) (aS 0) (aB 0) (aK 0) sO, wX5 (zcT C) aP sP, wX7 (zcT C) aS sS, wX4 (zcT C) aK sK]) X (metX7_constantOf (zcl C) (zcD C) (zcT C) aS ho105) zmX7_constantOf zw1150 dX0_meet_105 2 0 8 rfl rfl rfl rfl [2] rfl rfl [] rfl (by decide) trivial rfl rfl rfl (Nat.le_of_ble_eq_true rfl) rfl rfl ⟨Nat.le_of_ble_eq_true rfl, Nat.le_of_ble_eq_true rfl⟩ ⟨Nat.le_of_ble_eq_true rfl, Nat.le_of_ble_eq_true rfl⟩ ?_
      refine z_aload_n X dX0_meet_108 0 rfl ?_
      refine z_iload_n X dX0_meet_109 3 rfl ?_
      refine z_iload_n X dX0_meet_110 1 rfl ?_
      refine z_iload X dX0_meet_111 6 rfl ?_
      obtain ⟨o113, ho113, h⟩ := zbind_of h
      refine z_callVl (st := [.long o105, .long (o88 * o96), .long ((x6).toInt64), .int x7, .ref (aK 0)]) (ws2 := [wX0 (zcT C) aO (aP 0) (aS 0) (aB 0) (aK 0) sO, wX5 (zcT C) aP sP, wX7 (zcT C) aS sS, wX4 (zcT C) aK sK]) X (metX0_cross (zcl C) (zcD C) (zcT C) aO aP aS aB aK ho113) zmX0_cross zw1146 dX0_meet_113 0 0 1 rfl rfl rfl rfl [0, 2] rfl rfl [] rfl (by decide) trivial rfl rfl rfl (Nat.le_of_ble_eq_true rfl) rfl rfl ⟨Nat.le_of_ble_eq_true rfl, Nat.le_of_ble_eq_true rfl⟩ ⟨Nat.le_of_ble_eq_true rfl, Nat.le_of_ble_eq_true rfl⟩ ?_
      refine z_lmul X dX0_meet_116 ?_
      refine z_ladd X dX0_meet_117 ?_
      refine z_aload_n X dX0_meet_118 0 rfl ?_
      refine z_get (v := .ref (aS 0)) X 0 0 1 1 ziX0 rfl (by decide) zw308 rfl dX0_meet_119 rfl rfl rfl ?_
      refine z_iload_n X dX0_meet_122 3 rfl ?_
      obtain ⟨o123, ho123, h⟩ := zbind_of h
      refine z_callVl (st := [.long ((o88 * o96) + (o105 * o113)), .long ((x6).toInt64), .int x7, .ref (aK 0)]) (ws2 := [wX0 (zcT C) aO (aP 0) (aS 0) (aB 0) (aK 0) sO, wX5 (zcT C) aP sP, wX7 (zcT C) aS sS, wX4 (zcT C) aK sK]) X (metX7_constantOf (zcl C) (zcD C) (zcT C) aS ho123) zmX7_constantOf zw1150 dX0_meet_123 2 0 8 rfl rfl rfl rfl [2] rfl rfl [] rfl (by decide) trivial rfl rfl rfl (Nat.le_of_ble_eq_true rfl) rfl rfl ⟨Nat.le_of_ble_eq_true rfl, Nat.le_of_ble_eq_true rfl⟩ ⟨Nat.le_of_ble_eq_true rfl, Nat.le_of_ble_eq_true rfl⟩ ?_
      refine z_aload_n X dX0_meet_126 0 rfl ?_
      refine z_iload_n X dX0_meet_127 1 rfl ?_
      refine z_iload_n X dX0_meet_128 2 rfl ?_
      refine z_iload X dX0_meet_129 6 rfl ?_
      obtain ⟨o131, ho131, h⟩ := zbind_of h
      refine z_callVl (st := [.long o123, .long ((o88 * o96) + (o105 * o113)), .long ((x6).toInt64), .int x7, .ref (aK 0)]) (ws2 := [wX0 (zcT C) aO (aP 0) (aS 0) (aB 0) (aK 0) sO, wX5 (zcT C) aP sP, wX7 (zcT C) aS sS, wX4 (zcT C) aK sK]) X (metX0_cross (zcl C) (zcD C) (zcT C) aO aP aS aB aK ho131) zmX0_cross zw1146 dX0_meet_131 0 0 1 rfl rfl rfl rfl [0, 2] rfl rfl [] rfl (by decide) trivial rfl rfl rfl (Nat.le_of_ble_eq_true rfl) rfl rfl ⟨Nat.le_of_ble_eq_true rfl, Nat.le_of_ble_eq_true rfl⟩ ⟨Nat.le_of_ble_eq_true rfl, Nat.le_of_ble_eq_true rfl⟩ ?_
      refine z_lmul X dX0_meet_134 ?_
      refine z_ladd X dX0_meet_135 ?_
      refine z_lmul X dX0_meet_136 ?_
      obtain ⟨o137, ho137, h⟩ := zbind_of h
      refine z_callVv (st := []) (ws2 := [wX0 (zcT C) aO (aP 0) (aS 0) (aB 0) (aK 0) sO, wX5 (zcT C) aP sP, wX7 (zcT C) aS sS, wX4 (zcT C) aK o137]) X (metX4_putTop (zcl C) (zcD C) (zcT C) aK ho137) zmX4_putTop zw1151 dX0_meet_137 3 0 5 rfl rfl rfl rfl [3] rfl rfl [3] rfl (by decide) ⟨zsX4 , trivial⟩ rfl rfl rfl (Nat.le_of_ble_eq_true rfl) rfl rfl ⟨Nat.le_of_ble_eq_true rfl, Nat.le_of_ble_eq_true rfl⟩ ⟨Nat.le_of_ble_eq_true rfl, Nat.le_of_ble_eq_true rfl⟩ ?_
      obtain ⟨v140, ev140, h⟩ := zlet_of h
      refine z_iinc (v := v140) (lv2 := [(7, .int v140), (0, .ref (aO 0)), (1, .int x1), (2, .int x2), (3, .int x3), (4, .long x4), (6, .int x6)]) X dX0_meet_140 (k := 6) rfl (by rw [ev140]; rfl) (by decide) rfl ?_
      refine z_goto (tgt := 68) X dX0_meet_143 (by decide) ?_
      exact z_at (pc2 := 68) (lv2 := [(0, .ref (aO 0)), (1, .int x1), (2, .int x2), (3, .int x3), (4, .long x4), (6, .int x6), (7, .int v140)]) (st2 := []) (ws2 := [wX0 (zcT C) aO (aP 0) (aS 0) (aB 0) (aK 0) sO, wX5 (zcT C) aP sP, wX7 (zcT C) aS sS, wX4 (zcT C) aK o137]) rfl rfl rfl [1, 2, 3, 4, 5, 6, 0] rfl (ih o137 x1 x2 x3 x4 x6 v140 h)
theorem bX0_meet_63 {C : zCtx} (X : zFx C cX0_meet 8 RX0 rmX0_meet (some .boolean)) {aO : Nat → Nat} {aP : Nat → Nat} {aS : Nat → Nat} {aB : Nat → Nat} {aK : Nat → Nat} {sO : zSt} {sP : zSt} {sS : zSt} {sK : zSt} {x1 : Int32} {x2 : Int32} {x3 : Int32} {x4 : Int64} {y0 : Int32} {out : Int32 × zSt} (hQ : zHi C out.1 [wX4 (zcT C) aK out.2] 0 0) (h : fX0_meet_63 sO sP sS sK x1 x2 x3 x4 y0 = some out) : zG C 8 [3] 0 0 [wX0 (zcT C) aO (aP 0) (aS 0) (aB 0) (aK 0) sO, wX5 (zcT C) aP sP, wX7 (zcT C) aS sS, wX4 (zcT C) aK sK] 63 [(0, .ref (aO 0)), (1, .int x1), (2, .int x2), (3, .int x3), (4, .long x4)] [.int y0] := by
  unfold fX0_meet_63 at h
  refine z_istore (lv2 := [(6, .int y0), (0, .ref (aO 0)), (1, .int x1), (2, .int x2), (3, .int x3), (4, .long x4)]) X dX0_meet_63 (by decide) rfl ?_
  refine z_iconst (v := (0 : Int32)) X dX0_meet_65 rfl ?_
  refine z_istore (lv2 := [(7, .int (0 : Int32)), (6, .int y0), (0, .ref (aO 0)), (1, .int x1), (2, .int x2), (3, .int x3), (4, .long x4)]) X dX0_meet_66 (by decide) rfl ?_
  exact z_at (pc2 := 68) (lv2 := [(0, .ref (aO 0)), (1, .int x1), (2, .int x2), (3, .int x3), (4, .long x4), (6, .int y0), (7, .int (0 : Int32))]) (st2 := []) (ws2 := [wX0 (zcT C) aO (aP 0) (aS 0) (aB 0) (aK 0) sO, wX5 (zcT C) aP sP, wX7 (zcT C) aS sS, wX4 (zcT C) aK sK]) rfl rfl rfl [2, 3, 4, 5, 6, 1, 0] rfl (bX0_meet_68 X hQ  6000 sK x1 x2 x3 x4 y0 (0 : Int32) h)
theorem bX0_meet_6 {C : zCtx} (X : zFx C cX0_meet 8 RX0 rmX0_meet (some .boolean)) {aO : Nat → Nat} {aP : Nat → Nat} {aS : Nat → Nat} {aB : Nat → Nat} {aK : Nat → Nat} {sO : zSt} {sP : zSt} {sS : zSt} {out : Int32 × zSt} (hQ : zHi C out.1 [wX4 (zcT C) aK out.2] 0 0) : ∀ (n : Nat) (sK : zSt) (x1 : Int32) (x2 : Int32) (x3 : Int32) (x4 : Int64) (x6 : Int32), fX0_meet_6 sO sP sS n sK x1 x2 x3 x4 x6 = some out → zG C 8 [3] 0 0 [wX0 (zcT C) aO (aP 0) (aS 0) (aB 0) (aK 0) sO, wX5 (zcT C) aP sP, wX7 (zcT C) aS sS, wX4 (zcT C) aK sK] 6 [(0, .ref (aO 0)), (1, .int x1), (2, .int x2), (3, .int x3), (4, .long x4), (6, .int x6)] [] := by
  intro n
  induction n with
  | zero =>
    intro sK x1 x2 x3 x4 x6 h
    rw [fX0_meet_6] at h
    exact zno h
  | succ n ih =>
    intro sK x1 x2 x3 x4 x6 h
    rw [fX0_meet_6] at h
    refine z_iload X dX0_meet_6 5 rfl ?_
    refine z_iconst (v := (3 : Int32)) X dX0_meet_8 rfl ?_
    refine z_icmp_ge (tgt := 42) X dX0_meet_9 (by decide) (fun c9 => ?_) (fun c9 => ?_)
    · replace h := zif_t h c9
      refine z_lload X dX0_meet_42 4 rfl ?_
      refine z_lconst (v := (0 : Int64)) X dX0_meet_44 rfl ?_
      refine z_lcmp_ne (tgt := 51) X dX0_meet_45 dX0_meet_46 (by decide) (fun c45 => ?_) (fun c45 => ?_)
      · replace h := zif_f h c45
        refine z_lload X dX0_meet_51 4 rfl ?_
        refine z_lconst (v := (0 : Int64)) X dX0_meet_53 rfl ?_
        refine z_lcmp_ge (tgt := 62) X dX0_meet_54 dX0_meet_55 (by decide) (fun c54 => ?_) (fun c54 => ?_)
        · replace h := zif_t h c54
          refine z_iconst (v := (-1 : Int32)) X dX0_meet_62 rfl ?_
          exact z_at (pc2 := 63) (lv2 := [(0, .ref (aO 0)), (1, .int x1), (2, .int x2), (3, .int x3), (4, .long x4)]) (st2 := [.int (-1 : Int32)]) (ws2 := [wX0 (zcT C) aO (aP 0) (aS 0) (aB 0) (aK 0) sO, wX5 (zcT C) aP sP, wX7 (zcT C) aS sS, wX4 (zcT C) aK sK]) rfl rfl rfl [0, 1, 2, 3, 4] rfl (bX0_meet_63 X hQ  h)
        · replace h := zif_f h c54
          refine z_iconst (v := (1 : Int32)) X dX0_meet_58 rfl ?_
          refine z_goto (tgt := 63) X dX0_meet_59 (by decide) ?_
          exact z_at (pc2 := 63) (lv2 := [(0, .ref (aO 0)), (1, .int x1), (2, .int x2), (3, .int x3), (4, .long x4)]) (st2 := [.int (1 : Int32)]) (ws2 := [wX0 (zcT C) aO (aP 0) (aS 0) (aB 0) (aK 0) sO, wX5 (zcT C) aP sP, wX7 (zcT C) aS sS, wX4 (zcT C) aK sK]) rfl rfl rfl [0, 1, 2, 3, 4] rfl (bX0_meet_63 X hQ  h)
      · replace h := zif_t h c45
        refine z_iconst (v := (0 : Int32)) X dX0_meet_49 rfl ?_
        cases h
        exact z_nret X hQ rfl dX0_meet_50 rfl [3] rfl (by decide) (by decide)
    · replace h := zif_f h c9
      refine z_lload X dX0_meet_12 4 rfl ?_
      refine z_aload_n X dX0_meet_14 0 rfl ?_
      refine z_get (v := .ref (aS 0)) X 0 0 1 1 ziX0 rfl (by decide) zw308 rfl dX0_meet_15 rfl rfl rfl ?_
      refine z_iload_n X dX0_meet_18 1 rfl ?_
      refine z_iload X dX0_meet_19 5 rfl ?_
      obtain ⟨o21, ho21, h⟩ := zbind_of h
      refine z_callVl (st := [.long x4]) (ws2 := [wX0 (zcT C) aO (aP 0) (aS 0) (aB 0) (aK 0) sO, wX5 (zcT C) aP sP, wX7 (zcT C) aS sS, wX4 (zcT C) aK sK]) X (metX7_slopeOf (zcl C) (zcD C) (zcT C) aS ho21) zmX7_slopeOf zw1145 dX0_meet_21 2 0 8 rfl rfl rfl rfl [2] rfl rfl [] rfl (by decide) trivial rfl rfl rfl (Nat.le_of_ble_eq_true rfl) rfl rfl ⟨Nat.le_of_ble_eq_true rfl, Nat.le_of_ble_eq_true rfl⟩ ⟨Nat.le_of_ble_eq_true rfl, Nat.le_of_ble_eq_true rfl⟩ ?_
      refine z_aload_n X dX0_meet_24 0 rfl ?_
      refine z_iload_n X dX0_meet_25 2 rfl ?_
      refine z_iload_n X dX0_meet_26 3 rfl ?_
      refine z_iload X dX0_meet_27 5 rfl ?_
      obtain ⟨o29, ho29, h⟩ := zbind_of h
      refine z_callVl (st := [.long o21, .long x4]) (ws2 := [wX0 (zcT C) aO (aP 0) (aS 0) (aB 0) (aK 0) sO, wX5 (zcT C) aP sP, wX7 (zcT C) aS sS, wX4 (zcT C) aK sK]) X (metX0_cross (zcl C) (zcD C) (zcT C) aO aP aS aB aK ho29) zmX0_cross zw1146 dX0_meet_29 0 0 1 rfl rfl rfl rfl [0, 2] rfl rfl [] rfl (by decide) trivial rfl rfl rfl (Nat.le_of_ble_eq_true rfl) rfl rfl ⟨Nat.le_of_ble_eq_true rfl, Nat.le_of_ble_eq_true rfl⟩ ⟨Nat.le_of_ble_eq_true rfl, Nat.le_of_ble_eq_true rfl⟩ ?_
      refine z_lmul X dX0_meet_32 ?_
      refine z_ladd X dX0_meet_33 ?_
      obtain ⟨v34, ev34, h⟩ := zlet_of h
      refine z_topl ev34 ?_
      refine z_lstore (lv2 := [(4, .long v34), (0, .ref (aO 0)), (1, .int x1), (2, .int x2), (3, .int x3), (6, .int x6)]) X dX0_meet_34 (by decide) rfl ?_
      obtain ⟨v36, ev36, h⟩ := zlet_of h
      refine z_iinc (v := v36) (lv2 := [(6, .int v36), (4, .long v34), (0, .ref (aO 0)), (1, .int x1), (2, .int x2), (3, .int x3)]) X dX0_meet_36 (k := 5) rfl (by rw [ev36]; rfl) (by decide) rfl ?_
      refine z_goto (tgt := 6) X dX0_meet_39 (by decide) ?_
      exact z_at (pc2 := 6) (lv2 := [(0, .ref (aO 0)), (1, .int x1), (2, .int x2), (3, .int x3), (4, .long v34), (6, .int v36)]) (st2 := []) (ws2 := [wX0 (zcT C) aO (aP 0) (aS 0) (aB 0) (aK 0) sO, wX5 (zcT C) aP sP, wX7 (zcT C) aS sS, wX4 (zcT C) aK sK]) rfl rfl rfl [2, 3, 4, 5, 1, 0] rfl (ih sK x1 x2 x3 v34 v36 h)
theorem bX0_meet_0 {C : zCtx} (X : zFx C cX0_meet 8 RX0 rmX0_meet (some .boolean)) {aO : Nat → Nat} {aP : Nat → Nat} {aS : Nat → Nat} {aB : Nat → Nat} {aK : Nat → Nat} {sO : zSt} {sP : zSt} {sS : zSt} {sK : zSt} {x1 : Int32} {x2 : Int32} {x3 : Int32} {out : Int32 × zSt} (hQ : zHi C out.1 [wX4 (zcT C) aK out.2] 0 0) (h : fX0_meet sO sP sS sK x1 x2 x3 = some out) : zG C 8 [3] 0 0 [wX0 (zcT C) aO (aP 0) (aS 0) (aB 0) (aK 0) sO, wX5 (zcT C) aP sP, wX7 (zcT C) aS sS, wX4 (zcT C) aK sK] 0 [(0, .ref (aO 0)), (1, .int x1), (2, .int x2), (3, .int x3)] [] := by
  unfold fX0_meet at h
  refine z_lconst (v := (0 : Int64)) X dX0_meet_0 rfl ?_
  refine z_lstore (lv2 := [(4, .long (0 : Int64)), (0, .ref (aO 0)), (1, .int x1), (2, .int x2), (3, .int x3)]) X dX0_meet_1 (by decide) rfl ?_
  refine z_iconst (v := (0 : Int32)) X dX0_meet_3 rfl ?_
  refine z_istore (lv2 := [(6, .int (0 : Int32)), (4, .long (0 : Int64)), (0, .ref (aO 0)), (1, .int x1), (2, .int x2), (3, .int x3)]) X dX0_meet_4 (by decide) rfl ?_
  exact z_at (pc2 := 6) (lv2 := [(0, .ref (aO 0)), (1, .int x1), (2, .int x2), (3, .int x3), (4, .long (0 : Int64)), (6, .int (0 : Int32))]) (st2 := []) (ws2 := [wX0 (zcT C) aO (aP 0) (aS 0) (aB 0) (aK 0) sO, wX5 (zcT C) aP sP, wX7 (zcT C) aS sS, wX4 (zcT C) aK sK]) rfl rfl rfl [2, 3, 4, 5, 1, 0] rfl (bX0_meet_6 X hQ  6000 sK x1 x2 x3 (0 : Int64) (0 : Int32) h)
theorem metX0_meet (l : Launch) (D : va_G) (T : Nat → ClassId) (aO : Nat → Nat) (aP : Nat → Nat) (aS : Nat → Nat) (aB : Nat → Nat) (aK : Nat → Nat) {sO : zSt} {sP : zSt} {sS : zSt} {sK : zSt} {x1 : Int32} {x2 : Int32} {x3 : Int32} {out : Int32 × zSt} (hf : fX0_meet sO sP sS sK x1 x2 x3 = some out) (sz : Nat) : Met l yX0_meet (zws yX0_meet cX0_meet 8 (some .boolean)) rmX0_meet (zPc D T [.ref (aO 0), .int x1, .int x2, .int x3] [wX0 T aO (aP 0) (aS 0) (aB 0) (aK 0) sO, wX5 T aP sP, wX7 T aS sS, wX4 T aK sK] sz) (zQi D out.1 [wX4 T aK out.2] (zA [wX4 T aK sK] sz)) 0 0 (zA [wX4 T aK sK] sz) :=
  zMet (D := D) (T := T) (av := [.ref (aO 0), .int x1, .int x2, .int x3]) (ws := fun T => [wX0 T aO (aP 0) (aS 0) (aB 0) (aK 0) sO, wX5 T aP sP, wX7 T aS sS, wX4 T aK sK]) (wm := fun T => [wX4 T aK sK]) (lv0 := [(0, .ref (aO 0)), (1, .int x1), (2, .int x2), (3, .int x3)]) [3] (Qc := fun D T A => zQi D out.1 [wX4 T aK out.2] A) (by decide +kernel) rfl (Nat.le_of_ble_eq_true rfl) rfl (fun C X hQ => bX0_meet_0 X hQ hf) sz
/-- private void lookAt(int, int, int); of Tableaufloor$Corners -/
abbrev rmX0_lookAt : Room := { frames := 4, cells := 0, slots := 0, locals := 88 }
def fX0_lookAt_67 (sP : zSt) (sS : zSt) (sO : zSt) (sB : zSt) (sK : zSt) : Option (zSt × zSt × zSt) :=
  some (sO, sB, sK)
def fX0_lookAt_51 (sP : zSt) (sS : zSt) (sO : zSt) (sB : zSt) (sK : zSt) : Option (zSt × zSt × zSt) :=
  ((fX4_copy sB sK).bind (fun o59 =>
    (zlet (zsi sO 4 (1 : Int32)) (fun sO64 =>
    (fX0_lookAt_67 sP sS sO64 o59 sK)))))
def fX0_lookAt (sO : zSt) (sP : zSt) (sS : zSt) (sB : zSt) (sK : zSt) (x1 : Int32) (x2 : Int32) (x3 : Int32) : Option (zSt × zSt × zSt) :=
  ((fX0_meet sO sP sS sK x1 x2 x3).bind (fun o4 =>
    (if o4.1 = 0 then
    (fX0_lookAt_67 sP sS sO sB o4.2)
  else
    ((fX5_breakerOf sP o4.2).bind (fun o18 =>
      (if o18 = (100 : Int32) then
      (if (zgi sO 4) = 0 then
        (fX0_lookAt_51 sP sS sO sB o4.2)
      else
        ((fX5_compareByAims sP o4.2 sB).bind (fun o45 =>
          (if o45 ≤ 0 then
          (fX0_lookAt_67 sP sS sO sB o4.2)
        else
          (fX0_lookAt_51 sP sS sO sB o4.2)))))
    else
      (fX0_lookAt_67 sP sS sO sB o4.2)))))))
theorem bX0_lookAt_67 {C : zCtx} (X : zFx C cX0_lookAt 4 RX0 rmX0_lookAt none) {aO : Nat → Nat} {aP : Nat → Nat} {aS : Nat → Nat} {aB : Nat → Nat} {aK : Nat → Nat} {sP : zSt} {sS : zSt} {sO : zSt} {sB : zSt} {sK : zSt} {out : zSt × zSt × zSt} (hQ : zHv C [wX0 (zcT C) aO (aP 0) (aS 0) (aB 0) (aK 0) out.1, wX4 (zcT C) aB out.2.1, wX4 (zcT C) aK out.2.2] 0 0) (h : fX0_lookAt_67 sP sS sO sB sK = some out) : zG C 4 [0, 3, 4] 0 0 [wX0 (zcT C) aO (aP 0) (aS 0) (aB 0) (aK 0) sO, wX5 (zcT C) aP sP, wX7 (zcT C) aS sS, wX4 (zcT C) aB sB, wX4 (zcT C) aK sK] 67 [] [] := by
  unfold fX0_lookAt_67 at h
  cases h
  exact z_vret X hQ dX0_lookAt_67 [0, 3, 4] rfl (by decide) (by decide)
theorem bX0_lookAt_51 {C : zCtx} (X : zFx C cX0_lookAt 4 RX0 rmX0_lookAt none) {aO : Nat → Nat} {aP : Nat → Nat} {aS : Nat → Nat} {aB : Nat → Nat} {aK : Nat → Nat} {sP : zSt} {sS : zSt} {sO : zSt} {sB : zSt} {sK : zSt} {out : zSt × zSt × zSt} (hQ : zHv C [wX0 (zcT C) aO (aP 0) (aS 0) (aB 0) (aK 0) out.1, wX4 (zcT C) aB out.2.1, wX4 (zcT C) aK out.2.2] 0 0) (h : fX0_lookAt_51 sP sS sO sB sK = some out) : zG C 4 [0, 3, 4] 0 0 [wX0 (zcT C) aO (aP 0) (aS 0) (aB 0) (aK 0) sO, wX5 (zcT C) aP sP, wX7 (zcT C) aS sS, wX4 (zcT C) aB sB, wX4 (zcT C) aK sK] 51 [(0, .ref (aO 0))] [] := by
  unfold fX0_lookAt_51 at h
  refine z_aload_n X dX0_lookAt_51 0 rfl ?_
  refine z_get (v := .ref (aB 0)) X 0 0 1 2 ziX0 rfl (by decide) zw309 rfl dX0_lookAt_52 rfl rfl rfl ?_
  refine z_aload_n X dX0_lookAt_55 0 rfl ?_
  refine z_get (v := .ref (aK 0)) X 0 0 1 3 ziX0 rfl (by decide) zw311 rfl dX0_lookAt_56 rfl rfl rfl ?_
  obtain ⟨o59, ho59, h⟩ := zbind_of h
  refine z_callVv (st := []) (ws2 := [wX0 (zcT C) aO (aP 0) (aS 0) (aB 0) (aK 0) sO, wX5 (zcT C) aP sP, wX7 (zcT C) aS sS, wX4 (zcT C) aB o59, wX4 (zcT C) aK sK]) X (metX4_copy (zcl C) (zcD C) (zcT C) aB aK ho59) zmX4_copy zw1159 dX0_lookAt_59 3 0 5 rfl rfl rfl rfl [3, 4] rfl rfl [3] rfl (by decide) ⟨zsX4 , trivial⟩ rfl rfl rfl (Nat.le_of_ble_eq_true rfl) rfl rfl ⟨Nat.le_of_ble_eq_true rfl, Nat.le_of_ble_eq_true rfl⟩ ⟨Nat.le_of_ble_eq_true rfl, Nat.le_of_ble_eq_true rfl⟩ ?_
  refine z_aload_n X dX0_lookAt_62 0 rfl ?_
  refine z_iconst (v := (1 : Int32)) X dX0_lookAt_63 rfl ?_
  obtain ⟨sO64, esO64, h⟩ := zlet_of h
  refine z_put (ws2 := [wX0 (zcT C) aO (aP 0) (aS 0) (aB 0) (aK 0) sO64, wX5 (zcT C) aP sP, wX7 (zcT C) aS sS, wX4 (zcT C) aB o59, wX4 (zcT C) aK sK]) X 0 0 1 4 ziX0 rfl tyX0 tyX0_ok nmX0 (by decide) zw312 rfl rfl (ty := .boolean) (by decide +kernel) rfl rfl (by show 4 < 6; decide) dX0_lookAt_64 rfl rfl (by decide) (w2 := wX0 (zcT C) aO (aP 0) (aS 0) (aB 0) (aK 0) sO64) (by rw [esO64]; rfl) rfl ?_
  exact z_at (pc2 := 67) (lv2 := []) (st2 := []) (ws2 := [wX0 (zcT C) aO (aP 0) (aS 0) (aB 0) (aK 0) sO64, wX5 (zcT C) aP sP, wX7 (zcT C) aS sS, wX4 (zcT C) aB o59, wX4 (zcT C) aK sK]) rfl rfl rfl [] rfl (bX0_lookAt_67 X hQ  h)
theorem bX0_lookAt_0 {C : zCtx} (X : zFx C cX0_lookAt 4 RX0 rmX0_lookAt none) {aO : Nat → Nat} {aP : Nat → Nat} {aS : Nat → Nat} {aB : Nat → Nat} {aK : Nat → Nat} {sO : zSt} {sP : zSt} {sS : zSt} {sB : zSt} {sK : zSt} {x1 : Int32} {x2 : Int32} {x3 : Int32} {out : zSt × zSt × zSt} (hQ : zHv C [wX0 (zcT C) aO (aP 0) (aS 0) (aB 0) (aK 0) out.1, wX4 (zcT C) aB out.2.1, wX4 (zcT C) aK out.2.2] 0 0) (h : fX0_lookAt sO sP sS sB sK x1 x2 x3 = some out) : zG C 4 [0, 3, 4] 0 0 [wX0 (zcT C) aO (aP 0) (aS 0) (aB 0) (aK 0) sO, wX5 (zcT C) aP sP, wX7 (zcT C) aS sS, wX4 (zcT C) aB sB, wX4 (zcT C) aK sK] 0 [(0, .ref (aO 0)), (1, .int x1), (2, .int x2), (3, .int x3)] [] := by
  unfold fX0_lookAt at h
  refine z_aload_n X dX0_lookAt_0 0 rfl ?_
  refine z_iload_n X dX0_lookAt_1 1 rfl ?_
  refine z_iload_n X dX0_lookAt_2 2 rfl ?_
  refine z_iload_n X dX0_lookAt_3 3 rfl ?_
  obtain ⟨o4, ho4, h⟩ := zbind_of h
  refine z_callVi (st := []) (ws2 := [wX0 (zcT C) aO (aP 0) (aS 0) (aB 0) (aK 0) sO, wX5 (zcT C) aP sP, wX7 (zcT C) aS sS, wX4 (zcT C) aB sB, wX4 (zcT C) aK o4.2]) X (metX0_meet (zcl C) (zcD C) (zcT C) aO aP aS aB aK ho4) zmX0_meet zw1141 dX0_lookAt_4 0 0 1 rfl rfl rfl rfl [0, 1, 2, 4] rfl rfl [4] rfl (by decide) ⟨zsX4 , trivial⟩ rfl rfl rfl (Nat.le_of_ble_eq_true rfl) rfl rfl ⟨Nat.le_of_ble_eq_true rfl, Nat.le_of_ble_eq_true rfl⟩ ⟨Nat.le_of_ble_eq_true rfl, Nat.le_of_ble_eq_true rfl⟩ ?_
  refine z_if_eq (tgt := 67) X dX0_lookAt_7 (by decide) (fun c7 => ?_) (fun c7 => ?_)
  · replace h := zif_t h c7
    exact z_at (pc2 := 67) (lv2 := []) (st2 := []) (ws2 := [wX0 (zcT C) aO (aP 0) (aS 0) (aB 0) (aK 0) sO, wX5 (zcT C) aP sP, wX7 (zcT C) aS sS, wX4 (zcT C) aB sB, wX4 (zcT C) aK o4.2]) rfl rfl rfl [] rfl (bX0_lookAt_67 X hQ  h)
  · replace h := zif_f h c7
    refine z_aload_n X dX0_lookAt_10 0 rfl ?_
    refine z_get (v := .ref (aP 0)) X 0 0 1 0 ziX0 rfl (by decide) zw307 rfl dX0_lookAt_11 rfl rfl rfl ?_
    refine z_aload_n X dX0_lookAt_14 0 rfl ?_
    refine z_get (v := .ref (aK 0)) X 0 0 1 3 ziX0 rfl (by decide) zw311 rfl dX0_lookAt_15 rfl rfl rfl ?_
    obtain ⟨o18, ho18, h⟩ := zbind_of h
    refine z_callVi (st := []) (ws2 := [wX0 (zcT C) aO (aP 0) (aS 0) (aB 0) (aK 0) sO, wX5 (zcT C) aP sP, wX7 (zcT C) aS sS, wX4 (zcT C) aB sB, wX4 (zcT C) aK o4.2]) X (metX5_breakerOf (zcl C) (zcD C) (zcT C) aP aK ho18) zmX5_breakerOf zw1152 dX0_lookAt_18 1 0 6 rfl rfl rfl rfl [1, 4] rfl rfl [] rfl (by decide) trivial rfl rfl rfl (Nat.le_of_ble_eq_true rfl) rfl rfl ⟨Nat.le_of_ble_eq_true rfl, Nat.le_of_ble_eq_true rfl⟩ ⟨Nat.le_of_ble_eq_true rfl, Nat.le_of_ble_eq_true rfl⟩ ?_
    refine z_bipush (v := (100 : Int32)) X dX0_lookAt_21 rfl ?_
    refine z_icmp_ne (tgt := 67) X dX0_lookAt_23 (by decide) (fun c23 => ?_) (fun c23 => ?_)
    · replace h := zif_f h c23
      exact z_at (pc2 := 67) (lv2 := []) (st2 := []) (ws2 := [wX0 (zcT C) aO (aP 0) (aS 0) (aB 0) (aK 0) sO, wX5 (zcT C) aP sP, wX7 (zcT C) aS sS, wX4 (zcT C) aB sB, wX4 (zcT C) aK o4.2]) rfl rfl rfl [] rfl (bX0_lookAt_67 X hQ  h)
    · replace h := zif_t h c23
      refine z_aload_n X dX0_lookAt_26 0 rfl ?_
      refine z_get (v := .int (zgi sO 4)) X 0 0 1 4 ziX0 rfl (by decide) zw312 rfl dX0_lookAt_27 rfl rfl rfl ?_
      refine z_if_eq (tgt := 51) X dX0_lookAt_30 (by decide) (fun c30 => ?_) (fun c30 => ?_)
      · replace h := zif_t h c30
        exact z_at (pc2 := 51) (lv2 := [(0, .ref (aO 0))]) (st2 := []) (ws2 := [wX0 (zcT C) aO (aP 0) (aS 0) (aB 0) (aK 0) sO, wX5 (zcT C) aP sP, wX7 (zcT C) aS sS, wX4 (zcT C) aB sB, wX4 (zcT C) aK o4.2]) rfl rfl rfl [0] rfl (bX0_lookAt_51 X hQ  h)
      · replace h := zif_f h c30
        refine z_aload_n X dX0_lookAt_33 0 rfl ?_
        refine z_get (v := .ref (aP 0)) X 0 0 1 0 ziX0 rfl (by decide) zw307 rfl dX0_lookAt_34 rfl rfl rfl ?_
        refine z_aload_n X dX0_lookAt_37 0 rfl ?_
        refine z_get (v := .ref (aK 0)) X 0 0 1 3 ziX0 rfl (by decide) zw311 rfl dX0_lookAt_38 rfl rfl rfl ?_
        refine z_aload_n X dX0_lookAt_41 0 rfl ?_
        refine z_get (v := .ref (aB 0)) X 0 0 1 2 ziX0 rfl (by decide) zw309 rfl dX0_lookAt_42 rfl rfl rfl ?_
        obtain ⟨o45, ho45, h⟩ := zbind_of h
        refine z_callVi (st := []) (ws2 := [wX0 (zcT C) aO (aP 0) (aS 0) (aB 0) (aK 0) sO, wX5 (zcT C) aP sP, wX7 (zcT C) aS sS, wX4 (zcT C) aB sB, wX4 (zcT C) aK o4.2]) X (metX5_compareByAims (zcl C) (zcD C) (zcT C) aP aK aB ho45) zmX5_compareByAims zw1153 dX0_lookAt_45 1 0 6 rfl rfl rfl rfl [1, 4, 3] rfl rfl [] rfl (by decide) trivial rfl rfl rfl (Nat.le_of_ble_eq_true rfl) rfl rfl ⟨Nat.le_of_ble_eq_true rfl, Nat.le_of_ble_eq_true rfl⟩ ⟨Nat.le_of_ble_eq_true rfl, Nat.le_of_ble_eq_true rfl⟩ ?_
        refine z_if_le (tgt := 67) X dX0_lookAt_48 (by decide) (fun c48 => ?_) (fun c48 => ?_)
        · replace h := zif_t h c48
          exact z_at (pc2 := 67) (lv2 := []) (st2 := []) (ws2 := [wX0 (zcT C) aO (aP 0) (aS 0) (aB 0) (aK 0) sO, wX5 (zcT C) aP sP, wX7 (zcT C) aS sS, wX4 (zcT C) aB sB, wX4 (zcT C) aK o4.2]) rfl rfl rfl [] rfl (bX0_lookAt_67 X hQ  h)
        · replace h := zif_f h c48
          exact z_at (pc2 := 51) (lv2 := [(0, .ref (aO 0))]) (st2 := []) (ws2 := [wX0 (zcT C) aO (aP 0) (aS 0) (aB 0) (aK 0) sO, wX5 (zcT C) aP sP, wX7 (zcT C) aS sS, wX4 (zcT C) aB sB, wX4 (zcT C) aK o4.2]) rfl rfl rfl [0] rfl (bX0_lookAt_51 X hQ  h)
theorem metX0_lookAt (l : Launch) (D : va_G) (T : Nat → ClassId) (aO : Nat → Nat) (aP : Nat → Nat) (aS : Nat → Nat) (aB : Nat → Nat) (aK : Nat → Nat) {sO : zSt} {sP : zSt} {sS : zSt} {sB : zSt} {sK : zSt} {x1 : Int32} {x2 : Int32} {x3 : Int32} {out : zSt × zSt × zSt} (hf : fX0_lookAt sO sP sS sB sK x1 x2 x3 = some out) (sz : Nat) : Met l yX0_lookAt (zws yX0_lookAt cX0_lookAt 4 none) rmX0_lookAt (zPc D T [.ref (aO 0), .int x1, .int x2, .int x3] [wX0 T aO (aP 0) (aS 0) (aB 0) (aK 0) sO, wX5 T aP sP, wX7 T aS sS, wX4 T aB sB, wX4 T aK sK] sz) (zQv D [wX0 T aO (aP 0) (aS 0) (aB 0) (aK 0) out.1, wX4 T aB out.2.1, wX4 T aK out.2.2] (zA [wX0 T aO (aP 0) (aS 0) (aB 0) (aK 0) sO, wX4 T aB sB, wX4 T aK sK] sz)) 0 0 (zA [wX0 T aO (aP 0) (aS 0) (aB 0) (aK 0) sO, wX4 T aB sB, wX4 T aK sK] sz) :=
  zMet (D := D) (T := T) (av := [.ref (aO 0), .int x1, .int x2, .int x3]) (ws := fun T => [wX0 T aO (aP 0) (aS 0) (aB 0) (aK 0) sO, wX5 T aP sP, wX7 T aS sS, wX4 T aB sB, wX4 T aK sK]) (wm := fun T => [wX0 T aO (aP 0) (aS 0) (aB 0) (aK 0) sO, wX4 T aB sB, wX4 T aK sK]) (lv0 := [(0, .ref (aO 0)), (1, .int x1), (2, .int x2), (3, .int x3)]) [0, 3, 4] (Qc := fun D T A => zQv D [wX0 T aO (aP 0) (aS 0) (aB 0) (aK 0) out.1, wX4 T aB out.2.1, wX4 T aK out.2.2] A) (by decide +kernel) rfl (Nat.le_of_ble_eq_true rfl) rfl (fun C X hQ => bX0_lookAt_0 X hQ hf) sz
/-- private void lookAlong(int, int); of Tableaufloor$Corners -/
abbrev rmX0_lookAlong : Room := { frames := 5, cells := 0, slots := 0, locals := 111 }
def fX0_lookAlong_33 (sP : zSt) (sS : zSt) (k4 : zSt → zSt → zSt → Int32 → Int32 → Int32 → Option (zSt × zSt × zSt)) (sO : zSt) (sB : zSt) (sK : zSt) (x1 : Int32) (x2 : Int32) (x3 : Int32) : Option (zSt × zSt × zSt) :=
  (zlet (x3 + 1) (fun v33 =>
    (k4 sO sB sK x1 x2 v33)))
def fX0_lookAlong_4 (sP : zSt) (sS : zSt) : Nat → zSt → zSt → zSt → Int32 → Int32 → Int32 → Option (zSt × zSt × zSt)
  | 0, _, _, _, _, _, _ => none
  | n + 1, sO, sB, sK, x1, x2, x3 =>
    (if (zgi sS 3) ≤ x3 then
      some (sO, sB, sK)
    else
      ((fX7_isMirror sS x3).bind (fun o20 =>
        (if o20 = 0 then
        ((fX0_lookAt sO sP sS sB sK x1 x2 x3).bind (fun o30 =>
          (fX0_lookAlong_33 sP sS (fX0_lookAlong_4 sP sS n) o30.1 o30.2.1 o30.2.2 x1 x2 x3)))
      else
        (fX0_lookAlong_33 sP sS (fX0_lookAlong_4 sP sS n) sO sB sK x1 x2 x3)))))
def fX0_lookAlong (sO : zSt) (sP : zSt) (sS : zSt) (sB : zSt) (sK : zSt) (x1 : Int32) (x2 : Int32) : Option (zSt × zSt × zSt) :=
  (zlet (x2 + (1 : Int32)) (fun v3 =>
    (fX0_lookAlong_4 sP sS 6000 sO sB sK x1 x2 v3)))
theorem bX0_lookAlong_33 {C : zCtx} (X : zFx C cX0_lookAlong 4 RX0 rmX0_lookAlong none) {aO : Nat → Nat} {aP : Nat → Nat} {aS : Nat → Nat} {aB : Nat → Nat} {aK : Nat → Nat} {sP : zSt} {sS : zSt} {k4 : zSt → zSt → zSt → Int32 → Int32 → Int32 → Option (zSt × zSt × zSt)} {sO : zSt} {sB : zSt} {sK : zSt} {x1 : Int32} {x2 : Int32} {x3 : Int32} {out : zSt × zSt × zSt} (hQ : zHv C [wX0 (zcT C) aO (aP 0) (aS 0) (aB 0) (aK 0) out.1, wX4 (zcT C) aB out.2.1, wX4 (zcT C) aK out.2.2] 0 0) (hk4 : ∀ (sO : zSt) (sB : zSt) (sK : zSt) (x1 : Int32) (x2 : Int32) (x3 : Int32), k4 sO sB sK x1 x2 x3 = some out → zG C 4 [0, 3, 4] 0 0 [wX0 (zcT C) aO (aP 0) (aS 0) (aB 0) (aK 0) sO, wX5 (zcT C) aP sP, wX7 (zcT C) aS sS, wX4 (zcT C) aB sB, wX4 (zcT C) aK sK] 4 [(0, .ref (aO 0)), (1, .int x1), (2, .int x2), (3, .int x3)] []) (h : fX0_lookAlong_33 sP sS k4 sO sB sK x1 x2 x3 = some out) : zG C 4 [0, 3, 4] 0 0 [wX0 (zcT C) aO (aP 0) (aS 0) (aB 0) (aK 0) sO, wX5 (zcT C) aP sP, wX7 (zcT C) aS sS, wX4 (zcT C) aB sB, wX4 (zcT C) aK sK] 33 [(0, .ref (aO 0)), (1, .int x1), (2, .int x2), (3, .int x3)] [] := by
  unfold fX0_lookAlong_33 at h
  obtain ⟨v33, ev33, h⟩ := zlet_of h
  refine z_iinc (v := v33) (lv2 := [(3, .int v33), (0, .ref (aO 0)), (1, .int x1), (2, .int x2)]) X dX0_lookAlong_33 (k := 3) rfl (by rw [ev33]; rfl) (by decide) rfl ?_
  refine z_goto (tgt := 4) X dX0_lookAlong_36 (by decide) ?_
  exact z_at (pc2 := 4) (lv2 := [(0, .ref (aO 0)), (1, .int x1), (2, .int x2), (3, .int v33)]) (st2 := []) (ws2 := [wX0 (zcT C) aO (aP 0) (aS 0) (aB 0) (aK 0) sO, wX5 (zcT C) aP sP, wX7 (zcT C) aS sS, wX4 (zcT C) aB sB, wX4 (zcT C) aK sK]) rfl rfl rfl [1, 2, 3, 0] rfl (hk4 sO sB sK x1 x2 v33 h)
theorem bX0_lookAlong_4 {C : zCtx} (X : zFx C cX0_lookAlong 4 RX0 rmX0_lookAlong none) {aO : Nat → Nat} {aP : Nat → Nat} {aS : Nat → Nat} {aB : Nat → Nat} {aK : Nat → Nat} {sP : zSt} {sS : zSt} {out : zSt × zSt × zSt} (hQ : zHv C [wX0 (zcT C) aO (aP 0) (aS 0) (aB 0) (aK 0) out.1, wX4 (zcT C) aB out.2.1, wX4 (zcT C) aK out.2.2] 0 0) : ∀ (n : Nat) (sO : zSt) (sB : zSt) (sK : zSt) (x1 : Int32) (x2 : Int32) (x3 : Int32), fX0_lookAlong_4 sP sS n sO sB sK x1 x2 x3 = some out → zG C 4 [0, 3, 4] 0 0 [wX0 (zcT C) aO (aP 0) (aS 0) (aB 0) (aK 0) sO, wX5 (zcT C) aP sP, wX7 (zcT C) aS sS, wX4 (zcT C) aB sB, wX4 (zcT C) aK sK] 4 [(0, .ref (aO 0)), (1, .int x1), (2, .int x2), (3, .int x3)] [] := by
  intro n
  induction n with
  | zero =>
    intro sO sB sK x1 x2 x3 h
    rw [fX0_lookAlong_4] at h
    exact zno h
  | succ n ih =>
    intro sO sB sK x1 x2 x3 h
    rw [fX0_lookAlong_4] at h
    refine z_iload_n X dX0_lookAlong_4 3 rfl ?_
    refine z_aload_n X dX0_lookAlong_5 0 rfl ?_
    refine z_get (v := .ref (aS 0)) X 0 0 1 1 ziX0 rfl (by decide) zw308 rfl dX0_lookAlong_6 rfl rfl rfl ?_
    refine z_getN (v := .int (zgi sS 3)) X 2 0 8 3 ziX7 rfl (by decide) zw175 rfl dX0_lookAlong_9 rfl rfl rfl ?_
    refine z_icmp_ge (tgt := 39) X dX0_lookAlong_12 (by decide) (fun c12 => ?_) (fun c12 => ?_)
    · replace h := zif_t h c12
      cases h
      exact z_vret X hQ dX0_lookAlong_39 [0, 3, 4] rfl (by decide) (by decide)
    · replace h := zif_f h c12
      refine z_aload_n X dX0_lookAlong_15 0 rfl ?_
      refine z_get (v := .ref (aS 0)) X 0 0 1 1 ziX0 rfl (by decide) zw308 rfl dX0_lookAlong_16 rfl rfl rfl ?_
      refine z_iload_n X dX0_lookAlong_19 3 rfl ?_
      obtain ⟨o20, ho20, h⟩ := zbind_of h
      refine z_callVi (st := []) (ws2 := [wX0 (zcT C) aO (aP 0) (aS 0) (aB 0) (aK 0) sO, wX5 (zcT C) aP sP, wX7 (zcT C) aS sS, wX4 (zcT C) aB sB, wX4 (zcT C) aK sK]) X (metX7_isMirror (zcl C) (zcD C) (zcT C) aS ho20) zmX7_isMirror zw1129 dX0_lookAlong_20 2 0 8 rfl rfl rfl rfl [2] rfl rfl [] rfl (by decide) trivial rfl rfl rfl (Nat.le_of_ble_eq_true rfl) rfl rfl ⟨Nat.le_of_ble_eq_true rfl, Nat.le_of_ble_eq_true rfl⟩ ⟨Nat.le_of_ble_eq_true rfl, Nat.le_of_ble_eq_true rfl⟩ ?_
      refine z_if_ne (tgt := 33) X dX0_lookAlong_23 (by decide) (fun c23 => ?_) (fun c23 => ?_)
      · replace h := zif_f h c23
        exact z_at (pc2 := 33) (lv2 := [(0, .ref (aO 0)), (1, .int x1), (2, .int x2), (3, .int x3)]) (st2 := []) (ws2 := [wX0 (zcT C) aO (aP 0) (aS 0) (aB 0) (aK 0) sO, wX5 (zcT C) aP sP, wX7 (zcT C) aS sS, wX4 (zcT C) aB sB, wX4 (zcT C) aK sK]) rfl rfl rfl [0, 1, 2, 3] rfl (bX0_lookAlong_33 X hQ ih h)
      · replace h := zif_t h c23
        refine z_aload_n X dX0_lookAlong_26 0 rfl ?_
        refine z_iload_n X dX0_lookAlong_27 1 rfl ?_
        refine z_iload_n X dX0_lookAlong_28 2 rfl ?_
        refine z_iload_n X dX0_lookAlong_29 3 rfl ?_
        obtain ⟨o30, ho30, h⟩ := zbind_of h
        refine z_callVv (st := []) (ws2 := [wX0 (zcT C) aO (aP 0) (aS 0) (aB 0) (aK 0) o30.1, wX5 (zcT C) aP sP, wX7 (zcT C) aS sS, wX4 (zcT C) aB o30.2.1, wX4 (zcT C) aK o30.2.2]) X (metX0_lookAt (zcl C) (zcD C) (zcT C) aO aP aS aB aK ho30) zmX0_lookAt zw1137 dX0_lookAlong_30 0 0 1 rfl rfl rfl rfl [0, 1, 2, 3, 4] rfl rfl [0, 3, 4] rfl (by decide) ⟨zsX0 , ⟨zsX4 , ⟨zsX4 , trivial⟩⟩⟩ rfl rfl rfl (Nat.le_of_ble_eq_true rfl) rfl rfl ⟨Nat.le_of_ble_eq_true rfl, Nat.le_of_ble_eq_true rfl⟩ ⟨Nat.le_of_ble_eq_true rfl, Nat.le_of_ble_eq_true rfl⟩ ?_
        exact z_at (pc2 := 33) (lv2 := [(0, .ref (aO 0)), (1, .int x1), (2, .int x2), (3, .int x3)]) (st2 := []) (ws2 := [wX0 (zcT C) aO (aP 0) (aS 0) (aB 0) (aK 0) o30.1, wX5 (zcT C) aP sP, wX7 (zcT C) aS sS, wX4 (zcT C) aB o30.2.1, wX4 (zcT C) aK o30.2.2]) rfl rfl rfl [0, 1, 2, 3] rfl (bX0_lookAlong_33 X hQ ih h)
theorem bX0_lookAlong_0 {C : zCtx} (X : zFx C cX0_lookAlong 4 RX0 rmX0_lookAlong none) {aO : Nat → Nat} {aP : Nat → Nat} {aS : Nat → Nat} {aB : Nat → Nat} {aK : Nat → Nat} {sO : zSt} {sP : zSt} {sS : zSt} {sB : zSt} {sK : zSt} {x1 : Int32} {x2 : Int32} {out : zSt × zSt × zSt} (hQ : zHv C [wX0 (zcT C) aO (aP 0) (aS 0) (aB 0) (aK 0) out.1, wX4 (zcT C) aB out.2.1, wX4 (zcT C) aK out.2.2] 0 0) (h : fX0_lookAlong sO sP sS sB sK x1 x2 = some out) : zG C 4 [0, 3, 4] 0 0 [wX0 (zcT C) aO (aP 0) (aS 0) (aB 0) (aK 0) sO, wX5 (zcT C) aP sP, wX7 (zcT C) aS sS, wX4 (zcT C) aB sB, wX4 (zcT C) aK sK] 0 [(0, .ref (aO 0)), (1, .int x1), (2, .int x2)] [] := by
  unfold fX0_lookAlong at h
  refine z_iload_n X dX0_lookAlong_0 2 rfl ?_
  refine z_iconst (v := (1 : Int32)) X dX0_lookAlong_1 rfl ?_
  refine z_iadd X dX0_lookAlong_2 ?_
  obtain ⟨v3, ev3, h⟩ := zlet_of h
  refine z_topi ev3 ?_
  refine z_istore_n (lv2 := [(3, .int v3), (0, .ref (aO 0)), (1, .int x1), (2, .int x2)]) X dX0_lookAlong_3 rfl (by decide) rfl ?_
  exact z_at (pc2 := 4) (lv2 := [(0, .ref (aO 0)), (1, .int x1), (2, .int x2), (3, .int v3)]) (st2 := []) (ws2 := [wX0 (zcT C) aO (aP 0) (aS 0) (aB 0) (aK 0) sO, wX5 (zcT C) aP sP, wX7 (zcT C) aS sS, wX4 (zcT C) aB sB, wX4 (zcT C) aK sK]) rfl rfl rfl [1, 2, 3, 0] rfl (bX0_lookAlong_4 X hQ  6000 sO sB sK x1 x2 v3 h)
theorem metX0_lookAlong (l : Launch) (D : va_G) (T : Nat → ClassId) (aO : Nat → Nat) (aP : Nat → Nat) (aS : Nat → Nat) (aB : Nat → Nat) (aK : Nat → Nat) {sO : zSt} {sP : zSt} {sS : zSt} {sB : zSt} {sK : zSt} {x1 : Int32} {x2 : Int32} {out : zSt × zSt × zSt} (hf : fX0_lookAlong sO sP sS sB sK x1 x2 = some out) (sz : Nat) : Met l yX0_lookAlong (zws yX0_lookAlong cX0_lookAlong 4 none) rmX0_lookAlong (zPc D T [.ref (aO 0), .int x1, .int x2] [wX0 T aO (aP 0) (aS 0) (aB 0) (aK 0) sO, wX5 T aP sP, wX7 T aS sS, wX4 T aB sB, wX4 T aK sK] sz) (zQv D [wX0 T aO (aP 0) (aS 0) (aB 0) (aK 0) out.1, wX4 T aB out.2.1, wX4 T aK out.2.2] (zA [wX0 T aO (aP 0) (aS 0) (aB 0) (aK 0) sO, wX4 T aB sB, wX4 T aK sK] sz)) 0 0 (zA [wX0 T aO (aP 0) (aS 0) (aB 0) (aK 0) sO, wX4 T aB sB, wX4 T aK sK] sz) :=
  zMet (D := D) (T := T) (av := [.ref (aO 0), .int x1, .int x2]) (ws := fun T => [wX0 T aO (aP 0) (aS 0) (aB 0) (aK 0) sO, wX5 T aP sP, wX7 T aS sS, wX4 T aB sB, wX4 T aK sK]) (wm := fun T => [wX0 T aO (aP 0) (aS 0) (aB 0) (aK 0) sO, wX4 T aB sB, wX4 T aK sK]) (lv0 := [(0, .ref (aO 0)), (1, .int x1), (2, .int x2)]) [0, 3, 4] (Qc := fun D T A => zQv D [wX0 T aO (aP 0) (aS 0) (aB 0) (aK 0) out.1, wX4 T aB out.2.1, wX4 T aK out.2.2] A) (by decide +kernel) rfl (Nat.le_of_ble_eq_true rfl) rfl (fun C X hQ => bX0_lookAlong_0 X hQ hf) sz
/-- void look(); of Tableaufloor$Corners -/
abbrev rmX0_look : Room := { frames := 6, cells := 0, slots := 0, locals := 134 }
def fX0_look_74 (sP : zSt) (sS : zSt) (k20 : zSt → zSt → zSt → Int32 → Option (zSt × zSt × zSt)) (k35 : zSt → zSt → zSt → Int32 → Int32 → Option (zSt × zSt × zSt)) (sO : zSt) (sB : zSt) (sK : zSt) (x1 : Int32) (x2 : Int32) : Option (zSt × zSt × zSt) :=
  (zlet (x2 + 1) (fun v74 =>
    (k35 sO sB sK x1 v74)))
def fX0_look_35 (sP : zSt) (sS : zSt) (k20 : zSt → zSt → zSt → Int32 → Option (zSt × zSt × zSt)) : Nat → zSt → zSt → zSt → Int32 → Int32 → Option (zSt × zSt × zSt)
  | 0, _, _, _, _, _ => none
  | n + 1, sO, sB, sK, x1, x2 =>
    (if (zgi sS 3) ≤ x2 then
      (zlet (x1 + 1) (fun v80 =>
        (k20 sO sB sK v80)))
    else
      ((fX7_isMirror sS x1).bind (fun o51 =>
        (if o51 = 0 then
        ((fX7_isMirror sS x2).bind (fun o62 =>
          (if o62 = 0 then
          ((fX0_lookAlong sO sP sS sB sK x1 x2).bind (fun o71 =>
            (fX0_look_74 sP sS k20 (fX0_look_35 sP sS k20 n) o71.1 o71.2.1 o71.2.2 x1 x2)))
        else
          (fX0_look_74 sP sS k20 (fX0_look_35 sP sS k20 n) sO sB sK x1 x2))))
      else
        (fX0_look_74 sP sS k20 (fX0_look_35 sP sS k20 n) sO sB sK x1 x2)))))
def fX0_look_20 (sP : zSt) (sS : zSt) : Nat → zSt → zSt → zSt → Int32 → Option (zSt × zSt × zSt)
  | 0, _, _, _, _ => none
  | n + 1, sO, sB, sK, x1 =>
    (if (zgi sS 3) ≤ x1 then
      some (sO, sB, sK)
    else
      (zlet (x1 + (1 : Int32)) (fun v34 =>
        (fX0_look_35 sP sS (fX0_look_20 sP sS n) 6000 sO sB sK x1 v34))))
def fX0_look (sO : zSt) (sP : zSt) (sS : zSt) (sB : zSt) (sK : zSt) : Option (zSt × zSt × zSt) :=
  (if (zgi sO 5) = 0 then
    (zlet (zsi sO 5 (1 : Int32)) (fun sO10 =>
      (zlet (zsi sO10 4 (0 : Int32)) (fun sO15 =>
      (fX0_look_20 sP sS 6000 sO15 sB sK (0 : Int32))))))
  else
    some (sO, sB, sK))
theorem bX0_look_74 {C : zCtx} (X : zFx C cX0_look 3 RX0 rmX0_look none) {aO : Nat → Nat} {aP : Nat → Nat} {aS : Nat → Nat} {aB : Nat → Nat} {aK : Nat → Nat} {sP : zSt} {sS : zSt} {k20 : zSt → zSt → zSt → Int32 → Option (zSt × zSt × zSt)} {k35 : zSt → zSt → zSt → Int32 → Int32 → Option (zSt × zSt × zSt)} {sO : zSt} {sB : zSt} {sK : zSt} {x1 : Int32} {x2 : Int32} {out : zSt × zSt × zSt} (hQ : zHv C [wX0 (zcT C) aO (aP 0) (aS 0) (aB 0) (aK 0) out.1, wX4 (zcT C) aB out.2.1, wX4 (zcT C) aK out.2.2] 0 0) (hk20 : ∀ (sO : zSt) (sB : zSt) (sK : zSt) (x1 : Int32), k20 sO sB sK x1 = some out → zG C 3 [0, 3, 4] 0 0 [wX0 (zcT C) aO (aP 0) (aS 0) (aB 0) (aK 0) sO, wX5 (zcT C) aP sP, wX7 (zcT C) aS sS, wX4 (zcT C) aB sB, wX4 (zcT C) aK sK] 20 [(0, .ref (aO 0)), (1, .int x1)] []) (hk35 : ∀ (sO : zSt) (sB : zSt) (sK : zSt) (x1 : Int32) (x2 : Int32), k35 sO sB sK x1 x2 = some out → zG C 3 [0, 3, 4] 0 0 [wX0 (zcT C) aO (aP 0) (aS 0) (aB 0) (aK 0) sO, wX5 (zcT C) aP sP, wX7 (zcT C) aS sS, wX4 (zcT C) aB sB, wX4 (zcT C) aK sK] 35 [(0, .ref (aO 0)), (1, .int x1), (2, .int x2)] []) (h : fX0_look_74 sP sS k20 k35 sO sB sK x1 x2 = some out) : zG C 3 [0, 3, 4] 0 0 [wX0 (zcT C) aO (aP 0) (aS 0) (aB 0) (aK 0) sO, wX5 (zcT C) aP sP, wX7 (zcT C) aS sS, wX4 (zcT C) aB sB, wX4 (zcT C) aK sK] 74 [(0, .ref (aO 0)), (1, .int x1), (2, .int x2)] [] := by
  unfold fX0_look_74 at h
  obtain ⟨v74, ev74, h⟩ := zlet_of h
  refine z_iinc (v := v74) (lv2 := [(2, .int v74), (0, .ref (aO 0)), (1, .int x1)]) X dX0_look_74 (k := 2) rfl (by rw [ev74]; rfl) (by decide) rfl ?_
  refine z_goto (tgt := 35) X dX0_look_77 (by decide) ?_
  exact z_at (pc2 := 35) (lv2 := [(0, .ref (aO 0)), (1, .int x1), (2, .int v74)]) (st2 := []) (ws2 := [wX0 (zcT C) aO (aP 0) (aS 0) (aB 0) (aK 0) sO, wX5 (zcT C) aP sP, wX7 (zcT C) aS sS, wX4 (zcT C) aB sB, wX4 (zcT C) aK sK]) rfl rfl rfl [1, 2, 0] rfl (hk35 sO sB sK x1 v74 h)
theorem bX0_look_35 {C : zCtx} (X : zFx C cX0_look 3 RX0 rmX0_look none) {aO : Nat → Nat} {aP : Nat → Nat} {aS : Nat → Nat} {aB : Nat → Nat} {aK : Nat → Nat} {sP : zSt} {sS : zSt} {k20 : zSt → zSt → zSt → Int32 → Option (zSt × zSt × zSt)} {out : zSt × zSt × zSt} (hQ : zHv C [wX0 (zcT C) aO (aP 0) (aS 0) (aB 0) (aK 0) out.1, wX4 (zcT C) aB out.2.1, wX4 (zcT C) aK out.2.2] 0 0) (hk20 : ∀ (sO : zSt) (sB : zSt) (sK : zSt) (x1 : Int32), k20 sO sB sK x1 = some out → zG C 3 [0, 3, 4] 0 0 [wX0 (zcT C) aO (aP 0) (aS 0) (aB 0) (aK 0) sO, wX5 (zcT C) aP sP, wX7 (zcT C) aS sS, wX4 (zcT C) aB sB, wX4 (zcT C) aK sK] 20 [(0, .ref (aO 0)), (1, .int x1)] []) : ∀ (n : Nat) (sO : zSt) (sB : zSt) (sK : zSt) (x1 : Int32) (x2 : Int32), fX0_look_35 sP sS k20 n sO sB sK x1 x2 = some out → zG C 3 [0, 3, 4] 0 0 [wX0 (zcT C) aO (aP 0) (aS 0) (aB 0) (aK 0) sO, wX5 (zcT C) aP sP, wX7 (zcT C) aS sS, wX4 (zcT C) aB sB, wX4 (zcT C) aK sK] 35 [(0, .ref (aO 0)), (1, .int x1), (2, .int x2)] [] := by
  intro n
  induction n with
  | zero =>
    intro sO sB sK x1 x2 h
    rw [fX0_look_35] at h
    exact zno h
  | succ n ih =>
    intro sO sB sK x1 x2 h
    rw [fX0_look_35] at h
    refine z_iload_n X dX0_look_35 2 rfl ?_
    refine z_aload_n X dX0_look_36 0 rfl ?_
    refine z_get (v := .ref (aS 0)) X 0 0 1 1 ziX0 rfl (by decide) zw308 rfl dX0_look_37 rfl rfl rfl ?_
    refine z_getN (v := .int (zgi sS 3)) X 2 0 8 3 ziX7 rfl (by decide) zw175 rfl dX0_look_40 rfl rfl rfl ?_
    refine z_icmp_ge (tgt := 80) X dX0_look_43 (by decide) (fun c43 => ?_) (fun c43 => ?_)
    · replace h := zif_t h c43
      obtain ⟨v80, ev80, h⟩ := zlet_of h
      refine z_iinc (v := v80) (lv2 := [(1, .int v80), (0, .ref (aO 0)), (2, .int x2)]) X dX0_look_80 (k := 1) rfl (by rw [ev80]; rfl) (by decide) rfl ?_
      refine z_goto (tgt := 20) X dX0_look_83 (by decide) ?_
      exact z_at (pc2 := 20) (lv2 := [(0, .ref (aO 0)), (1, .int v80)]) (st2 := []) (ws2 := [wX0 (zcT C) aO (aP 0) (aS 0) (aB 0) (aK 0) sO, wX5 (zcT C) aP sP, wX7 (zcT C) aS sS, wX4 (zcT C) aB sB, wX4 (zcT C) aK sK]) rfl rfl rfl [1, 0] rfl (hk20 sO sB sK v80 h)
    · replace h := zif_f h c43
      refine z_aload_n X dX0_look_46 0 rfl ?_
      refine z_get (v := .ref (aS 0)) X 0 0 1 1 ziX0 rfl (by decide) zw308 rfl dX0_look_47 rfl rfl rfl ?_
      refine z_iload_n X dX0_look_50 1 rfl ?_
      obtain ⟨o51, ho51, h⟩ := zbind_of h
      refine z_callVi (st := []) (ws2 := [wX0 (zcT C) aO (aP 0) (aS 0) (aB 0) (aK 0) sO, wX5 (zcT C) aP sP, wX7 (zcT C) aS sS, wX4 (zcT C) aB sB, wX4 (zcT C) aK sK]) X (metX7_isMirror (zcl C) (zcD C) (zcT C) aS ho51) zmX7_isMirror zw1129 dX0_look_51 2 0 8 rfl rfl rfl rfl [2] rfl rfl [] rfl (by decide) trivial rfl rfl rfl (Nat.le_of_ble_eq_true rfl) rfl rfl ⟨Nat.le_of_ble_eq_true rfl, Nat.le_of_ble_eq_true rfl⟩ ⟨Nat.le_of_ble_eq_true rfl, Nat.le_of_ble_eq_true rfl⟩ ?_
      refine z_if_ne (tgt := 74) X dX0_look_54 (by decide) (fun c54 => ?_) (fun c54 => ?_)
      · replace h := zif_f h c54
        exact z_at (pc2 := 74) (lv2 := [(0, .ref (aO 0)), (1, .int x1), (2, .int x2)]) (st2 := []) (ws2 := [wX0 (zcT C) aO (aP 0) (aS 0) (aB 0) (aK 0) sO, wX5 (zcT C) aP sP, wX7 (zcT C) aS sS, wX4 (zcT C) aB sB, wX4 (zcT C) aK sK]) rfl rfl rfl [0, 1, 2] rfl (bX0_look_74 X hQ hk20 ih h)
      · replace h := zif_t h c54
        refine z_aload_n X dX0_look_57 0 rfl ?_
        refine z_get (v := .ref (aS 0)) X 0 0 1 1 ziX0 rfl (by decide) zw308 rfl dX0_look_58 rfl rfl rfl ?_
        refine z_iload_n X dX0_look_61 2 rfl ?_
        obtain ⟨o62, ho62, h⟩ := zbind_of h
        refine z_callVi (st := []) (ws2 := [wX0 (zcT C) aO (aP 0) (aS 0) (aB 0) (aK 0) sO, wX5 (zcT C) aP sP, wX7 (zcT C) aS sS, wX4 (zcT C) aB sB, wX4 (zcT C) aK sK]) X (metX7_isMirror (zcl C) (zcD C) (zcT C) aS ho62) zmX7_isMirror zw1129 dX0_look_62 2 0 8 rfl rfl rfl rfl [2] rfl rfl [] rfl (by decide) trivial rfl rfl rfl (Nat.le_of_ble_eq_true rfl) rfl rfl ⟨Nat.le_of_ble_eq_true rfl, Nat.le_of_ble_eq_true rfl⟩ ⟨Nat.le_of_ble_eq_true rfl, Nat.le_of_ble_eq_true rfl⟩ ?_
        refine z_if_ne (tgt := 74) X dX0_look_65 (by decide) (fun c65 => ?_) (fun c65 => ?_)
        · replace h := zif_f h c65
          exact z_at (pc2 := 74) (lv2 := [(0, .ref (aO 0)), (1, .int x1), (2, .int x2)]) (st2 := []) (ws2 := [wX0 (zcT C) aO (aP 0) (aS 0) (aB 0) (aK 0) sO, wX5 (zcT C) aP sP, wX7 (zcT C) aS sS, wX4 (zcT C) aB sB, wX4 (zcT C) aK sK]) rfl rfl rfl [0, 1, 2] rfl (bX0_look_74 X hQ hk20 ih h)
        · replace h := zif_t h c65
          refine z_aload_n X dX0_look_68 0 rfl ?_
          refine z_iload_n X dX0_look_69 1 rfl ?_
          refine z_iload_n X dX0_look_70 2 rfl ?_
          obtain ⟨o71, ho71, h⟩ := zbind_of h
          refine z_callVv (st := []) (ws2 := [wX0 (zcT C) aO (aP 0) (aS 0) (aB 0) (aK 0) o71.1, wX5 (zcT C) aP sP, wX7 (zcT C) aS sS, wX4 (zcT C) aB o71.2.1, wX4 (zcT C) aK o71.2.2]) X (metX0_lookAlong (zcl C) (zcD C) (zcT C) aO aP aS aB aK ho71) zmX0_lookAlong zw1133 dX0_look_71 0 0 1 rfl rfl rfl rfl [0, 1, 2, 3, 4] rfl rfl [0, 3, 4] rfl (by decide) ⟨zsX0 , ⟨zsX4 , ⟨zsX4 , trivial⟩⟩⟩ rfl rfl rfl (Nat.le_of_ble_eq_true rfl) rfl rfl ⟨Nat.le_of_ble_eq_true rfl, Nat.le_of_ble_eq_true rfl⟩ ⟨Nat.le_of_ble_eq_true rfl, Nat.le_of_ble_eq_true rfl⟩ ?_
          exact z_at (pc2 := 74) (lv2 := [(0, .ref (aO 0)), (1, .int x1), (2, .int x2)]) (st2 := []) (ws2 := [wX0 (zcT C) aO (aP 0) (aS 0) (aB 0) (aK 0) o71.1, wX5 (zcT C) aP sP, wX7 (zcT C) aS sS, wX4 (zcT C) aB o71.2.1, wX4 (zcT C) aK o71.2.2]) rfl rfl rfl [0, 1, 2] rfl (bX0_look_74 X hQ hk20 ih h)
theorem bX0_look_20 {C : zCtx} (X : zFx C cX0_look 3 RX0 rmX0_look none) {aO : Nat → Nat} {aP : Nat → Nat} {aS : Nat → Nat} {aB : Nat → Nat} {aK : Nat → Nat} {sP : zSt} {sS : zSt} {out : zSt × zSt × zSt} (hQ : zHv C [wX0 (zcT C) aO (aP 0) (aS 0) (aB 0) (aK 0) out.1, wX4 (zcT C) aB out.2.1, wX4 (zcT C) aK out.2.2] 0 0) : ∀ (n : Nat) (sO : zSt) (sB : zSt) (sK : zSt) (x1 : Int32), fX0_look_20 sP sS n sO sB sK x1 = some out → zG C 3 [0, 3, 4] 0 0 [wX0 (zcT C) aO (aP 0) (aS 0) (aB 0) (aK 0) sO, wX5 (zcT C) aP sP, wX7 (zcT C) aS sS, wX4 (zcT C) aB sB, wX4 (zcT C) aK sK] 20 [(0, .ref (aO 0)), (1, .int x1)] [] := by
  intro n
  induction n with
  | zero =>
    intro sO sB sK x1 h
    rw [fX0_look_20] at h
    exact zno h
  | succ n ih =>
    intro sO sB sK x1 h
    rw [fX0_look_20] at h
    refine z_iload_n X dX0_look_20 1 rfl ?_
    refine z_aload_n X dX0_look_21 0 rfl ?_
    refine z_get (v := .ref (aS 0)) X 0 0 1 1 ziX0 rfl (by decide) zw308 rfl dX0_look_22 rfl rfl rfl ?_
    refine z_getN (v := .int (zgi sS 3)) X 2 0 8 3 ziX7 rfl (by decide) zw175 rfl dX0_look_25 rfl rfl rfl ?_
    refine z_icmp_ge (tgt := 86) X dX0_look_28 (by decide) (fun c28 => ?_) (fun c28 => ?_)
    · replace h := zif_t h c28
      cases h
      exact z_vret X hQ dX0_look_86 [0, 3, 4] rfl (by decide) (by decide)
    · replace h := zif_f h c28
      refine z_iload_n X dX0_look_31 1 rfl ?_
      refine z_iconst (v := (1 : Int32)) X dX0_look_32 rfl ?_
      refine z_iadd X dX0_look_33 ?_
      obtain ⟨v34, ev34, h⟩ := zlet_of h
      refine z_topi ev34 ?_
      refine z_istore_n (lv2 := [(2, .int v34), (0, .ref (aO 0)), (1, .int x1)]) X dX0_look_34 rfl (by decide) rfl ?_
      exact z_at (pc2 := 35) (lv2 := [(0, .ref (aO 0)), (1, .int x1), (2, .int v34)]) (st2 := []) (ws2 := [wX0 (zcT C) aO (aP 0) (aS 0) (aB 0) (aK 0) sO, wX5 (zcT C) aP sP, wX7 (zcT C) aS sS, wX4 (zcT C) aB sB, wX4 (zcT C) aK sK]) rfl rfl rfl [1, 2, 0] rfl (bX0_look_35 X hQ ih 6000 sO sB sK x1 v34 h)
theorem bX0_look_0 {C : zCtx} (X : zFx C cX0_look 3 RX0 rmX0_look none) {aO : Nat → Nat} {aP : Nat → Nat} {aS : Nat → Nat} {aB : Nat → Nat} {aK : Nat → Nat} {sO : zSt} {sP : zSt} {sS : zSt} {sB : zSt} {sK : zSt} {out : zSt × zSt × zSt} (hQ : zHv C [wX0 (zcT C) aO (aP 0) (aS 0) (aB 0) (aK 0) out.1, wX4 (zcT C) aB out.2.1, wX4 (zcT C) aK out.2.2] 0 0) (h : fX0_look sO sP sS sB sK = some out) : zG C 3 [0, 3, 4] 0 0 [wX0 (zcT C) aO (aP 0) (aS 0) (aB 0) (aK 0) sO, wX5 (zcT C) aP sP, wX7 (zcT C) aS sS, wX4 (zcT C) aB sB, wX4 (zcT C) aK sK] 0 [(0, .ref (aO 0))] [] := by
  unfold fX0_look at h
  refine z_aload_n X dX0_look_0 0 rfl ?_
  refine z_get (v := .int (zgi sO 5)) X 0 0 1 5 ziX0 rfl (by decide) zw313 rfl dX0_look_1 rfl rfl rfl ?_
  refine z_if_eq (tgt := 8) X dX0_look_4 (by decide) (fun c4 => ?_) (fun c4 => ?_)
  · replace h := zif_t h c4
    refine z_aload_n X dX0_look_8 0 rfl ?_
    refine z_iconst (v := (1 : Int32)) X dX0_look_9 rfl ?_
    obtain ⟨sO10, esO10, h⟩ := zlet_of h
    refine z_put (ws2 := [wX0 (zcT C) aO (aP 0) (aS 0) (aB 0) (aK 0) sO10, wX5 (zcT C) aP sP, wX7 (zcT C) aS sS, wX4 (zcT C) aB sB, wX4 (zcT C) aK sK]) X 0 0 1 5 ziX0 rfl tyX0 tyX0_ok nmX0 (by decide) zw313 rfl rfl (ty := .boolean) (by decide +kernel) rfl rfl (by show 5 < 6; decide) dX0_look_10 rfl rfl (by decide) (w2 := wX0 (zcT C) aO (aP 0) (aS 0) (aB 0) (aK 0) sO10) (by rw [esO10]; rfl) rfl ?_
    refine z_aload_n X dX0_look_13 0 rfl ?_
    refine z_iconst (v := (0 : Int32)) X dX0_look_14 rfl ?_
    obtain ⟨sO15, esO15, h⟩ := zlet_of h
    refine z_put (ws2 := [wX0 (zcT C) aO (aP 0) (aS 0) (aB 0) (aK 0) sO15, wX5 (zcT C) aP sP, wX7 (zcT C) aS sS, wX4 (zcT C) aB sB, wX4 (zcT C) aK sK]) X 0 0 1 4 ziX0 rfl tyX0 tyX0_ok nmX0 (by decide) zw312 rfl rfl (ty := .boolean) (by decide +kernel) rfl rfl (by show 4 < 6; decide) dX0_look_15 rfl rfl (by decide) (w2 := wX0 (zcT C) aO (aP 0) (aS 0) (aB 0) (aK 0) sO15) (by rw [esO15]; rfl) rfl ?_
    refine z_iconst (v := (0 : Int32)) X dX0_look_18 rfl ?_
    refine z_istore_n (lv2 := [(1, .int (0 : Int32)), (0, .ref (aO 0))]) X dX0_look_19 rfl (by decide) rfl ?_
    exact z_at (pc2 := 20) (lv2 := [(0, .ref (aO 0)), (1, .int (0 : Int32))]) (st2 := []) (ws2 := [wX0 (zcT C) aO (aP 0) (aS 0) (aB 0) (aK 0) sO15, wX5 (zcT C) aP sP, wX7 (zcT C) aS sS, wX4 (zcT C) aB sB, wX4 (zcT C) aK sK]) rfl rfl rfl [1, 0] rfl (bX0_look_20 X hQ  6000 sO15 sB sK (0 : Int32) h)
  · replace h := zif_f h c4
    cases h
    exact z_vret X hQ dX0_look_7 [0, 3, 4] rfl (by decide) (by decide)
theorem metX0_look (l : Launch) (D : va_G) (T : Nat → ClassId) (aO : Nat → Nat) (aP : Nat → Nat) (aS : Nat → Nat) (aB : Nat → Nat) (aK : Nat → Nat) {sO : zSt} {sP : zSt} {sS : zSt} {sB : zSt} {sK : zSt} {out : zSt × zSt × zSt} (hf : fX0_look sO sP sS sB sK = some out) (sz : Nat) : Met l yX0_look (zws yX0_look cX0_look 3 none) rmX0_look (zPc D T [.ref (aO 0)] [wX0 T aO (aP 0) (aS 0) (aB 0) (aK 0) sO, wX5 T aP sP, wX7 T aS sS, wX4 T aB sB, wX4 T aK sK] sz) (zQv D [wX0 T aO (aP 0) (aS 0) (aB 0) (aK 0) out.1, wX4 T aB out.2.1, wX4 T aK out.2.2] (zA [wX0 T aO (aP 0) (aS 0) (aB 0) (aK 0) sO, wX4 T aB sB, wX4 T aK sK] sz)) 0 0 (zA [wX0 T aO (aP 0) (aS 0) (aB 0) (aK 0) sO, wX4 T aB sB, wX4 T aK sK] sz) :=
  zMet (D := D) (T := T) (av := [.ref (aO 0)]) (ws := fun T => [wX0 T aO (aP 0) (aS 0) (aB 0) (aK 0) sO, wX5 T aP sP, wX7 T aS sS, wX4 T aB sB, wX4 T aK sK]) (wm := fun T => [wX0 T aO (aP 0) (aS 0) (aB 0) (aK 0) sO, wX4 T aB sB, wX4 T aK sK]) (lv0 := [(0, .ref (aO 0))]) [0, 3, 4] (Qc := fun D T A => zQv D [wX0 T aO (aP 0) (aS 0) (aB 0) (aK 0) out.1, wX4 T aB out.2.1, wX4 T aK out.2.2] A) (by decide +kernel) rfl (Nat.le_of_ble_eq_true rfl) rfl (fun C X hQ => bX0_look_0 X hQ hf) sz
