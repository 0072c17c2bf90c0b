/-- private static void putCoefficients(int[], int, Tableaufloor$Text); of Tableaufloor$Program -/
abbrev rmX5_putCoefficients : Room := { frames := 1, cells := 0, slots := 0, locals := 21 }
def fX5_putCoefficients_35 (sX : zSt) (k2 : zSt → Int32 → Int32 → Option (zSt)) (sP : zSt) (x1 : Int32) (x3 : Int32) : Option (zSt) :=
  (zlet (x3 + 1) (fun v35 =>
    (k2 sP x1 v35)))
def fX5_putCoefficients_2 (sX : zSt) : Nat → zSt → Int32 → Int32 → Option (zSt)
  | 0, _, _, _ => none
  | n + 1, sP, x1, x3 =>
    (if (3 : Int32) ≤ x3 then
      some (sP)
    else
      (zlet ((x1 * (3 : Int32)) + x3) (fun v12 =>
        (if v12 < 0 then
        (fX5_putCoefficients_35 sX (fX5_putCoefficients_2 sX n) sP x1 x3)
      else
        (if (36 : Int32) ≤ v12 then
          (fX5_putCoefficients_35 sX (fX5_putCoefficients_2 sX n) sP x1 x3)
        else
          ((fX8_coefficientOf sX x3).bind (fun o31 =>
            (if zin v12 36 = true then
            (zlet (zsa sP 2 (upd (zga sP 2) (v12).toNatClampNeg o31)) (fun sP34 =>
            (fX5_putCoefficients_35 sX (fX5_putCoefficients_2 sX n) sP34 x1 x3))) else none))))))))
def fX5_putCoefficients (sP : zSt) (sX : zSt) (x1 : Int32) : Option (zSt) :=
  (fX5_putCoefficients_2 sX 6000 sP x1 (0 : Int32))
theorem bX5_putCoefficients_35 {C : zCtx} (X : zFx C cX5_putCoefficients 5 RX5 rmX5_putCoefficients none) {aP : Nat → Nat} {aX : Nat → Nat} {sX : zSt} {k2 : zSt → Int32 → Int32 → Option (zSt)} {sP : zSt} {x1 : Int32} {x3 : Int32} {out : zSt} (hQ : zHv C [wX5 (zcT C) aP out] 0 0) (hk2 : ∀ (sP : zSt) (x1 : Int32) (x3 : Int32), k2 sP x1 x3 = some out → zG C 5 [0] 0 0 [wX5 (zcT C) aP sP, wX8 (zcT C) aX sX] 2 [(0, .ref (aP 3)), (1, .int x1), (2, .ref (aX 0)), (3, .int x3)] []) (h : fX5_putCoefficients_35 sX k2 sP x1 x3 = some out) : zG C 5 [0] 0 0 [wX5 (zcT C) aP sP, wX8 (zcT C) aX sX] 35 [(0, .ref (aP 3)), (1, .int x1), (2, .ref (aX 0)), (3, .int x3)] [] := by
  unfold fX5_putCoefficients_35 at h
  obtain ⟨v35, ev35, h⟩ := zlet_of h
  refine z_iinc (v := v35) (lv2 := [(3, .int v35), (0, .ref (aP 3)), (1, .int x1), (2, .ref (aX 0))]) X dX5_putCoefficients_35 (k := 3) rfl (by rw [ev35]; rfl) (by decide) rfl ?_
  refine z_goto (tgt := 2) X dX5_putCoefficients_38 (by decide) ?_
  exact z_at (pc2 := 2) (lv2 := [(0, .ref (aP 3)), (1, .int x1), (2, .ref (aX 0)), (3, .int v35)]) (st2 := []) (ws2 := [wX5 (zcT C) aP sP, wX8 (zcT C) aX sX]) rfl rfl rfl [1, 2, 3, 0] rfl (hk2 sP x1 v35 h)
theorem bX5_putCoefficients_2 {C : zCtx} (X : zFx C cX5_putCoefficients 5 RX5 rmX5_putCoefficients none) {aP : Nat → Nat} {aX : Nat → Nat} {sX : zSt} {out : zSt} (hQ : zHv C [wX5 (zcT C) aP out] 0 0) : ∀ (n : Nat) (sP : zSt) (x1 : Int32) (x3 : Int32), fX5_putCoefficients_2 sX n sP x1 x3 = some out → zG C 5 [0] 0 0 [wX5 (zcT C) aP sP, wX8 (zcT C) aX sX] 2 [(0, .ref (aP 3)), (1, .int x1), (2, .ref (aX 0)), (3, .int x3)] [] := by
  intro n
  induction n with
  | zero =>
    intro sP x1 x3 h
    rw [fX5_putCoefficients_2] at h
    exact zno h
  | succ n ih =>
    intro sP x1 x3 h
    rw [fX5_putCoefficients_2] at h
    refine z_iload_n X dX5_putCoefficients_2 3 rfl ?_
    refine z_iconst (v := (3 : Int32)) X dX5_putCoefficients_3 rfl ?_
    refine z_icmp_ge (tgt := 41) X dX5_putCoefficients_4 (by decide) (fun c4 => ?_) (fun c4 => ?_)
    · replace h := zif_t h c4
      cases h
      exact z_vret X hQ dX5_putCoefficients_41 [0] rfl (by decide) (by decide)
    · replace h := zif_f h c4
      refine z_iload_n X dX5_putCoefficients_7 1 rfl ?_
      refine z_iconst (v := (3 : Int32)) X dX5_putCoefficients_8 rfl ?_
      refine z_imul X dX5_putCoefficients_9 ?_
      refine z_iload_n X dX5_putCoefficients_10 3 rfl ?_
      refine z_iadd X dX5_putCoefficients_11 ?_
      obtain ⟨v12, ev12, h⟩ := zlet_of h
      refine z_topi ev12 ?_
      refine z_istore (lv2 := [(4, .int v12), (0, .ref (aP 3)), (1, .int x1), (2, .ref (aX 0)), (3, .int x3)]) X dX5_putCoefficients_12 (by decide) rfl ?_
      refine z_iload X dX5_putCoefficients_14 0 rfl ?_
      refine z_if_lt (tgt := 35) X dX5_putCoefficients_16 (by decide) (fun c16 => ?_) (fun c16 => ?_)
      · replace h := zif_t h c16
        exact z_at (pc2 := 35) (lv2 := [(0, .ref (aP 3)), (1, .int x1), (2, .ref (aX 0)), (3, .int x3)]) (st2 := []) (ws2 := [wX5 (zcT C) aP sP, wX8 (zcT C) aX sX]) rfl rfl rfl [1, 2, 3, 4] rfl (bX5_putCoefficients_35 X hQ ih h)
      · replace h := zif_f h c16
        refine z_iload X dX5_putCoefficients_19 0 rfl ?_
        refine z_aload_n X dX5_putCoefficients_21 1 rfl ?_
        refine z_alen (v := (36 : Int32)) X 0 3 1 rfl rfl dX5_putCoefficients_22 rfl rfl ?_
        refine z_icmp_ge (tgt := 35) X dX5_putCoefficients_23 (by decide) (fun c23 => ?_) (fun c23 => ?_)
        · replace h := zif_t h c23
          exact z_at (pc2 := 35) (lv2 := [(0, .ref (aP 3)), (1, .int x1), (2, .ref (aX 0)), (3, .int x3)]) (st2 := []) (ws2 := [wX5 (zcT C) aP sP, wX8 (zcT C) aX sX]) rfl rfl rfl [1, 2, 3, 4] rfl (bX5_putCoefficients_35 X hQ ih h)
        · replace h := zif_f h c23
          refine z_aload_n X dX5_putCoefficients_26 1 rfl ?_
          refine z_iload X dX5_putCoefficients_27 0 rfl ?_
          refine z_aload_n X dX5_putCoefficients_29 3 rfl ?_
          refine z_iload_n X dX5_putCoefficients_30 4 rfl ?_
          obtain ⟨o31, ho31, h⟩ := zbind_of h
          refine z_callVi (st := [.int v12, .ref (aP 3)]) (ws2 := [wX5 (zcT C) aP sP, wX8 (zcT C) aX sX]) X (metX8_coefficientOf (zcl C) (zcD C) (zcT C) aX ho31) zmX8_coefficientOf zw971 dX5_putCoefficients_31 1 0 9 rfl rfl rfl rfl [1] rfl rfl [] rfl (by decide) trivial rfl rfl rfl (Nat.le_of_ble_eq_true rfl) rfl rfl ⟨Nat.le_of_ble_eq_true rfl, Nat.le_of_ble_eq_true rfl⟩ ⟨Nat.le_of_ble_eq_true rfl, Nat.le_of_ble_eq_true rfl⟩ ?_
          obtain ⟨g34, h⟩ := zgd_of h
          obtain ⟨sP34, esP34, h⟩ := zlet_of h
          refine z_iast (ws2 := [wX5 (zcT C) aP sP34, wX8 (zcT C) aX sX]) X 0 3 g34 dX5_putCoefficients_34 rfl rfl (by decide) (w2 := wX5 (zcT C) aP sP34) (by rw [esP34]; rfl) rfl ?_
          exact z_at (pc2 := 35) (lv2 := [(0, .ref (aP 3)), (1, .int x1), (2, .ref (aX 0)), (3, .int x3)]) (st2 := []) (ws2 := [wX5 (zcT C) aP sP34, wX8 (zcT C) aX sX]) rfl rfl rfl [1, 2, 3, 4] rfl (bX5_putCoefficients_35 X hQ ih h)
theorem bX5_putCoefficients_0 {C : zCtx} (X : zFx C cX5_putCoefficients 5 RX5 rmX5_putCoefficients none) {aP : Nat → Nat} {aX : Nat → Nat} {sP : zSt} {sX : zSt} {x1 : Int32} {out : zSt} (hQ : zHv C [wX5 (zcT C) aP out] 0 0) (h : fX5_putCoefficients sP sX x1 = some out) : zG C 5 [0] 0 0 [wX5 (zcT C) aP sP, wX8 (zcT C) aX sX] 0 [(0, .ref (aP 3)), (1, .int x1), (2, .ref (aX 0))] [] := by
  unfold fX5_putCoefficients at h
  refine z_iconst (v := (0 : Int32)) X dX5_putCoefficients_0 rfl ?_
  refine z_istore_n (lv2 := [(3, .int (0 : Int32)), (0, .ref (aP 3)), (1, .int x1), (2, .ref (aX 0))]) X dX5_putCoefficients_1 rfl (by decide) rfl ?_
  exact z_at (pc2 := 2) (lv2 := [(0, .ref (aP 3)), (1, .int x1), (2, .ref (aX 0)), (3, .int (0 : Int32))]) (st2 := []) (ws2 := [wX5 (zcT C) aP sP, wX8 (zcT C) aX sX]) rfl rfl rfl [1, 2, 3, 0] rfl (bX5_putCoefficients_2 X hQ  6000 sP x1 (0 : Int32) h)
theorem metX5_putCoefficients (l : Launch) (D : va_G) (T : Nat → ClassId) (aP : Nat → Nat) (aX : Nat → Nat) {sP : zSt} {sX : zSt} {x1 : Int32} {out : zSt} (hf : fX5_putCoefficients sP sX x1 = some out) (sz : Nat) : Met l yX5_putCoefficients (zws yX5_putCoefficients cX5_putCoefficients 5 none) rmX5_putCoefficients (zPc D T [.ref (aP 3), .int x1, .ref (aX 0)] [wX5 T aP sP, wX8 T aX sX] sz) (zQv D [wX5 T aP out] (zA [wX5 T aP sP] sz)) 0 0 (zA [wX5 T aP sP] sz) :=
  zMet (D := D) (T := T) (av := [.ref (aP 3), .int x1, .ref (aX 0)]) (ws := fun T => [wX5 T aP sP, wX8 T aX sX]) (wm := fun T => [wX5 T aP sP]) (lv0 := [(0, .ref (aP 3)), (1, .int x1), (2, .ref (aX 0))]) [0] (Qc := fun D T A => zQv D [wX5 T aP out] A) (by decide +kernel) rfl (Nat.le_of_ble_eq_true rfl) rfl (fun C X hQ => bX5_putCoefficients_0 X hQ hf) sz
/-- private static void putCoefficients(int[], int, Tableaufloor$Text); of Tableaufloor$Program -/
abbrev rmX5_putCoefficients_b : Room := { frames := 1, cells := 0, slots := 0, locals := 21 }
def fX5_putCoefficients_b_35 (sX : zSt) (k2 : zSt → Int32 → Int32 → Option (zSt)) (sP : zSt) (x1 : Int32) (x3 : Int32) : Option (zSt) :=
  (zlet (x3 + 1) (fun v35 =>
    (k2 sP x1 v35)))
def fX5_putCoefficients_b_2 (sX : zSt) : Nat → zSt → Int32 → Int32 → Option (zSt)
  | 0, _, _, _ => none
  | n + 1, sP, x1, x3 =>
    (if (3 : Int32) ≤ x3 then
      some (sP)
    else
      (zlet ((x1 * (3 : Int32)) + x3) (fun v12 =>
        (if v12 < 0 then
        (fX5_putCoefficients_b_35 sX (fX5_putCoefficients_b_2 sX n) sP x1 x3)
      else
        (if (9 : Int32) ≤ v12 then
          (fX5_putCoefficients_b_35 sX (fX5_putCoefficients_b_2 sX n) sP x1 x3)
        else
          ((fX8_coefficientOf sX x3).bind (fun o31 =>
            (if zin v12 9 = true then
            (zlet (zsa sP 6 (upd (zga sP 6) (v12).toNatClampNeg o31)) (fun sP34 =>
            (fX5_putCoefficients_b_35 sX (fX5_putCoefficients_b_2 sX n) sP34 x1 x3))) else none))))))))
def fX5_putCoefficients_b (sP : zSt) (sX : zSt) (x1 : Int32) : Option (zSt) :=
  (fX5_putCoefficients_b_2 sX 6000 sP x1 (0 : Int32))
theorem bX5_putCoefficients_b_35 {C : zCtx} (X : zFx C cX5_putCoefficients 5 RX5 rmX5_putCoefficients_b none) {aP : Nat → Nat} {aX : Nat → Nat} {sX : zSt} {k2 : zSt → Int32 → Int32 → Option (zSt)} {sP : zSt} {x1 : Int32} {x3 : Int32} {out : zSt} (hQ : zHv C [wX5 (zcT C) aP out] 0 0) (hk2 : ∀ (sP : zSt) (x1 : Int32) (x3 : Int32), k2 sP x1 x3 = some out → zG C 5 [0] 0 0 [wX5 (zcT C) aP sP, wX8 (zcT C) aX sX] 2 [(0, .ref (aP 7)), (1, .int x1), (2, .ref (aX 0)), (3, .int x3)] []) (h : fX5_putCoefficients_b_35 sX k2 sP x1 x3 = some out) : zG C 5 [0] 0 0 [wX5 (zcT C) aP sP, wX8 (zcT C) aX sX] 35 [(0, .ref (aP 7)), (1, .int x1), (2, .ref (aX 0)), (3, .int x3)] [] := by
  unfold fX5_putCoefficients_b_35 at h
  obtain ⟨v35, ev35, h⟩ := zlet_of h
  refine z_iinc (v := v35) (lv2 := [(3, .int v35), (0, .ref (aP 7)), (1, .int x1), (2, .ref (aX 0))]) X dX5_putCoefficients_35 (k := 3) rfl (by rw [ev35]; rfl) (by decide) rfl ?_
  refine z_goto (tgt := 2) X dX5_putCoefficients_38 (by decide) ?_
  exact z_at (pc2 := 2) (lv2 := [(0, .ref (aP 7)), (1, .int x1), (2, .ref (aX 0)), (3, .int v35)]) (st2 := []) (ws2 := [wX5 (zcT C) aP sP, wX8 (zcT C) aX sX]) rfl rfl rfl [1, 2, 3, 0] rfl (hk2 sP x1 v35 h)
theorem bX5_putCoefficients_b_2 {C : zCtx} (X : zFx C cX5_putCoefficients 5 RX5 rmX5_putCoefficients_b none) {aP : Nat → Nat} {aX : Nat → Nat} {sX : zSt} {out : zSt} (hQ : zHv C [wX5 (zcT C) aP out] 0 0) : ∀ (n : Nat) (sP : zSt) (x1 : Int32) (x3 : Int32), fX5_putCoefficients_b_2 sX n sP x1 x3 = some out → zG C 5 [0] 0 0 [wX5 (zcT C) aP sP, wX8 (zcT C) aX sX] 2 [(0, .ref (aP 7)), (1, .int x1), (2, .ref (aX 0)), (3, .int x3)] [] := by
  intro n
  induction n with
  | zero =>
    intro sP x1 x3 h
    rw [fX5_putCoefficients_b_2] at h
    exact zno h
  | succ n ih =>
    intro sP x1 x3 h
    rw [fX5_putCoefficients_b_2] at h
    refine z_iload_n X dX5_putCoefficients_2 3 rfl ?_
    refine z_iconst (v := (3 : Int32)) X dX5_putCoefficients_3 rfl ?_
    refine z_icmp_ge (tgt := 41) X dX5_putCoefficients_4 (by decide) (fun c4 => ?_) (fun c4 => ?_)
    · replace h := zif_t h c4
      cases h
      exact z_vret X hQ dX5_putCoefficients_41 [0] rfl (by decide) (by decide)
    · replace h := zif_f h c4
      refine z_iload_n X dX5_putCoefficients_7 1 rfl ?_
      refine z_iconst (v := (3 : Int32)) X dX5_putCoefficients_8 rfl ?_
      refine z_imul X dX5_putCoefficients_9 ?_
      refine z_iload_n X dX5_putCoefficients_10 3 rfl ?_
      refine z_iadd X dX5_putCoefficients_11 ?_
      obtain ⟨v12, ev12, h⟩ := zlet_of h
      refine z_topi ev12 ?_
      refine z_istore (lv2 := [(4, .int v12), (0, .ref (aP 7)), (1, .int x1), (2, .ref (aX 0)), (3, .int x3)]) X dX5_putCoefficients_12 (by decide) rfl ?_
      refine z_iload X dX5_putCoefficients_14 0 rfl ?_
      refine z_if_lt (tgt := 35) X dX5_putCoefficients_16 (by decide) (fun c16 => ?_) (fun c16 => ?_)
      · replace h := zif_t h c16
        exact z_at (pc2 := 35) (lv2 := [(0, .ref (aP 7)), (1, .int x1), (2, .ref (aX 0)), (3, .int x3)]) (st2 := []) (ws2 := [wX5 (zcT C) aP sP, wX8 (zcT C) aX sX]) rfl rfl rfl [1, 2, 3, 4] rfl (bX5_putCoefficients_b_35 X hQ ih h)
      · replace h := zif_f h c16
        refine z_iload X dX5_putCoefficients_19 0 rfl ?_
        refine z_aload_n X dX5_putCoefficients_21 1 rfl ?_
        refine z_alen (v := (9 : Int32)) X 0 7 1 rfl rfl dX5_putCoefficients_22 rfl rfl ?_
        refine z_icmp_ge (tgt := 35) X dX5_putCoefficients_23 (by decide) (fun c23 => ?_) (fun c23 => ?_)
        · replace h := zif_t h c23
          exact z_at (pc2 := 35) (lv2 := [(0, .ref (aP 7)), (1, .int x1), (2, .ref (aX 0)), (3, .int x3)]) (st2 := []) (ws2 := [wX5 (zcT C) aP sP, wX8 (zcT C) aX sX]) rfl rfl rfl [1, 2, 3, 4] rfl (bX5_putCoefficients_b_35 X hQ ih h)
        · replace h := zif_f h c23
          refine z_aload_n X dX5_putCoefficients_26 1 rfl ?_
          refine z_iload X dX5_putCoefficients_27 0 rfl ?_
          refine z_aload_n X dX5_putCoefficients_29 3 rfl ?_
          refine z_iload_n X dX5_putCoefficients_30 4 rfl ?_
          obtain ⟨o31, ho31, h⟩ := zbind_of h
          refine z_callVi (st := [.int v12, .ref (aP 7)]) (ws2 := [wX5 (zcT C) aP sP, wX8 (zcT C) aX sX]) X (metX8_coefficientOf (zcl C) (zcD C) (zcT C) aX ho31) zmX8_coefficientOf zw971 dX5_putCoefficients_31 1 0 9 rfl rfl rfl rfl [1] rfl rfl [] rfl (by decide) trivial rfl rfl rfl (Nat.le_of_ble_eq_true rfl) rfl rfl ⟨Nat.le_of_ble_eq_true rfl, Nat.le_of_ble_eq_true rfl⟩ ⟨Nat.le_of_ble_eq_true rfl, Nat.le_of_ble_eq_true rfl⟩ ?_
          obtain ⟨g34, h⟩ := zgd_of h
          obtain ⟨sP34, esP34, h⟩ := zlet_of h
          refine z_iast (ws2 := [wX5 (zcT C) aP sP34, wX8 (zcT C) aX sX]) X 0 7 g34 dX5_putCoefficients_34 rfl rfl (by decide) (w2 := wX5 (zcT C) aP sP34) (by rw [esP34]; rfl) rfl ?_
          exact z_at (pc2 := 35) (lv2 := [(0, .ref (aP 7)), (1, .int x1), (2, .ref (aX 0)), (3, .int x3)]) (st2 := []) (ws2 := [wX5 (zcT C) aP sP34, wX8 (zcT C) aX sX]) rfl rfl rfl [1, 2, 3, 4] rfl (bX5_putCoefficients_b_35 X hQ ih h)
theorem bX5_putCoefficients_b_0 {C : zCtx} (X : zFx C cX5_putCoefficients 5 RX5 rmX5_putCoefficients_b none) {aP : Nat → Nat} {aX : Nat → Nat} {sP : zSt} {sX : zSt} {x1 : Int32} {out : zSt} (hQ : zHv C [wX5 (zcT C) aP out] 0 0) (h : fX5_putCoefficients_b sP sX x1 = some out) : zG C 5 [0] 0 0 [wX5 (zcT C) aP sP, wX8 (zcT C) aX sX] 0 [(0, .ref (aP 7)), (1, .int x1), (2, .ref (aX 0))] [] := by
  unfold fX5_putCoefficients_b at h
  refine z_iconst (v := (0 : Int32)) X dX5_putCoefficients_0 rfl ?_
  refine z_istore_n (lv2 := [(3, .int (0 : Int32)), (0, .ref (aP 7)), (1, .int x1), (2, .ref (aX 0))]) X dX5_putCoefficients_1 rfl (by decide) rfl ?_
  exact z_at (pc2 := 2) (lv2 := [(0, .ref (aP 7)), (1, .int x1), (2, .ref (aX 0)), (3, .int (0 : Int32))]) (st2 := []) (ws2 := [wX5 (zcT C) aP sP, wX8 (zcT C) aX sX]) rfl rfl rfl [1, 2, 3, 0] rfl (bX5_putCoefficients_b_2 X hQ  6000 sP x1 (0 : Int32) h)
theorem metX5_putCoefficients_b (l : Launch) (D : va_G) (T : Nat → ClassId) (aP : Nat → Nat) (aX : Nat → Nat) {sP : zSt} {sX : zSt} {x1 : Int32} {out : zSt} (hf : fX5_putCoefficients_b sP sX x1 = some out) (sz : Nat) : Met l yX5_putCoefficients (zws yX5_putCoefficients cX5_putCoefficients 5 none) rmX5_putCoefficients_b (zPc D T [.ref (aP 7), .int x1, .ref (aX 0)] [wX5 T aP sP, wX8 T aX sX] sz) (zQv D [wX5 T aP out] (zA [wX5 T aP sP] sz)) 0 0 (zA [wX5 T aP sP] sz) :=
  zMet (D := D) (T := T) (av := [.ref (aP 7), .int x1, .ref (aX 0)]) (ws := fun T => [wX5 T aP sP, wX8 T aX sX]) (wm := fun T => [wX5 T aP sP]) (lv0 := [(0, .ref (aP 7)), (1, .int x1), (2, .ref (aX 0))]) [0] (Qc := fun D T A => zQv D [wX5 T aP out] A) (by decide +kernel) rfl (Nat.le_of_ble_eq_true rfl) rfl (fun C X hQ => bX5_putCoefficients_b_0 X hQ hf) sz
/-- int leastOf(int); of Tableaufloor$Program -/
abbrev rmX5_leastOf : Room := { frames := 0, cells := 0, slots := 0, locals := 0 }
def fX5_leastOf_23 (sO : zSt) (y0 : Int32) : Option (Int32) :=
  some (y0)
def fX5_leastOf_22 (sO : zSt) : Option (Int32) :=
  (fX5_leastOf_23 sO (0 : Int32))
def fX5_leastOf (sO : zSt) (x1 : Int32) : Option (Int32) :=
  (if x1 < 0 then
    (fX5_leastOf_22 sO)
  else
    (if (3 : Int32) ≤ x1 then
      (fX5_leastOf_22 sO)
    else
      (if zin x1 3 = true then
        (fX5_leastOf_23 sO (zga sO 0 (x1).toNatClampNeg)) else none)))
theorem bX5_leastOf_23 {C : zCtx} (X : zFx C cX5_leastOf 2 RX5 rmX5_leastOf (some .int)) {aO : Nat → Nat} {sO : zSt} {y0 : Int32} {out : Int32} (hQ : zHi C out [] 0 0) (h : fX5_leastOf_23 sO y0 = some out) : zG C 2 [] 0 0 [wX5 (zcT C) aO sO] 23 [] [.int y0] := by
  unfold fX5_leastOf_23 at h
  cases h
  exact z_iret X hQ dX5_leastOf_23 rfl [] rfl (by decide) (by decide)
theorem bX5_leastOf_22 {C : zCtx} (X : zFx C cX5_leastOf 2 RX5 rmX5_leastOf (some .int)) {aO : Nat → Nat} {sO : zSt} {out : Int32} (hQ : zHi C out [] 0 0) (h : fX5_leastOf_22 sO = some out) : zG C 2 [] 0 0 [wX5 (zcT C) aO sO] 22 [] [] := by
  unfold fX5_leastOf_22 at h
  refine z_iconst (v := (0 : Int32)) X dX5_leastOf_22 rfl ?_
  exact z_at (pc2 := 23) (lv2 := []) (st2 := [.int (0 : Int32)]) (ws2 := [wX5 (zcT C) aO sO]) rfl rfl rfl [] rfl (bX5_leastOf_23 X hQ  h)
theorem bX5_leastOf_0 {C : zCtx} (X : zFx C cX5_leastOf 2 RX5 rmX5_leastOf (some .int)) {aO : Nat → Nat} {sO : zSt} {x1 : Int32} {out : Int32} (hQ : zHi C out [] 0 0) (h : fX5_leastOf sO x1 = some out) : zG C 2 [] 0 0 [wX5 (zcT C) aO sO] 0 [(0, .ref (aO 0)), (1, .int x1)] [] := by
  unfold fX5_leastOf at h
  refine z_iload_n X dX5_leastOf_0 1 rfl ?_
  refine z_if_lt (tgt := 22) X dX5_leastOf_1 (by decide) (fun c1 => ?_) (fun c1 => ?_)
  · replace h := zif_t h c1
    exact z_at (pc2 := 22) (lv2 := []) (st2 := []) (ws2 := [wX5 (zcT C) aO sO]) rfl rfl rfl [] rfl (bX5_leastOf_22 X hQ  h)
  · replace h := zif_f h c1
    refine z_iload_n X dX5_leastOf_4 1 rfl ?_
    refine z_aload_n X dX5_leastOf_5 0 rfl ?_
    refine z_get (v := .ref (aO 1)) X 0 0 6 0 ziX5 rfl (by decide) zw49 rfl dX5_leastOf_6 rfl rfl rfl ?_
    refine z_alen (v := (3 : Int32)) X 0 1 1 rfl rfl dX5_leastOf_9 rfl rfl ?_
    refine z_icmp_ge (tgt := 22) X dX5_leastOf_10 (by decide) (fun c10 => ?_) (fun c10 => ?_)
    · replace h := zif_t h c10
      exact z_at (pc2 := 22) (lv2 := []) (st2 := []) (ws2 := [wX5 (zcT C) aO sO]) rfl rfl rfl [] rfl (bX5_leastOf_22 X hQ  h)
    · replace h := zif_f h c10
      refine z_aload_n X dX5_leastOf_13 0 rfl ?_
      refine z_get (v := .ref (aO 1)) X 0 0 6 0 ziX5 rfl (by decide) zw49 rfl dX5_leastOf_14 rfl rfl rfl ?_
      refine z_iload_n X dX5_leastOf_17 1 rfl ?_
      obtain ⟨g18, h⟩ := zgd_of h
      refine z_iald X 0 1 g18 dX5_leastOf_18 rfl rfl ?_
      refine z_goto (tgt := 23) X dX5_leastOf_19 (by decide) ?_
      exact z_at (pc2 := 23) (lv2 := []) (st2 := [.int (zga sO 0 (x1).toNatClampNeg)]) (ws2 := [wX5 (zcT C) aO sO]) rfl rfl rfl [] rfl (bX5_leastOf_23 X hQ  h)
theorem metX5_leastOf (l : Launch) (D : va_G) (T : Nat → ClassId) (aO : Nat → Nat) {sO : zSt} {x1 : Int32} {out : Int32} (hf : fX5_leastOf sO x1 = some out) (sz : Nat) : Met l yX5_leastOf (zws yX5_leastOf cX5_leastOf 2 (some .int)) rmX5_leastOf (zPc D T [.ref (aO 0), .int x1] [wX5 T aO sO] sz) (zQi D out [] (zA [] sz)) 0 0 (zA [] sz) :=
  zMet (D := D) (T := T) (av := [.ref (aO 0), .int x1]) (ws := fun T => [wX5 T aO sO]) (wm := fun T => []) (lv0 := [(0, .ref (aO 0)), (1, .int x1)]) [] (Qc := fun D T A => zQi D out [] A) (by decide +kernel) rfl (Nat.le_of_ble_eq_true rfl) rfl (fun C X hQ => bX5_leastOf_0 X hQ hf) sz
/-- int greatestOf(int); of Tableaufloor$Program -/
abbrev rmX5_greatestOf : Room := { frames := 0, cells := 0, slots := 0, locals := 0 }
def fX5_greatestOf_24 (sO : zSt) (y0 : Int32) : Option (Int32) :=
  some (y0)
def fX5_greatestOf_22 (sO : zSt) : Option (Int32) :=
  (fX5_greatestOf_24 sO (100 : Int32))
def fX5_greatestOf (sO : zSt) (x1 : Int32) : Option (Int32) :=
  (if x1 < 0 then
    (fX5_greatestOf_22 sO)
  else
    (if (3 : Int32) ≤ x1 then
      (fX5_greatestOf_22 sO)
    else
      (if zin x1 3 = true then
        (fX5_greatestOf_24 sO (zga sO 1 (x1).toNatClampNeg)) else none)))
theorem bX5_greatestOf_24 {C : zCtx} (X : zFx C cX5_greatestOf 2 RX5 rmX5_greatestOf (some .int)) {aO : Nat → Nat} {sO : zSt} {y0 : Int32} {out : Int32} (hQ : zHi C out [] 0 0) (h : fX5_greatestOf_24 sO y0 = some out) : zG C 2 [] 0 0 [wX5 (zcT C) aO sO] 24 [] [.int y0] := by
  unfold fX5_greatestOf_24 at h
  cases h
  exact z_iret X hQ dX5_greatestOf_24 rfl [] rfl (by decide) (by decide)
theorem bX5_greatestOf_22 {C : zCtx} (X : zFx C cX5_greatestOf 2 RX5 rmX5_greatestOf (some .int)) {aO : Nat → Nat} {sO : zSt} {out : Int32} (hQ : zHi C out [] 0 0) (h : fX5_greatestOf_22 sO = some out) : zG C 2 [] 0 0 [wX5 (zcT C) aO sO] 22 [] [] := by
  unfold fX5_greatestOf_22 at h
  refine z_bipush (v := (100 : Int32)) X dX5_greatestOf_22 rfl ?_
  exact z_at (pc2 := 24) (lv2 := []) (st2 := [.int (100 : Int32)]) (ws2 := [wX5 (zcT C) aO sO]) rfl rfl rfl [] rfl (bX5_greatestOf_24 X hQ  h)
theorem bX5_greatestOf_0 {C : zCtx} (X : zFx C cX5_greatestOf 2 RX5 rmX5_greatestOf (some .int)) {aO : Nat → Nat} {sO : zSt} {x1 : Int32} {out : Int32} (hQ : zHi C out [] 0 0) (h : fX5_greatestOf sO x1 = some out) : zG C 2 [] 0 0 [wX5 (zcT C) aO sO] 0 [(0, .ref (aO 0)), (1, .int x1)] [] := by
  unfold fX5_greatestOf at h
  refine z_iload_n X dX5_greatestOf_0 1 rfl ?_
  refine z_if_lt (tgt := 22) X dX5_greatestOf_1 (by decide) (fun c1 => ?_) (fun c1 => ?_)
  · replace h := zif_t h c1
    exact z_at (pc2 := 22) (lv2 := []) (st2 := []) (ws2 := [wX5 (zcT C) aO sO]) rfl rfl rfl [] rfl (bX5_greatestOf_22 X hQ  h)
  · replace h := zif_f h c1
    refine z_iload_n X dX5_greatestOf_4 1 rfl ?_
    refine z_aload_n X dX5_greatestOf_5 0 rfl ?_
    refine z_get (v := .ref (aO 2)) X 0 0 6 1 ziX5 rfl (by decide) zw50 rfl dX5_greatestOf_6 rfl rfl rfl ?_
    refine z_alen (v := (3 : Int32)) X 0 2 1 rfl rfl dX5_greatestOf_9 rfl rfl ?_
    refine z_icmp_ge (tgt := 22) X dX5_greatestOf_10 (by decide) (fun c10 => ?_) (fun c10 => ?_)
    · replace h := zif_t h c10
      exact z_at (pc2 := 22) (lv2 := []) (st2 := []) (ws2 := [wX5 (zcT C) aO sO]) rfl rfl rfl [] rfl (bX5_greatestOf_22 X hQ  h)
    · replace h := zif_f h c10
      refine z_aload_n X dX5_greatestOf_13 0 rfl ?_
      refine z_get (v := .ref (aO 2)) X 0 0 6 1 ziX5 rfl (by decide) zw50 rfl dX5_greatestOf_14 rfl rfl rfl ?_
      refine z_iload_n X dX5_greatestOf_17 1 rfl ?_
      obtain ⟨g18, h⟩ := zgd_of h
      refine z_iald X 0 2 g18 dX5_greatestOf_18 rfl rfl ?_
      refine z_goto (tgt := 24) X dX5_greatestOf_19 (by decide) ?_
      exact z_at (pc2 := 24) (lv2 := []) (st2 := [.int (zga sO 1 (x1).toNatClampNeg)]) (ws2 := [wX5 (zcT C) aO sO]) rfl rfl rfl [] rfl (bX5_greatestOf_24 X hQ  h)
theorem metX5_greatestOf (l : Launch) (D : va_G) (T : Nat → ClassId) (aO : Nat → Nat) {sO : zSt} {x1 : Int32} {out : Int32} (hf : fX5_greatestOf sO x1 = some out) (sz : Nat) : Met l yX5_greatestOf (zws yX5_greatestOf cX5_greatestOf 2 (some .int)) rmX5_greatestOf (zPc D T [.ref (aO 0), .int x1] [wX5 T aO sO] sz) (zQi D out [] (zA [] sz)) 0 0 (zA [] sz) :=
  zMet (D := D) (T := T) (av := [.ref (aO 0), .int x1]) (ws := fun T => [wX5 T aO sO]) (wm := fun T => []) (lv0 := [(0, .ref (aO 0)), (1, .int x1)]) [] (Qc := fun D T A => zQi D out [] A) (by decide +kernel) rfl (Nat.le_of_ble_eq_true rfl) rfl (fun C X hQ => bX5_greatestOf_0 X hQ hf) sz
/-- boolean hasGreatest(int); of Tableaufloor$Program -/
abbrev rmX5_hasGreatest : Room := { frames := 1, cells := 0, slots := 0, locals := 21 }
def fX5_hasGreatest_15 (sO : zSt) (y0 : Int32) : Option (Int32) :=
  (if znar .boolean y0 = true then
    some (y0) else none)
def fX5_hasGreatest (sO : zSt) (x1 : Int32) : Option (Int32) :=
  ((fX5_greatestOf sO x1).bind (fun o2 =>
    (if (100 : Int32) ≤ o2 then
    (fX5_hasGreatest_15 sO (0 : Int32))
  else
    (fX5_hasGreatest_15 sO (1 : Int32)))))
theorem bX5_hasGreatest_15 {C : zCtx} (X : zFx C cX5_hasGreatest 2 RX5 rmX5_hasGreatest (some .boolean)) {aO : Nat → Nat} {sO : zSt} {y0 : Int32} {out : Int32} (hQ : zHi C out [] 0 0) (h : fX5_hasGreatest_15 sO y0 = some out) : zG C 2 [] 0 0 [wX5 (zcT C) aO sO] 15 [] [.int y0] := by
  unfold fX5_hasGreatest_15 at h
  obtain ⟨g15, h⟩ := zgd_of h
  cases h
  exact z_nret X hQ g15 dX5_hasGreatest_15 rfl [] rfl (by decide) (by decide)
theorem bX5_hasGreatest_0 {C : zCtx} (X : zFx C cX5_hasGreatest 2 RX5 rmX5_hasGreatest (some .boolean)) {aO : Nat → Nat} {sO : zSt} {x1 : Int32} {out : Int32} (hQ : zHi C out [] 0 0) (h : fX5_hasGreatest sO x1 = some out) : zG C 2 [] 0 0 [wX5 (zcT C) aO sO] 0 [(0, .ref (aO 0)), (1, .int x1)] [] := by
  unfold fX5_hasGreatest at h
  refine z_aload_n X dX5_hasGreatest_0 0 rfl ?_
  refine z_iload_n X dX5_hasGreatest_1 1 rfl ?_
  obtain ⟨o2, ho2, h⟩ := zbind_of h
  refine z_callVi (st := []) (ws2 := [wX5 (zcT C) aO sO]) X (metX5_greatestOf (zcl C) (zcD C) (zcT C) aO ho2) zmX5_greatestOf zw540 dX5_hasGreatest_2 0 0 6 rfl rfl rfl rfl [0] rfl rfl [] rfl (by decide) trivial rfl rfl rfl (Nat.le_of_ble_eq_true rfl) rfl rfl ⟨Nat.le_of_ble_eq_true rfl, Nat.le_of_ble_eq_true rfl⟩ ⟨Nat.le_of_ble_eq_true rfl, Nat.le_of_ble_eq_true rfl⟩ ?_
  refine z_bipush (v := (100 : Int32)) X dX5_hasGreatest_5 rfl ?_
  refine z_icmp_ge (tgt := 14) X dX5_hasGreatest_7 (by decide) (fun c7 => ?_) (fun c7 => ?_)
  · replace h := zif_t h c7
    refine z_iconst (v := (0 : Int32)) X dX5_hasGreatest_14 rfl ?_
    exact z_at (pc2 := 15) (lv2 := []) (st2 := [.int (0 : Int32)]) (ws2 := [wX5 (zcT C) aO sO]) rfl rfl rfl [] rfl (bX5_hasGreatest_15 X hQ  h)
  · replace h := zif_f h c7
    refine z_iconst (v := (1 : Int32)) X dX5_hasGreatest_10 rfl ?_
    refine z_goto (tgt := 15) X dX5_hasGreatest_11 (by decide) ?_
    exact z_at (pc2 := 15) (lv2 := []) (st2 := [.int (1 : Int32)]) (ws2 := [wX5 (zcT C) aO sO]) rfl rfl rfl [] rfl (bX5_hasGreatest_15 X hQ  h)
theorem metX5_hasGreatest (l : Launch) (D : va_G) (T : Nat → ClassId) (aO : Nat → Nat) {sO : zSt} {x1 : Int32} {out : Int32} (hf : fX5_hasGreatest sO x1 = some out) (sz : Nat) : Met l yX5_hasGreatest (zws yX5_hasGreatest cX5_hasGreatest 2 (some .boolean)) rmX5_hasGreatest (zPc D T [.ref (aO 0), .int x1] [wX5 T aO sO] sz) (zQi D out [] (zA [] sz)) 0 0 (zA [] sz) :=
  zMet (D := D) (T := T) (av := [.ref (aO 0), .int x1]) (ws := fun T => [wX5 T aO sO]) (wm := fun T => []) (lv0 := [(0, .ref (aO 0)), (1, .int x1)]) [] (Qc := fun D T A => zQi D out [] A) (by decide +kernel) rfl (Nat.le_of_ble_eq_true rfl) rfl (fun C X hQ => bX5_hasGreatest_0 X hQ hf) sz
/-- void putBounds(int, int, int); of Tableaufloor$Program -/
abbrev rmX5_putBounds : Room := { frames := 0, cells := 0, slots := 0, locals := 0 }
def fX5_putBounds_36 (sO : zSt) : Option (zSt) :=
  some (sO)
def fX5_putBounds (sO : zSt) (x1 : Int32) (x2 : Int32) (x3 : Int32) : Option (zSt) :=
  (if x1 < 0 then
    (fX5_putBounds_36 sO)
  else
    (if (3 : Int32) ≤ x1 then
      (fX5_putBounds_36 sO)
    else
      (if (3 : Int32) ≤ x1 then
        (fX5_putBounds_36 sO)
      else
        (if zin x1 3 = true then
          (zlet (zsa sO 0 (upd (zga sO 0) (x1).toNatClampNeg x2)) (fun sO28 =>
          (if zin x1 3 = true then
          (zlet (zsa sO28 1 (upd (zga sO28 1) (x1).toNatClampNeg x3)) (fun sO35 =>
          (fX5_putBounds_36 sO35))) else none))) else none))))
theorem bX5_putBounds_36 {C : zCtx} (X : zFx C cX5_putBounds 4 RX5 rmX5_putBounds none) {aO : Nat → Nat} {sO : zSt} {out : zSt} (hQ : zHv C [wX5 (zcT C) aO out] 0 0) (h : fX5_putBounds_36 sO = some out) : zG C 4 [0] 0 0 [wX5 (zcT C) aO sO] 36 [] [] := by
  unfold fX5_putBounds_36 at h
  cases h
  exact z_vret X hQ dX5_putBounds_36 [0] rfl (by decide) (by decide)
theorem bX5_putBounds_0 {C : zCtx} (X : zFx C cX5_putBounds 4 RX5 rmX5_putBounds none) {aO : Nat → Nat} {sO : zSt} {x1 : Int32} {x2 : Int32} {x3 : Int32} {out : zSt} (hQ : zHv C [wX5 (zcT C) aO out] 0 0) (h : fX5_putBounds sO x1 x2 x3 = some out) : zG C 4 [0] 0 0 [wX5 (zcT C) aO sO] 0 [(0, .ref (aO 0)), (1, .int x1), (2, .int x2), (3, .int x3)] [] := by
  unfold fX5_putBounds at h
  refine z_iload_n X dX5_putBounds_0 1 rfl ?_
  refine z_if_lt (tgt := 36) X dX5_putBounds_1 (by decide) (fun c1 => ?_) (fun c1 => ?_)
  · replace h := zif_t h c1
    exact z_at (pc2 := 36) (lv2 := []) (st2 := []) (ws2 := [wX5 (zcT C) aO sO]) rfl rfl rfl [] rfl (bX5_putBounds_36 X hQ  h)
  · replace h := zif_f h c1
    refine z_iload_n X dX5_putBounds_4 1 rfl ?_
    refine z_aload_n X dX5_putBounds_5 0 rfl ?_
    refine z_get (v := .ref (aO 1)) X 0 0 6 0 ziX5 rfl (by decide) zw49 rfl dX5_putBounds_6 rfl rfl rfl ?_
    refine z_alen (v := (3 : Int32)) X 0 1 1 rfl rfl dX5_putBounds_9 rfl rfl ?_
    refine z_icmp_ge (tgt := 36) X dX5_putBounds_10 (by decide) (fun c10 => ?_) (fun c10 => ?_)
    · replace h := zif_t h c10
      exact z_at (pc2 := 36) (lv2 := []) (st2 := []) (ws2 := [wX5 (zcT C) aO sO]) rfl rfl rfl [] rfl (bX5_putBounds_36 X hQ  h)
    · replace h := zif_f h c10
      refine z_iload_n X dX5_putBounds_13 1 rfl ?_
      refine z_aload_n X dX5_putBounds_14 0 rfl ?_
      refine z_get (v := .ref (aO 2)) X 0 0 6 1 ziX5 rfl (by decide) zw50 rfl dX5_putBounds_15 rfl rfl rfl ?_
      refine z_alen (v := (3 : Int32)) X 0 2 1 rfl rfl dX5_putBounds_18 rfl rfl ?_
      refine z_icmp_ge (tgt := 36) X dX5_putBounds_19 (by decide) (fun c19 => ?_) (fun c19 => ?_)
      · replace h := zif_t h c19
        exact z_at (pc2 := 36) (lv2 := []) (st2 := []) (ws2 := [wX5 (zcT C) aO sO]) rfl rfl rfl [] rfl (bX5_putBounds_36 X hQ  h)
      · replace h := zif_f h c19
        refine z_aload_n X dX5_putBounds_22 0 rfl ?_
        refine z_get (v := .ref (aO 1)) X 0 0 6 0 ziX5 rfl (by decide) zw49 rfl dX5_putBounds_23 rfl rfl rfl ?_
        refine z_iload_n X dX5_putBounds_26 1 rfl ?_
        refine z_iload_n X dX5_putBounds_27 2 rfl ?_
        obtain ⟨g28, h⟩ := zgd_of h
        obtain ⟨sO28, esO28, h⟩ := zlet_of h
        refine z_iast (ws2 := [wX5 (zcT C) aO sO28]) X 0 1 g28 dX5_putBounds_28 rfl rfl (by decide) (w2 := wX5 (zcT C) aO sO28) (by rw [esO28]; rfl) rfl ?_
        refine z_aload_n X dX5_putBounds_29 0 rfl ?_
        refine z_get (v := .ref (aO 2)) X 0 0 6 1 ziX5 rfl (by decide) zw50 rfl dX5_putBounds_30 rfl rfl rfl ?_
        refine z_iload_n X dX5_putBounds_33 1 rfl ?_
        refine z_iload_n X dX5_putBounds_34 3 rfl ?_
        obtain ⟨g35, h⟩ := zgd_of h
        obtain ⟨sO35, esO35, h⟩ := zlet_of h
        refine z_iast (ws2 := [wX5 (zcT C) aO sO35]) X 0 2 g35 dX5_putBounds_35 rfl rfl (by decide) (w2 := wX5 (zcT C) aO sO35) (by rw [esO35]; rfl) rfl ?_
        exact z_at (pc2 := 36) (lv2 := []) (st2 := []) (ws2 := [wX5 (zcT C) aO sO35]) rfl rfl rfl [] rfl (bX5_putBounds_36 X hQ  h)
theorem metX5_putBounds (l : Launch) (D : va_G) (T : Nat → ClassId) (aO : Nat → Nat) {sO : zSt} {x1 : Int32} {x2 : Int32} {x3 : Int32} {out : zSt} (hf : fX5_putBounds sO x1 x2 x3 = some out) (sz : Nat) : Met l yX5_putBounds (zws yX5_putBounds cX5_putBounds 4 none) rmX5_putBounds (zPc D T [.ref (aO 0), .int x1, .int x2, .int x3] [wX5 T aO sO] sz) (zQv D [wX5 T aO out] (zA [wX5 T aO sO] sz)) 0 0 (zA [wX5 T aO sO] sz) :=
  zMet (D := D) (T := T) (av := [.ref (aO 0), .int x1, .int x2, .int x3]) (ws := fun T => [wX5 T aO sO]) (wm := fun T => [wX5 T aO sO]) (lv0 := [(0, .ref (aO 0)), (1, .int x1), (2, .int x2), (3, .int x3)]) [0] (Qc := fun D T A => zQv D [wX5 T aO out] A) (by decide +kernel) rfl (Nat.le_of_ble_eq_true rfl) rfl (fun C X hQ => bX5_putBounds_0 X hQ hf) sz
/-- int putVariable(int, int); of Tableaufloor$Program -/
abbrev rmX5_putVariable : Room := { frames := 1, cells := 0, slots := 0, locals := 23 }
def fX5_putVariable (sO : zSt) (x1 : Int32) (x2 : Int32) : Option (Int32 × zSt) :=
  (zlet (zgi sO 8) (fun v4 =>
    (zlet (zsi sO 8 ((zgi sO 8) + (1 : Int32))) (fun sO12 =>
    ((fX5_putBounds sO12 v4 x1 x2).bind (fun o19 =>
    some (v4, o19)))))))
theorem bX5_putVariable_0 {C : zCtx} (X : zFx C cX5_putVariable 4 RX5 rmX5_putVariable (some .int)) {aO : Nat → Nat} {sO : zSt} {x1 : Int32} {x2 : Int32} {out : Int32 × zSt} (hQ : zHi C out.1 [wX5 (zcT C) aO out.2] 0 0) (h : fX5_putVariable sO x1 x2 = some out) : zG C 4 [0] 0 0 [wX5 (zcT C) aO sO] 0 [(0, .ref (aO 0)), (1, .int x1), (2, .int x2)] [] := by
  unfold fX5_putVariable at h
  refine z_aload_n X dX5_putVariable_0 0 rfl ?_
  refine z_get (v := .int (zgi sO 8)) X 0 0 6 8 ziX5 rfl (by decide) zw62 rfl dX5_putVariable_1 rfl rfl rfl ?_
  obtain ⟨v4, ev4, h⟩ := zlet_of h
  refine z_topi ev4 ?_
  refine z_istore_n (lv2 := [(3, .int v4), (0, .ref (aO 0)), (1, .int x1), (2, .int x2)]) X dX5_putVariable_4 rfl (by decide) rfl ?_
  refine z_aload_n X dX5_putVariable_5 1 rfl ?_
  refine z_dup X dX5_putVariable_6 rfl ?_
  refine z_get (v := .int (zgi sO 8)) X 0 0 6 8 ziX5 rfl (by decide) zw62 rfl dX5_putVariable_7 rfl rfl rfl ?_
  refine z_iconst (v := (1 : Int32)) X dX5_putVariable_10 rfl ?_
  refine z_iadd X dX5_putVariable_11 ?_
  obtain ⟨sO12, esO12, h⟩ := zlet_of h
  refine z_put (ws2 := [wX5 (zcT C) aO sO12]) X 0 0 6 8 ziX5 rfl tyX5 tyX5_ok nmX5 (by decide) zw62 rfl rfl (ty := .int) (by decide +kernel) rfl rfl (by show 8 < 12; decide) dX5_putVariable_12 rfl rfl (by decide) (w2 := wX5 (zcT C) aO sO12) (by rw [esO12]; rfl) rfl ?_
  refine z_aload_n X dX5_putVariable_15 1 rfl ?_
  refine z_iload_n X dX5_putVariable_16 0 rfl ?_
  refine z_iload_n X dX5_putVariable_17 2 rfl ?_
  refine z_iload_n X dX5_putVariable_18 3 rfl ?_
  obtain ⟨o19, ho19, h⟩ := zbind_of h
  refine z_callVv (st := []) (ws2 := [wX5 (zcT C) aO o19]) X (metX5_putBounds (zcl C) (zcD C) (zcT C) aO ho19) zmX5_putBounds zw846 dX5_putVariable_19 0 0 6 rfl rfl rfl rfl [0] rfl rfl [0] rfl (by decide) ⟨zsX5 , trivial⟩ rfl rfl rfl (Nat.le_of_ble_eq_true rfl) rfl rfl ⟨Nat.le_of_ble_eq_true rfl, Nat.le_of_ble_eq_true rfl⟩ ⟨Nat.le_of_ble_eq_true rfl, Nat.le_of_ble_eq_true rfl⟩ ?_
  refine z_iload_n X dX5_putVariable_22 0 rfl ?_
  cases h
  exact z_iret X hQ dX5_putVariable_23 rfl [0] rfl (by decide) (by decide)
theorem metX5_putVariable (l : Launch) (D : va_G) (T : Nat → ClassId) (aO : Nat → Nat) {sO : zSt} {x1 : Int32} {x2 : Int32} {out : Int32 × zSt} (hf : fX5_putVariable sO x1 x2 = some out) (sz : Nat) : Met l yX5_putVariable (zws yX5_putVariable cX5_putVariable 4 (some .int)) rmX5_putVariable (zPc D T [.ref (aO 0), .int x1, .int x2] [wX5 T aO sO] sz) (zQi D out.1 [wX5 T aO out.2] (zA [wX5 T aO sO] sz)) 0 0 (zA [wX5 T aO sO] sz) :=
  zMet (D := D) (T := T) (av := [.ref (aO 0), .int x1, .int x2]) (ws := fun T => [wX5 T aO sO]) (wm := fun T => [wX5 T aO sO]) (lv0 := [(0, .ref (aO 0)), (1, .int x1), (2, .int x2)]) [0] (Qc := fun D T A => zQi D out.1 [wX5 T aO out.2] A) (by decide +kernel) rfl (Nat.le_of_ble_eq_true rfl) rfl (fun C X hQ => bX5_putVariable_0 X hQ hf) sz
/-- boolean isNarrow(); of Tableaufloor$Program -/
abbrev rmX5_isNarrow : Room := { frames := 2, cells := 0, slots := 0, locals := 42 }
def fX5_isNarrow_34 (sO : zSt) : Option (Int32) :=
  some ((0 : Int32))
def fX5_isNarrow_2 (sO : zSt) : Nat → Int32 → Option (Int32)
  | 0, _ => none
  | n + 1, x1 =>
    (if (zgi sO 8) ≤ x1 then
      some ((1 : Int32))
    else
      ((fX5_hasGreatest sO x1).bind (fun o12 =>
        (if o12 = 0 then
        (fX5_isNarrow_34 sO)
      else
        ((fX5_greatestOf sO x1).bind (fun o20 =>
          ((fX5_leastOf sO x1).bind (fun o25 =>
          (if (o20 - o25) ≤ (6 : Int32) then
          (zlet (x1 + 1) (fun v36 =>
            (fX5_isNarrow_2 sO n v36)))
        else
          (fX5_isNarrow_34 sO))))))))))
def fX5_isNarrow (sO : zSt) : Option (Int32) :=
  (fX5_isNarrow_2 sO 6000 (0 : Int32))
theorem bX5_isNarrow_34 {C : zCtx} (X : zFx C cX5_isNarrow 2 RX5 rmX5_isNarrow (some .boolean)) {aO : Nat → Nat} {sO : zSt} {out : Int32} (hQ : zHi C out [] 0 0) (h : fX5_isNarrow_34 sO = some out) : zG C 2 [] 0 0 [wX5 (zcT C) aO sO] 34 [] [] := by
  unfold fX5_isNarrow_34 at h
  refine z_iconst (v := (0 : Int32)) X dX5_isNarrow_34 rfl ?_
  cases h
  exact z_nret X hQ rfl dX5_isNarrow_35 rfl [] rfl (by decide) (by decide)
theorem bX5_isNarrow_2 {C : zCtx} (X : zFx C cX5_isNarrow 2 RX5 rmX5_isNarrow (some .boolean)) {aO : Nat → Nat} {sO : zSt} {out : Int32} (hQ : zHi C out [] 0 0) : ∀ (n : Nat) (x1 : Int32), fX5_isNarrow_2 sO n x1 = some out → zG C 2 [] 0 0 [wX5 (zcT C) aO sO] 2 [(0, .ref (aO 0)), (1, .int x1)] [] := by
  intro n
  induction n with
  | zero =>
    intro x1 h
    rw [fX5_isNarrow_2] at h
    exact zno h
  | succ n ih =>
    intro x1 h
    rw [fX5_isNarrow_2] at h
    refine z_iload_n X dX5_isNarrow_2 1 rfl ?_
    refine z_aload_n X dX5_isNarrow_3 0 rfl ?_
    refine z_get (v := .int (zgi sO 8)) X 0 0 6 8 ziX5 rfl (by decide) zw62 rfl dX5_isNarrow_4 rfl rfl rfl ?_
    refine z_icmp_ge (tgt := 42) X dX5_isNarrow_7 (by decide) (fun c7 => ?_) (fun c7 => ?_)
    · replace h := zif_t h c7
      refine z_iconst (v := (1 : Int32)) X dX5_isNarrow_42 rfl ?_
      cases h
      exact z_nret X hQ rfl dX5_isNarrow_43 rfl [] rfl (by decide) (by decide)
    · replace h := zif_f h c7
      refine z_aload_n X dX5_isNarrow_10 0 rfl ?_
      refine z_iload_n X dX5_isNarrow_11 1 rfl ?_
      obtain ⟨o12, ho12, h⟩ := zbind_of h
      refine z_callVi (st := []) (ws2 := [wX5 (zcT C) aO sO]) X (metX5_hasGreatest (zcl C) (zcD C) (zcT C) aO ho12) zmX5_hasGreatest zw700 dX5_isNarrow_12 0 0 6 rfl rfl rfl rfl [0] rfl rfl [] rfl (by decide) trivial rfl rfl rfl (Nat.le_of_ble_eq_true rfl) rfl rfl ⟨Nat.le_of_ble_eq_true rfl, Nat.le_of_ble_eq_true rfl⟩ ⟨Nat.le_of_ble_eq_true rfl, Nat.le_of_ble_eq_true rfl⟩ ?_
      refine z_if_eq (tgt := 34) X dX5_isNarrow_15 (by decide) (fun c15 => ?_) (fun c15 => ?_)
      · replace h := zif_t h c15
        exact z_at (pc2 := 34) (lv2 := []) (st2 := []) (ws2 := [wX5 (zcT C) aO sO]) rfl rfl rfl [] rfl (bX5_isNarrow_34 X hQ  h)
      · replace h := zif_f h c15
        refine z_aload_n X dX5_isNarrow_18 0 rfl ?_
        refine z_iload_n X dX5_isNarrow_19 1 rfl ?_
        obtain ⟨o20, ho20, h⟩ := zbind_of h
        refine z_callVi (st := []) (ws2 := [wX5 (zcT C) aO sO]) X (metX5_greatestOf (zcl C) (zcD C) (zcT C) aO ho20) zmX5_greatestOf zw540 dX5_isNarrow_20 0 0 6 rfl rfl rfl rfl [0] rfl rfl [] rfl (by decide) trivial rfl rfl rfl (Nat.le_of_ble_eq_true rfl) rfl rfl ⟨Nat.le_of_ble_eq_true rfl, Nat.le_of_ble_eq_true rfl⟩ ⟨Nat.le_of_ble_eq_true rfl, Nat.le_of_ble_eq_true rfl⟩ ?_
        refine z_aload_n X dX5_isNarrow_23 0 rfl ?_
        refine z_iload_n X dX5_isNarrow_24 1 rfl ?_
        obtain ⟨o25, ho25, h⟩ := zbind_of h
        refine z_callVi (st := [.int o20]) (ws2 := [wX5 (zcT C) aO sO]) X (metX5_leastOf (zcl C) (zcD C) (zcT C) aO ho25) zmX5_leastOf zw699 dX5_isNarrow_25 0 0 6 rfl rfl rfl rfl [0] rfl rfl [] rfl (by decide) trivial rfl rfl rfl (Nat.le_of_ble_eq_true rfl) rfl rfl ⟨Nat.le_of_ble_eq_true rfl, Nat.le_of_ble_eq_true rfl⟩ ⟨Nat.le_of_ble_eq_true rfl, Nat.le_of_ble_eq_true rfl⟩ ?_
        refine z_isub X dX5_isNarrow_28 ?_
        refine z_bipush (v := (6 : Int32)) X dX5_isNarrow_29 rfl ?_
        refine z_icmp_le (tgt := 36) X dX5_isNarrow_31 (by decide) (fun c31 => ?_) (fun c31 => ?_)
        · replace h := zif_t h c31
          obtain ⟨v36, ev36, h⟩ := zlet_of h
          refine z_iinc (v := v36) (lv2 := [(1, .int v36), (0, .ref (aO 0))]) X dX5_isNarrow_36 (k := 1) rfl (by rw [ev36]; rfl) (by decide) rfl ?_
          refine z_goto (tgt := 2) X dX5_isNarrow_39 (by decide) ?_
          exact z_at (pc2 := 2) (lv2 := [(0, .ref (aO 0)), (1, .int v36)]) (st2 := []) (ws2 := [wX5 (zcT C) aO sO]) rfl rfl rfl [1, 0] rfl (ih v36 h)
        · replace h := zif_f h c31
          exact z_at (pc2 := 34) (lv2 := []) (st2 := []) (ws2 := [wX5 (zcT C) aO sO]) rfl rfl rfl [] rfl (bX5_isNarrow_34 X hQ  h)
theorem bX5_isNarrow_0 {C : zCtx} (X : zFx C cX5_isNarrow 2 RX5 rmX5_isNarrow (some .boolean)) {aO : Nat → Nat} {sO : zSt} {out : Int32} (hQ : zHi C out [] 0 0) (h : fX5_isNarrow sO = some out) : zG C 2 [] 0 0 [wX5 (zcT C) aO sO] 0 [(0, .ref (aO 0))] [] := by
  unfold fX5_isNarrow at h
  refine z_iconst (v := (0 : Int32)) X dX5_isNarrow_0 rfl ?_
  refine z_istore_n (lv2 := [(1, .int (0 : Int32)), (0, .ref (aO 0))]) X dX5_isNarrow_1 rfl (by decide) rfl ?_
  exact z_at (pc2 := 2) (lv2 := [(0, .ref (aO 0)), (1, .int (0 : Int32))]) (st2 := []) (ws2 := [wX5 (zcT C) aO sO]) rfl rfl rfl [1, 0] rfl (bX5_isNarrow_2 X hQ  6000 (0 : Int32) h)
theorem metX5_isNarrow (l : Launch) (D : va_G) (T : Nat → ClassId) (aO : Nat → Nat) {sO : zSt} {out : Int32} (hf : fX5_isNarrow sO = some out) (sz : Nat) : Met l yX5_isNarrow (zws yX5_isNarrow cX5_isNarrow 2 (some .boolean)) rmX5_isNarrow (zPc D T [.ref (aO 0)] [wX5 T aO sO] sz) (zQi D out [] (zA [] sz)) 0 0 (zA [] sz) :=
  zMet (D := D) (T := T) (av := [.ref (aO 0)]) (ws := fun T => [wX5 T aO sO]) (wm := fun T => []) (lv0 := [(0, .ref (aO 0))]) [] (Qc := fun D T A => zQi D out [] A) (by decide +kernel) rfl (Nat.le_of_ble_eq_true rfl) rfl (fun C X hQ => bX5_isNarrow_0 X hQ hf) sz
/-- boolean hasRoomForRow(); of Tableaufloor$Program -/
abbrev rmX5_hasRoomForRow : Room := { frames := 0, cells := 0, slots := 0, locals := 0 }
def fX5_hasRoomForRow_23 (sO : zSt) (y0 : Int32) : Option (Int32) :=
  (if znar .boolean y0 = true then
    some (y0) else none)
def fX5_hasRoomForRow_22 (sO : zSt) : Option (Int32) :=
  (fX5_hasRoomForRow_23 sO (0 : Int32))
def fX5_hasRoomForRow (sO : zSt) : Option (Int32) :=
  (if (12 : Int32) ≤ (zgi sO 9) then
    (fX5_hasRoomForRow_22 sO)
  else
    (if (6 : Int32) ≤ (zgi sO 10) then
      (fX5_hasRoomForRow_22 sO)
    else
      (fX5_hasRoomForRow_23 sO (1 : Int32))))
theorem bX5_hasRoomForRow_23 {C : zCtx} (X : zFx C cX5_hasRoomForRow 1 RX5 rmX5_hasRoomForRow (some .boolean)) {aO : Nat → Nat} {sO : zSt} {y0 : Int32} {out : Int32} (hQ : zHi C out [] 0 0) (h : fX5_hasRoomForRow_23 sO y0 = some out) : zG C 1 [] 0 0 [wX5 (zcT C) aO sO] 23 [] [.int y0] := by
  unfold fX5_hasRoomForRow_23 at h
  obtain ⟨g23, h⟩ := zgd_of h
  cases h
  exact z_nret X hQ g23 dX5_hasRoomForRow_23 rfl [] rfl (by decide) (by decide)
theorem bX5_hasRoomForRow_22 {C : zCtx} (X : zFx C cX5_hasRoomForRow 1 RX5 rmX5_hasRoomForRow (some .boolean)) {aO : Nat → Nat} {sO : zSt} {out : Int32} (hQ : zHi C out [] 0 0) (h : fX5_hasRoomForRow_22 sO = some out) : zG C 1 [] 0 0 [wX5 (zcT C) aO sO] 22 [] [] := by
  unfold fX5_hasRoomForRow_22 at h
  refine z_iconst (v := (0 : Int32)) X dX5_hasRoomForRow_22 rfl ?_
  exact z_at (pc2 := 23) (lv2 := []) (st2 := [.int (0 : Int32)]) (ws2 := [wX5 (zcT C) aO sO]) rfl rfl rfl [] rfl (bX5_hasRoomForRow_23 X hQ  h)
theorem bX5_hasRoomForRow_0 {C : zCtx} (X : zFx C cX5_hasRoomForRow 1 RX5 rmX5_hasRoomForRow (some .boolean)) {aO : Nat → Nat} {sO : zSt} {out : Int32} (hQ : zHi C out [] 0 0) (h : fX5_hasRoomForRow sO = some out) : zG C 1 [] 0 0 [wX5 (zcT C) aO sO] 0 [(0, .ref (aO 0))] [] := by
  unfold fX5_hasRoomForRow at h
  refine z_aload_n X dX5_hasRoomForRow_0 0 rfl ?_
  refine z_get (v := .int (zgi sO 9)) X 0 0 6 9 ziX5 rfl (by decide) zw65 rfl dX5_hasRoomForRow_1 rfl rfl rfl ?_
  refine z_bipush (v := (12 : Int32)) X dX5_hasRoomForRow_4 rfl ?_
  refine z_icmp_ge (tgt := 22) X dX5_hasRoomForRow_6 (by decide) (fun c6 => ?_) (fun c6 => ?_)
  · replace h := zif_t h c6
    exact z_at (pc2 := 22) (lv2 := []) (st2 := []) (ws2 := [wX5 (zcT C) aO sO]) rfl rfl rfl [] rfl (bX5_hasRoomForRow_22 X hQ  h)
  · replace h := zif_f h c6
    refine z_aload_n X dX5_hasRoomForRow_9 0 rfl ?_
    refine z_get (v := .int (zgi sO 10)) X 0 0 6 10 ziX5 rfl (by decide) zw67 rfl dX5_hasRoomForRow_10 rfl rfl rfl ?_
    refine z_bipush (v := (6 : Int32)) X dX5_hasRoomForRow_13 rfl ?_
    refine z_icmp_ge (tgt := 22) X dX5_hasRoomForRow_15 (by decide) (fun c15 => ?_) (fun c15 => ?_)
    · replace h := zif_t h c15
      exact z_at (pc2 := 22) (lv2 := []) (st2 := []) (ws2 := [wX5 (zcT C) aO sO]) rfl rfl rfl [] rfl (bX5_hasRoomForRow_22 X hQ  h)
    · replace h := zif_f h c15
      refine z_iconst (v := (1 : Int32)) X dX5_hasRoomForRow_18 rfl ?_
      refine z_goto (tgt := 23) X dX5_hasRoomForRow_19 (by decide) ?_
      exact z_at (pc2 := 23) (lv2 := []) (st2 := [.int (1 : Int32)]) (ws2 := [wX5 (zcT C) aO sO]) rfl rfl rfl [] rfl (bX5_hasRoomForRow_23 X hQ  h)
theorem metX5_hasRoomForRow (l : Launch) (D : va_G) (T : Nat → ClassId) (aO : Nat → Nat) {sO : zSt} {out : Int32} (hf : fX5_hasRoomForRow sO = some out) (sz : Nat) : Met l yX5_hasRoomForRow (zws yX5_hasRoomForRow cX5_hasRoomForRow 1 (some .boolean)) rmX5_hasRoomForRow (zPc D T [.ref (aO 0)] [wX5 T aO sO] sz) (zQi D out [] (zA [] sz)) 0 0 (zA [] sz) :=
  zMet (D := D) (T := T) (av := [.ref (aO 0)]) (ws := fun T => [wX5 T aO sO]) (wm := fun T => []) (lv0 := [(0, .ref (aO 0))]) [] (Qc := fun D T A => zQi D out [] A) (by decide +kernel) rfl (Nat.le_of_ble_eq_true rfl) rfl (fun C X hQ => bX5_hasRoomForRow_0 X hQ hf) sz
/-- boolean hasRoomForAim(); of Tableaufloor$Program -/
abbrev rmX5_hasRoomForAim : Room := { frames := 0, cells := 0, slots := 0, locals := 0 }
def fX5_hasRoomForAim_13 (sO : zSt) (y0 : Int32) : Option (Int32) :=
  (if znar .boolean y0 = true then
    some (y0) else none)
def fX5_hasRoomForAim (sO : zSt) : Option (Int32) :=
  (if (3 : Int32) ≤ (zgi sO 11) then
    (fX5_hasRoomForAim_13 sO (0 : Int32))
  else
    (fX5_hasRoomForAim_13 sO (1 : Int32)))
theorem bX5_hasRoomForAim_13 {C : zCtx} (X : zFx C cX5_hasRoomForAim 1 RX5 rmX5_hasRoomForAim (some .boolean)) {aO : Nat → Nat} {sO : zSt} {y0 : Int32} {out : Int32} (hQ : zHi C out [] 0 0) (h : fX5_hasRoomForAim_13 sO y0 = some out) : zG C 1 [] 0 0 [wX5 (zcT C) aO sO] 13 [] [.int y0] := by
  unfold fX5_hasRoomForAim_13 at h
  obtain ⟨g13, h⟩ := zgd_of h
  cases h
  exact z_nret X hQ g13 dX5_hasRoomForAim_13 rfl [] rfl (by decide) (by decide)
theorem bX5_hasRoomForAim_0 {C : zCtx} (X : zFx C cX5_hasRoomForAim 1 RX5 rmX5_hasRoomForAim (some .boolean)) {aO : Nat → Nat} {sO : zSt} {out : Int32} (hQ : zHi C out [] 0 0) (h : fX5_hasRoomForAim sO = some out) : zG C 1 [] 0 0 [wX5 (zcT C) aO sO] 0 [(0, .ref (aO 0))] [] := by
  unfold fX5_hasRoomForAim at h
  refine z_aload_n X dX5_hasRoomForAim_0 0 rfl ?_
  refine z_get (v := .int (zgi sO 11)) X 0 0 6 11 ziX5 rfl (by decide) zw71 rfl dX5_hasRoomForAim_1 rfl rfl rfl ?_
  refine z_iconst (v := (3 : Int32)) X dX5_hasRoomForAim_4 rfl ?_
  refine z_icmp_ge (tgt := 12) X dX5_hasRoomForAim_5 (by decide) (fun c5 => ?_) (fun c5 => ?_)
  · replace h := zif_t h c5
    refine z_iconst (v := (0 : Int32)) X dX5_hasRoomForAim_12 rfl ?_
    exact z_at (pc2 := 13) (lv2 := []) (st2 := [.int (0 : Int32)]) (ws2 := [wX5 (zcT C) aO sO]) rfl rfl rfl [] rfl (bX5_hasRoomForAim_13 X hQ  h)
  · replace h := zif_f h c5
    refine z_iconst (v := (1 : Int32)) X dX5_hasRoomForAim_8 rfl ?_
    refine z_goto (tgt := 13) X dX5_hasRoomForAim_9 (by decide) ?_
    exact z_at (pc2 := 13) (lv2 := []) (st2 := [.int (1 : Int32)]) (ws2 := [wX5 (zcT C) aO sO]) rfl rfl rfl [] rfl (bX5_hasRoomForAim_13 X hQ  h)
theorem metX5_hasRoomForAim (l : Launch) (D : va_G) (T : Nat → ClassId) (aO : Nat → Nat) {sO : zSt} {out : Int32} (hf : fX5_hasRoomForAim sO = some out) (sz : Nat) : Met l yX5_hasRoomForAim (zws yX5_hasRoomForAim cX5_hasRoomForAim 1 (some .boolean)) rmX5_hasRoomForAim (zPc D T [.ref (aO 0)] [wX5 T aO sO] sz) (zQi D out [] (zA [] sz)) 0 0 (zA [] sz) :=
  zMet (D := D) (T := T) (av := [.ref (aO 0)]) (ws := fun T => [wX5 T aO sO]) (wm := fun T => []) (lv0 := [(0, .ref (aO 0))]) [] (Qc := fun D T A => zQi D out [] A) (by decide +kernel) rfl (Nat.le_of_ble_eq_true rfl) rfl (fun C X hQ => bX5_hasRoomForAim_0 X hQ hf) sz
/-- void putNumber(int, int); of Tableaufloor$Program -/
abbrev rmX5_putNumber : Room := { frames := 0, cells := 0, slots := 0, locals := 0 }
def fX5_putNumber_20 (sO : zSt) : Option (zSt) :=
  some (sO)
def fX5_putNumber (sO : zSt) (x1 : Int32) (x2 : Int32) : Option (zSt) :=
  (if x1 < 0 then
    (fX5_putNumber_20 sO)
  else
    (if (12 : Int32) ≤ x1 then
      (fX5_putNumber_20 sO)
    else
      (if zin x1 12 = true then
        (zlet (zsa sO 4 (upd (zga sO 4) (x1).toNatClampNeg x2)) (fun sO19 =>
        (fX5_putNumber_20 sO19))) else none)))
theorem bX5_putNumber_20 {C : zCtx} (X : zFx C cX5_putNumber 3 RX5 rmX5_putNumber none) {aO : Nat → Nat} {sO : zSt} {out : zSt} (hQ : zHv C [wX5 (zcT C) aO out] 0 0) (h : fX5_putNumber_20 sO = some out) : zG C 3 [0] 0 0 [wX5 (zcT C) aO sO] 20 [] [] := by
  unfold fX5_putNumber_20 at h
  cases h
  exact z_vret X hQ dX5_putNumber_20 [0] rfl (by decide) (by decide)
theorem bX5_putNumber_0 {C : zCtx} (X : zFx C cX5_putNumber 3 RX5 rmX5_putNumber none) {aO : Nat → Nat} {sO : zSt} {x1 : Int32} {x2 : Int32} {out : zSt} (hQ : zHv C [wX5 (zcT C) aO out] 0 0) (h : fX5_putNumber sO x1 x2 = some out) : zG C 3 [0] 0 0 [wX5 (zcT C) aO sO] 0 [(0, .ref (aO 0)), (1, .int x1), (2, .int x2)] [] := by
  unfold fX5_putNumber at h
  refine z_iload_n X dX5_putNumber_0 1 rfl ?_
  refine z_if_lt (tgt := 20) X dX5_putNumber_1 (by decide) (fun c1 => ?_) (fun c1 => ?_)
  · replace h := zif_t h c1
    exact z_at (pc2 := 20) (lv2 := []) (st2 := []) (ws2 := [wX5 (zcT C) aO sO]) rfl rfl rfl [] rfl (bX5_putNumber_20 X hQ  h)
  · replace h := zif_f h c1
    refine z_iload_n X dX5_putNumber_4 1 rfl ?_
    refine z_aload_n X dX5_putNumber_5 0 rfl ?_
    refine z_get (v := .ref (aO 5)) X 0 0 6 4 ziX5 rfl (by decide) zw53 rfl dX5_putNumber_6 rfl rfl rfl ?_
    refine z_alen (v := (12 : Int32)) X 0 5 1 rfl rfl dX5_putNumber_9 rfl rfl ?_
    refine z_icmp_ge (tgt := 20) X dX5_putNumber_10 (by decide) (fun c10 => ?_) (fun c10 => ?_)
    · replace h := zif_t h c10
      exact z_at (pc2 := 20) (lv2 := []) (st2 := []) (ws2 := [wX5 (zcT C) aO sO]) rfl rfl rfl [] rfl (bX5_putNumber_20 X hQ  h)
    · replace h := zif_f h c10
      refine z_aload_n X dX5_putNumber_13 0 rfl ?_
      refine z_get (v := .ref (aO 5)) X 0 0 6 4 ziX5 rfl (by decide) zw53 rfl dX5_putNumber_14 rfl rfl rfl ?_
      refine z_iload_n X dX5_putNumber_17 1 rfl ?_
      refine z_iload_n X dX5_putNumber_18 2 rfl ?_
      obtain ⟨g19, h⟩ := zgd_of h
      obtain ⟨sO19, esO19, h⟩ := zlet_of h
      refine z_iast (ws2 := [wX5 (zcT C) aO sO19]) X 0 5 g19 dX5_putNumber_19 rfl rfl (by decide) (w2 := wX5 (zcT C) aO sO19) (by rw [esO19]; rfl) rfl ?_
      exact z_at (pc2 := 20) (lv2 := []) (st2 := []) (ws2 := [wX5 (zcT C) aO sO19]) rfl rfl rfl [] rfl (bX5_putNumber_20 X hQ  h)
theorem metX5_putNumber (l : Launch) (D : va_G) (T : Nat → ClassId) (aO : Nat → Nat) {sO : zSt} {x1 : Int32} {x2 : Int32} {out : zSt} (hf : fX5_putNumber sO x1 x2 = some out) (sz : Nat) : Met l yX5_putNumber (zws yX5_putNumber cX5_putNumber 3 none) rmX5_putNumber (zPc D T [.ref (aO 0), .int x1, .int x2] [wX5 T aO sO] sz) (zQv D [wX5 T aO out] (zA [wX5 T aO sO] sz)) 0 0 (zA [wX5 T aO sO] sz) :=
  zMet (D := D) (T := T) (av := [.ref (aO 0), .int x1, .int x2]) (ws := fun T => [wX5 T aO sO]) (wm := fun T => [wX5 T aO sO]) (lv0 := [(0, .ref (aO 0)), (1, .int x1), (2, .int x2)]) [0] (Qc := fun D T A => zQv D [wX5 T aO out] A) (by decide +kernel) rfl (Nat.le_of_ble_eq_true rfl) rfl (fun C X hQ => bX5_putNumber_0 X hQ hf) sz
/-- int putRow(Tableaufloor$Text); of Tableaufloor$Program -/
abbrev rmX5_putRow : Room := { frames := 2, cells := 0, slots := 0, locals := 45 }
def fX5_putRow_64 (sX : zSt) (sO : zSt) (x2 : Int32) : Option (Int32 × zSt) :=
  ((fX5_putNumber sO x2 (zgi sX 9)).bind (fun o70 =>
    ((fX5_putCoefficients o70 sX x2).bind (fun o79 =>
    some (x2, o79)))))
def fX5_putRow (sO : zSt) (sX : zSt) : Option (Int32 × zSt) :=
  (zlet (zgi sO 9) (fun v4 =>
    (if v4 < 0 then
    (fX5_putRow_64 sX sO v4)
  else
    (if (12 : Int32) ≤ v4 then
      (fX5_putRow_64 sX sO v4)
    else
      (if (12 : Int32) ≤ v4 then
        (fX5_putRow_64 sX sO v4)
      else
        (if zin v4 12 = true then
          (zlet (zsa sO 3 (upd (zga sO 3) (v4).toNatClampNeg (vp_nar .char (zgi sX 8)))) (fun sO36 =>
          (if zin v4 12 = true then
          (zlet (zsa sO36 5 (upd (zga sO36 5) (v4).toNatClampNeg (vp_nar .boolean (1 : Int32)))) (fun sO43 =>
          (zlet (zsi sO43 9 ((zgi sO43 9) + (1 : Int32))) (fun sO51 =>
          (zlet (zsi sO51 10 ((zgi sO51 10) + (1 : Int32))) (fun sO61 =>
          (fX5_putRow_64 sX sO61 v4))))))) else none))) else none))))))
theorem bX5_putRow_64 {C : zCtx} (X : zFx C cX5_putRow 3 RX5 rmX5_putRow (some .int)) {aO : Nat → Nat} {aX : Nat → Nat} {sX : zSt} {sO : zSt} {x2 : Int32} {out : Int32 × zSt} (hQ : zHi C out.1 [wX5 (zcT C) aO out.2] 0 0) (h : fX5_putRow_64 sX sO x2 = some out) : zG C 3 [0] 0 0 [wX5 (zcT C) aO sO, wX8 (zcT C) aX sX] 64 [(0, .ref (aO 0)), (1, .ref (aX 0)), (2, .int x2)] [] := by
  unfold fX5_putRow_64 at h
  refine z_aload_n X dX5_putRow_64 0 rfl ?_
  refine z_iload_n X dX5_putRow_65 2 rfl ?_
  refine z_aload_n X dX5_putRow_66 1 rfl ?_
  refine z_getN (v := .int (zgi sX 9)) X 1 0 9 9 ziX8 rfl (by decide) zw122 rfl dX5_putRow_67 rfl rfl rfl ?_
  obtain ⟨o70, ho70, h⟩ := zbind_of h
  refine z_callVv (st := []) (ws2 := [wX5 (zcT C) aO o70, wX8 (zcT C) aX sX]) X (metX5_putNumber (zcl C) (zcD C) (zcT C) aO ho70) zmX5_putNumber zw979 dX5_putRow_70 0 0 6 rfl rfl rfl rfl [0] rfl rfl [0] rfl (by decide) ⟨zsX5 , trivial⟩ rfl rfl rfl (Nat.le_of_ble_eq_true rfl) rfl rfl ⟨Nat.le_of_ble_eq_true rfl, Nat.le_of_ble_eq_true rfl⟩ ⟨Nat.le_of_ble_eq_true rfl, Nat.le_of_ble_eq_true rfl⟩ ?_
  refine z_aload_n X dX5_putRow_73 0 rfl ?_
  refine z_get (v := .ref (aO 3)) X 0 0 6 2 ziX5 rfl (by decide) zw51 rfl dX5_putRow_74 rfl rfl rfl ?_
  refine z_iload_n X dX5_putRow_77 2 rfl ?_
  refine z_aload_n X dX5_putRow_78 1 rfl ?_
  obtain ⟨o79, ho79, h⟩ := zbind_of h
  refine z_callSv (st := []) (ws2 := [wX5 (zcT C) aO o79, wX8 (zcT C) aX sX]) X (metX5_putCoefficients (zcl C) (zcD C) (zcT C) aO aX ho79) zmX5_putCoefficients zw968 dX5_putRow_79 [0, 1] rfl rfl [0] rfl (by decide) ⟨zsX5 , trivial⟩ rfl rfl rfl (Nat.le_of_ble_eq_true rfl) rfl rfl ⟨Nat.le_of_ble_eq_true rfl, Nat.le_of_ble_eq_true rfl⟩ ⟨Nat.le_of_ble_eq_true rfl, Nat.le_of_ble_eq_true rfl⟩ ?_
  refine z_iload_n X dX5_putRow_82 2 rfl ?_
  cases h
  exact z_iret X hQ dX5_putRow_83 rfl [0] rfl (by decide) (by decide)
theorem bX5_putRow_0 {C : zCtx} (X : zFx C cX5_putRow 3 RX5 rmX5_putRow (some .int)) {aO : Nat → Nat} {aX : Nat → Nat} {sO : zSt} {sX : zSt} {out : Int32 × zSt} (hQ : zHi C out.1 [wX5 (zcT C) aO out.2] 0 0) (h : fX5_putRow sO sX = some out) : zG C 3 [0] 0 0 [wX5 (zcT C) aO sO, wX8 (zcT C) aX sX] 0 [(0, .ref (aO 0)), (1, .ref (aX 0))] [] := by
  unfold fX5_putRow at h
  refine z_aload_n X dX5_putRow_0 0 rfl ?_
  refine z_get (v := .int (zgi sO 9)) X 0 0 6 9 ziX5 rfl (by decide) zw65 rfl dX5_putRow_1 rfl rfl rfl ?_
  obtain ⟨v4, ev4, h⟩ := zlet_of h
  refine z_topi ev4 ?_
  refine z_istore_n (lv2 := [(2, .int v4), (0, .ref (aO 0)), (1, .ref (aX 0))]) X dX5_putRow_4 rfl (by decide) rfl ?_
  refine z_iload_n X dX5_putRow_5 0 rfl ?_
  refine z_if_lt (tgt := 64) X dX5_putRow_6 (by decide) (fun c6 => ?_) (fun c6 => ?_)
  · replace h := zif_t h c6
    exact z_at (pc2 := 64) (lv2 := [(0, .ref (aO 0)), (1, .ref (aX 0)), (2, .int v4)]) (st2 := []) (ws2 := [wX5 (zcT C) aO sO, wX8 (zcT C) aX sX]) rfl rfl rfl [1, 2, 0] rfl (bX5_putRow_64 X hQ  h)
  · replace h := zif_f h c6
    refine z_iload_n X dX5_putRow_9 0 rfl ?_
    refine z_aload_n X dX5_putRow_10 1 rfl ?_
    refine z_get (v := .ref (aO 4)) X 0 0 6 3 ziX5 rfl (by decide) zw52 rfl dX5_putRow_11 rfl rfl rfl ?_
    refine z_alen (v := (12 : Int32)) X 0 4 0 rfl rfl dX5_putRow_14 rfl rfl ?_
    refine z_icmp_ge (tgt := 64) X dX5_putRow_15 (by decide) (fun c15 => ?_) (fun c15 => ?_)
    · replace h := zif_t h c15
      exact z_at (pc2 := 64) (lv2 := [(0, .ref (aO 0)), (1, .ref (aX 0)), (2, .int v4)]) (st2 := []) (ws2 := [wX5 (zcT C) aO sO, wX8 (zcT C) aX sX]) rfl rfl rfl [1, 2, 0] rfl (bX5_putRow_64 X hQ  h)
    · replace h := zif_f h c15
      refine z_iload_n X dX5_putRow_18 0 rfl ?_
      refine z_aload_n X dX5_putRow_19 1 rfl ?_
      refine z_get (v := .ref (aO 6)) X 0 0 6 5 ziX5 rfl (by decide) zw54 rfl dX5_putRow_20 rfl rfl rfl ?_
      refine z_alen (v := (12 : Int32)) X 0 6 3 rfl rfl dX5_putRow_23 rfl rfl ?_
      refine z_icmp_ge (tgt := 64) X dX5_putRow_24 (by decide) (fun c24 => ?_) (fun c24 => ?_)
      · replace h := zif_t h c24
        exact z_at (pc2 := 64) (lv2 := [(0, .ref (aO 0)), (1, .ref (aX 0)), (2, .int v4)]) (st2 := []) (ws2 := [wX5 (zcT C) aO sO, wX8 (zcT C) aX sX]) rfl rfl rfl [1, 2, 0] rfl (bX5_putRow_64 X hQ  h)
      · replace h := zif_f h c24
        refine z_aload_n X dX5_putRow_27 1 rfl ?_
        refine z_get (v := .ref (aO 4)) X 0 0 6 3 ziX5 rfl (by decide) zw52 rfl dX5_putRow_28 rfl rfl rfl ?_
        refine z_iload_n X dX5_putRow_31 0 rfl ?_
        refine z_aload_n X dX5_putRow_32 2 rfl ?_
        refine z_getN (v := .int (zgi sX 8)) X 1 0 9 8 ziX8 rfl (by decide) zw120 rfl dX5_putRow_33 rfl rfl rfl ?_
        obtain ⟨g36, h⟩ := zgd_of h
        obtain ⟨sO36, esO36, h⟩ := zlet_of h
        refine z_cast (ws2 := [wX5 (zcT C) aO sO36, wX8 (zcT C) aX sX]) X 0 4 g36 dX5_putRow_36 rfl rfl (by decide) (w2 := wX5 (zcT C) aO sO36) (by rw [esO36]; rfl) rfl ?_
        refine z_aload_n X dX5_putRow_37 1 rfl ?_
        refine z_get (v := .ref (aO 6)) X 0 0 6 5 ziX5 rfl (by decide) zw54 rfl dX5_putRow_38 rfl rfl rfl ?_
        refine z_iload_n X dX5_putRow_41 0 rfl ?_
        refine z_iconst (v := (1 : Int32)) X dX5_putRow_42 rfl ?_
        obtain ⟨g43, h⟩ := zgd_of h
        obtain ⟨sO43, esO43, h⟩ := zlet_of h
        refine z_zast (ws2 := [wX5 (zcT C) aO sO43, wX8 (zcT C) aX sX]) X 0 6 g43 dX5_putRow_43 rfl rfl (by decide) (w2 := wX5 (zcT C) aO sO43) (by rw [esO43]; rfl) rfl ?_
        refine z_aload_n X dX5_putRow_44 1 rfl ?_
        refine z_dup X dX5_putRow_45 rfl ?_
        refine z_get (v := .int (zgi sO43 9)) X 0 0 6 9 ziX5 rfl (by decide) zw65 rfl dX5_putRow_46 rfl rfl rfl ?_
        refine z_iconst (v := (1 : Int32)) X dX5_putRow_49 rfl ?_
        refine z_iadd X dX5_putRow_50 ?_
        obtain ⟨sO51, esO51, h⟩ := zlet_of h
        refine z_put (ws2 := [wX5 (zcT C) aO sO51, wX8 (zcT C) aX sX]) X 0 0 6 9 ziX5 rfl tyX5 tyX5_ok nmX5 (by decide) zw65 rfl rfl (ty := .int) (by decide +kernel) rfl rfl (by show 9 < 12; decide) dX5_putRow_51 rfl rfl (by decide) (w2 := wX5 (zcT C) aO sO51) (by rw [esO51]; rfl) rfl ?_
        refine z_aload_n X dX5_putRow_54 1 rfl ?_
        refine z_dup X dX5_putRow_55 rfl ?_
        refine z_get (v := .int (zgi sO51 10)) X 0 0 6 10 ziX5 rfl (by decide) zw67 rfl dX5_putRow_56 rfl rfl rfl ?_
        refine z_iconst (v := (1 : Int32)) X dX5_putRow_59 rfl ?_
        refine z_iadd X dX5_putRow_60 ?_
        obtain ⟨sO61, esO61, h⟩ := zlet_of h
        refine z_put (ws2 := [wX5 (zcT C) aO sO61, wX8 (zcT C) aX sX]) X 0 0 6 10 ziX5 rfl tyX5 tyX5_ok nmX5 (by decide) zw67 rfl rfl (ty := .int) (by decide +kernel) rfl rfl (by show 10 < 12; decide) dX5_putRow_61 rfl rfl (by decide) (w2 := wX5 (zcT C) aO sO61) (by rw [esO61]; rfl) rfl ?_
        exact z_at (pc2 := 64) (lv2 := [(0, .ref (aO 0)), (1, .ref (aX 0)), (2, .int v4)]) (st2 := []) (ws2 := [wX5 (zcT C) aO sO61, wX8 (zcT C) aX sX]) rfl rfl rfl [1, 2, 0] rfl (bX5_putRow_64 X hQ  h)
theorem metX5_putRow (l : Launch) (D : va_G) (T : Nat → ClassId) (aO : Nat → Nat) (aX : Nat → Nat) {sO : zSt} {sX : zSt} {out : Int32 × zSt} (hf : fX5_putRow sO sX = some out) (sz : Nat) : Met l yX5_putRow (zws yX5_putRow cX5_putRow 3 (some .int)) rmX5_putRow (zPc D T [.ref (aO 0), .ref (aX 0)] [wX5 T aO sO, wX8 T aX sX] sz) (zQi D out.1 [wX5 T aO out.2] (zA [wX5 T aO sO] sz)) 0 0 (zA [wX5 T aO sO] sz) :=
  zMet (D := D) (T := T) (av := [.ref (aO 0), .ref (aX 0)]) (ws := fun T => [wX5 T aO sO, wX8 T aX sX]) (wm := fun T => [wX5 T aO sO]) (lv0 := [(0, .ref (aO 0)), (1, .ref (aX 0))]) [0] (Qc := fun D T A => zQi D out.1 [wX5 T aO out.2] A) (by decide +kernel) rfl (Nat.le_of_ble_eq_true rfl) rfl (fun C X hQ => bX5_putRow_0 X hQ hf) sz
/-- int putAim(Tableaufloor$Text); of Tableaufloor$Program -/
abbrev rmX5_putAim : Room := { frames := 2, cells := 0, slots := 0, locals := 45 }
def fX5_putAim_38 (sX : zSt) (sO : zSt) (x2 : Int32) : Option (Int32 × zSt) :=
  ((fX5_putCoefficients_b sO sX x2).bind (fun o44 =>
    some (x2, o44)))
def fX5_putAim (sO : zSt) (sX : zSt) : Option (Int32 × zSt) :=
  (zlet (zgi sO 11) (fun v4 =>
    (if v4 < 0 then
    (fX5_putAim_38 sX sO v4)
  else
    (if (3 : Int32) ≤ v4 then
      (fX5_putAim_38 sX sO v4)
    else
      (if zin v4 3 = true then
        (zlet (zsa sO 7 (upd (zga sO 7) (v4).toNatClampNeg (zgi sX 7))) (fun sO27 =>
        (zlet (zsi sO27 11 ((zgi sO27 11) + (1 : Int32))) (fun sO35 =>
        (fX5_putAim_38 sX sO35 v4))))) else none)))))
theorem bX5_putAim_38 {C : zCtx} (X : zFx C cX5_putAim 3 RX5 rmX5_putAim (some .int)) {aO : Nat → Nat} {aX : Nat → Nat} {sX : zSt} {sO : zSt} {x2 : Int32} {out : Int32 × zSt} (hQ : zHi C out.1 [wX5 (zcT C) aO out.2] 0 0) (h : fX5_putAim_38 sX sO x2 = some out) : zG C 3 [0] 0 0 [wX5 (zcT C) aO sO, wX8 (zcT C) aX sX] 38 [(0, .ref (aO 0)), (1, .ref (aX 0)), (2, .int x2)] [] := by
  unfold fX5_putAim_38 at h
  refine z_aload_n X dX5_putAim_38 0 rfl ?_
  refine z_get (v := .ref (aO 7)) X 0 0 6 6 ziX5 rfl (by decide) zw55 rfl dX5_putAim_39 rfl rfl rfl ?_
  refine z_iload_n X dX5_putAim_42 2 rfl ?_
  refine z_aload_n X dX5_putAim_43 1 rfl ?_
  obtain ⟨o44, ho44, h⟩ := zbind_of h
  refine z_callSv (st := []) (ws2 := [wX5 (zcT C) aO o44, wX8 (zcT C) aX sX]) X (metX5_putCoefficients_b (zcl C) (zcD C) (zcT C) aO aX ho44) zmX5_putCoefficients zw968 dX5_putAim_44 [0, 1] rfl rfl [0] rfl (by decide) ⟨zsX5 , trivial⟩ rfl rfl rfl (Nat.le_of_ble_eq_true rfl) rfl rfl ⟨Nat.le_of_ble_eq_true rfl, Nat.le_of_ble_eq_true rfl⟩ ⟨Nat.le_of_ble_eq_true rfl, Nat.le_of_ble_eq_true rfl⟩ ?_
  refine z_iload_n X dX5_putAim_47 2 rfl ?_
  cases h
  exact z_iret X hQ dX5_putAim_48 rfl [0] rfl (by decide) (by decide)
theorem bX5_putAim_0 {C : zCtx} (X : zFx C cX5_putAim 3 RX5 rmX5_putAim (some .int)) {aO : Nat → Nat} {aX : Nat → Nat} {sO : zSt} {sX : zSt} {out : Int32 × zSt} (hQ : zHi C out.1 [wX5 (zcT C) aO out.2] 0 0) (h : fX5_putAim sO sX = some out) : zG C 3 [0] 0 0 [wX5 (zcT C) aO sO, wX8 (zcT C) aX sX] 0 [(0, .ref (aO 0)), (1, .ref (aX 0))] [] := by
  unfold fX5_putAim at h
  refine z_aload_n X dX5_putAim_0 0 rfl ?_
  refine z_get (v := .int (zgi sO 11)) X 0 0 6 11 ziX5 rfl (by decide) zw71 rfl dX5_putAim_1 rfl rfl rfl ?_
  obtain ⟨v4, ev4, h⟩ := zlet_of h
  refine z_topi ev4 ?_
  refine z_istore_n (lv2 := [(2, .int v4), (0, .ref (aO 0)), (1, .ref (aX 0))]) X dX5_putAim_4 rfl (by decide) rfl ?_
  refine z_iload_n X dX5_putAim_5 0 rfl ?_
  refine z_if_lt (tgt := 38) X dX5_putAim_6 (by decide) (fun c6 => ?_) (fun c6 => ?_)
  · replace h := zif_t h c6
    exact z_at (pc2 := 38) (lv2 := [(0, .ref (aO 0)), (1, .ref (aX 0)), (2, .int v4)]) (st2 := []) (ws2 := [wX5 (zcT C) aO sO, wX8 (zcT C) aX sX]) rfl rfl rfl [1, 2, 0] rfl (bX5_putAim_38 X hQ  h)
  · replace h := zif_f h c6
    refine z_iload_n X dX5_putAim_9 0 rfl ?_
    refine z_aload_n X dX5_putAim_10 1 rfl ?_
    refine z_get (v := .ref (aO 8)) X 0 0 6 7 ziX5 rfl (by decide) zw56 rfl dX5_putAim_11 rfl rfl rfl ?_
    refine z_alen (v := (3 : Int32)) X 0 8 1 rfl rfl dX5_putAim_14 rfl rfl ?_
    refine z_icmp_ge (tgt := 38) X dX5_putAim_15 (by decide) (fun c15 => ?_) (fun c15 => ?_)
    · replace h := zif_t h c15
      exact z_at (pc2 := 38) (lv2 := [(0, .ref (aO 0)), (1, .ref (aX 0)), (2, .int v4)]) (st2 := []) (ws2 := [wX5 (zcT C) aO sO, wX8 (zcT C) aX sX]) rfl rfl rfl [1, 2, 0] rfl (bX5_putAim_38 X hQ  h)
    · replace h := zif_f h c15
      refine z_aload_n X dX5_putAim_18 1 rfl ?_
      refine z_get (v := .ref (aO 8)) X 0 0 6 7 ziX5 rfl (by decide) zw56 rfl dX5_putAim_19 rfl rfl rfl ?_
      refine z_iload_n X dX5_putAim_22 0 rfl ?_
      refine z_aload_n X dX5_putAim_23 2 rfl ?_
      refine z_getN (v := .int (zgi sX 7)) X 1 0 9 7 ziX8 rfl (by decide) zw118 rfl dX5_putAim_24 rfl rfl rfl ?_
      obtain ⟨g27, h⟩ := zgd_of h
      obtain ⟨sO27, esO27, h⟩ := zlet_of h
      refine z_iast (ws2 := [wX5 (zcT C) aO sO27, wX8 (zcT C) aX sX]) X 0 8 g27 dX5_putAim_27 rfl rfl (by decide) (w2 := wX5 (zcT C) aO sO27) (by rw [esO27]; rfl) rfl ?_
      refine z_aload_n X dX5_putAim_28 1 rfl ?_
      refine z_dup X dX5_putAim_29 rfl ?_
      refine z_get (v := .int (zgi sO27 11)) X 0 0 6 11 ziX5 rfl (by decide) zw71 rfl dX5_putAim_30 rfl rfl rfl ?_
      refine z_iconst (v := (1 : Int32)) X dX5_putAim_33 rfl ?_
      refine z_iadd X dX5_putAim_34 ?_
      obtain ⟨sO35, esO35, h⟩ := zlet_of h
      refine z_put (ws2 := [wX5 (zcT C) aO sO35, wX8 (zcT C) aX sX]) X 0 0 6 11 ziX5 rfl tyX5 tyX5_ok nmX5 (by decide) zw71 rfl rfl (ty := .int) (by decide +kernel) rfl rfl (by show 11 < 12; decide) dX5_putAim_35 rfl rfl (by decide) (w2 := wX5 (zcT C) aO sO35) (by rw [esO35]; rfl) rfl ?_
      exact z_at (pc2 := 38) (lv2 := [(0, .ref (aO 0)), (1, .ref (aX 0)), (2, .int v4)]) (st2 := []) (ws2 := [wX5 (zcT C) aO sO35, wX8 (zcT C) aX sX]) rfl rfl rfl [1, 2, 0] rfl (bX5_putAim_38 X hQ  h)
theorem metX5_putAim (l : Launch) (D : va_G) (T : Nat → ClassId) (aO : Nat → Nat) (aX : Nat → Nat) {sO : zSt} {sX : zSt} {out : Int32 × zSt} (hf : fX5_putAim sO sX = some out) (sz : Nat) : Met l yX5_putAim (zws yX5_putAim cX5_putAim 3 (some .int)) rmX5_putAim (zPc D T [.ref (aO 0), .ref (aX 0)] [wX5 T aO sO, wX8 T aX sX] sz) (zQi D out.1 [wX5 T aO out.2] (zA [wX5 T aO sO] sz)) 0 0 (zA [wX5 T aO sO] sz) :=
  zMet (D := D) (T := T) (av := [.ref (aO 0), .ref (aX 0)]) (ws := fun T => [wX5 T aO sO, wX8 T aX sX]) (wm := fun T => [wX5 T aO sO]) (lv0 := [(0, .ref (aO 0)), (1, .ref (aX 0))]) [0] (Qc := fun D T A => zQi D out.1 [wX5 T aO out.2] A) (by decide +kernel) rfl (Nat.le_of_ble_eq_true rfl) rfl (fun C X hQ => bX5_putAim_0 X hQ hf) sz
/-- int removeRow(int); of Tableaufloor$Program -/
abbrev rmX5_removeRow : Room := { frames := 0, cells := 0, slots := 0, locals := 0 }
def fX5_removeRow_39 (sO : zSt) : Option (Int32 × zSt) :=
  some ((zgi sO 10), sO)
def fX5_removeRow (sO : zSt) (x1 : Int32) : Option (Int32 × zSt) :=
  (if x1 < 0 then
    (fX5_removeRow_39 sO)
  else
    (if (12 : Int32) ≤ x1 then
      (fX5_removeRow_39 sO)
    else
      (if zin x1 12 = true then
        (if (zga sO 5 (x1).toNatClampNeg) = 0 then
        (fX5_removeRow_39 sO)
      else
        (if zin x1 12 = true then
          (zlet (zsa sO 5 (upd (zga sO 5) (x1).toNatClampNeg (vp_nar .boolean (0 : Int32)))) (fun sO28 =>
          (zlet (zsi sO28 10 ((zgi sO28 10) - (1 : Int32))) (fun sO36 =>
          (fX5_removeRow_39 sO36))))) else none)) else none)))
theorem bX5_removeRow_39 {C : zCtx} (X : zFx C cX5_removeRow 2 RX5 rmX5_removeRow (some .int)) {aO : Nat → Nat} {sO : zSt} {out : Int32 × zSt} (hQ : zHi C out.1 [wX5 (zcT C) aO out.2] 0 0) (h : fX5_removeRow_39 sO = some out) : zG C 2 [0] 0 0 [wX5 (zcT C) aO sO] 39 [(0, .ref (aO 0))] [] := by
  unfold fX5_removeRow_39 at h
  refine z_aload_n X dX5_removeRow_39 0 rfl ?_
  refine z_get (v := .int (zgi sO 10)) X 0 0 6 10 ziX5 rfl (by decide) zw67 rfl dX5_removeRow_40 rfl rfl rfl ?_
  cases h
  exact z_iret X hQ dX5_removeRow_43 rfl [0] rfl (by decide) (by decide)
theorem bX5_removeRow_0 {C : zCtx} (X : zFx C cX5_removeRow 2 RX5 rmX5_removeRow (some .int)) {aO : Nat → Nat} {sO : zSt} {x1 : Int32} {out : Int32 × zSt} (hQ : zHi C out.1 [wX5 (zcT C) aO out.2] 0 0) (h : fX5_removeRow sO x1 = some out) : zG C 2 [0] 0 0 [wX5 (zcT C) aO sO] 0 [(0, .ref (aO 0)), (1, .int x1)] [] := by
  unfold fX5_removeRow at h
  refine z_iload_n X dX5_removeRow_0 1 rfl ?_
  refine z_if_lt (tgt := 39) X dX5_removeRow_1 (by decide) (fun c1 => ?_) (fun c1 => ?_)
  · replace h := zif_t h c1
    exact z_at (pc2 := 39) (lv2 := [(0, .ref (aO 0))]) (st2 := []) (ws2 := [wX5 (zcT C) aO sO]) rfl rfl rfl [0] rfl (bX5_removeRow_39 X hQ  h)
  · replace h := zif_f h c1
    refine z_iload_n X dX5_removeRow_4 1 rfl ?_
    refine z_aload_n X dX5_removeRow_5 0 rfl ?_
    refine z_get (v := .ref (aO 6)) X 0 0 6 5 ziX5 rfl (by decide) zw54 rfl dX5_removeRow_6 rfl rfl rfl ?_
    refine z_alen (v := (12 : Int32)) X 0 6 3 rfl rfl dX5_removeRow_9 rfl rfl ?_
    refine z_icmp_ge (tgt := 39) X dX5_removeRow_10 (by decide) (fun c10 => ?_) (fun c10 => ?_)
    · replace h := zif_t h c10
      exact z_at (pc2 := 39) (lv2 := [(0, .ref (aO 0))]) (st2 := []) (ws2 := [wX5 (zcT C) aO sO]) rfl rfl rfl [0] rfl (bX5_removeRow_39 X hQ  h)
    · replace h := zif_f h c10
      refine z_aload_n X dX5_removeRow_13 0 rfl ?_
      refine z_get (v := .ref (aO 6)) X 0 0 6 5 ziX5 rfl (by decide) zw54 rfl dX5_removeRow_14 rfl rfl rfl ?_
      refine z_iload_n X dX5_removeRow_17 1 rfl ?_
      obtain ⟨g18, h⟩ := zgd_of h
      refine z_zald X 0 6 g18 dX5_removeRow_18 rfl rfl ?_
      refine z_if_eq (tgt := 39) X dX5_removeRow_19 (by decide) (fun c19 => ?_) (fun c19 => ?_)
      · replace h := zif_t h c19
        exact z_at (pc2 := 39) (lv2 := [(0, .ref (aO 0))]) (st2 := []) (ws2 := [wX5 (zcT C) aO sO]) rfl rfl rfl [0] rfl (bX5_removeRow_39 X hQ  h)
      · replace h := zif_f h c19
        refine z_aload_n X dX5_removeRow_22 0 rfl ?_
        refine z_get (v := .ref (aO 6)) X 0 0 6 5 ziX5 rfl (by decide) zw54 rfl dX5_removeRow_23 rfl rfl rfl ?_
        refine z_iload_n X dX5_removeRow_26 1 rfl ?_
        refine z_iconst (v := (0 : Int32)) X dX5_removeRow_27 rfl ?_
        obtain ⟨g28, h⟩ := zgd_of h
        obtain ⟨sO28, esO28, h⟩ := zlet_of h
        refine z_zast (ws2 := [wX5 (zcT C) aO sO28]) X 0 6 g28 dX5_removeRow_28 rfl rfl (by decide) (w2 := wX5 (zcT C) aO sO28) (by rw [esO28]; rfl) rfl ?_
        refine z_aload_n X dX5_removeRow_29 0 rfl ?_
        refine z_dup X dX5_removeRow_30 rfl ?_
        refine z_get (v := .int (zgi sO28 10)) X 0 0 6 10 ziX5 rfl (by decide) zw67 rfl dX5_removeRow_31 rfl rfl rfl ?_
        refine z_iconst (v := (1 : Int32)) X dX5_removeRow_34 rfl ?_
        refine z_isub X dX5_removeRow_35 ?_
        obtain ⟨sO36, esO36, h⟩ := zlet_of h
        refine z_put (ws2 := [wX5 (zcT C) aO sO36]) X 0 0 6 10 ziX5 rfl tyX5 tyX5_ok nmX5 (by decide) zw67 rfl rfl (ty := .int) (by decide +kernel) rfl rfl (by show 10 < 12; decide) dX5_removeRow_36 rfl rfl (by decide) (w2 := wX5 (zcT C) aO sO36) (by rw [esO36]; rfl) rfl ?_
        exact z_at (pc2 := 39) (lv2 := [(0, .ref (aO 0))]) (st2 := []) (ws2 := [wX5 (zcT C) aO sO36]) rfl rfl rfl [0] rfl (bX5_removeRow_39 X hQ  h)
theorem metX5_removeRow (l : Launch) (D : va_G) (T : Nat → ClassId) (aO : Nat → Nat) {sO : zSt} {x1 : Int32} {out : Int32 × zSt} (hf : fX5_removeRow sO x1 = some out) (sz : Nat) : Met l yX5_removeRow (zws yX5_removeRow cX5_removeRow 2 (some .int)) rmX5_removeRow (zPc D T [.ref (aO 0), .int x1] [wX5 T aO sO] sz) (zQi D out.1 [wX5 T aO out.2] (zA [wX5 T aO sO] sz)) 0 0 (zA [wX5 T aO sO] sz) :=
  zMet (D := D) (T := T) (av := [.ref (aO 0), .int x1]) (ws := fun T => [wX5 T aO sO]) (wm := fun T => [wX5 T aO sO]) (lv0 := [(0, .ref (aO 0)), (1, .int x1)]) [0] (Qc := fun D T A => zQi D out.1 [wX5 T aO out.2] A) (by decide +kernel) rfl (Nat.le_of_ble_eq_true rfl) rfl (fun C X hQ => bX5_removeRow_0 X hQ hf) sz
/-- boolean isLive(int); of Tableaufloor$Program -/
abbrev rmX5_isLive : Room := { frames := 0, cells := 0, slots := 0, locals := 0 }
def fX5_isLive_27 (sO : zSt) (y0 : Int32) : Option (Int32) :=
  (if znar .boolean y0 = true then
    some (y0) else none)
def fX5_isLive_26 (sO : zSt) : Option (Int32) :=
  (fX5_isLive_27 sO (0 : Int32))
def fX5_isLive (sO : zSt) (x1 : Int32) : Option (Int32) :=
  (if x1 < 0 then
    (fX5_isLive_26 sO)
  else
    (if (12 : Int32) ≤ x1 then
      (fX5_isLive_26 sO)
    else
      (if zin x1 12 = true then
        (if (zga sO 5 (x1).toNatClampNeg) = 0 then
        (fX5_isLive_26 sO)
      else
        (fX5_isLive_27 sO (1 : Int32))) else none)))
theorem bX5_isLive_27 {C : zCtx} (X : zFx C cX5_isLive 2 RX5 rmX5_isLive (some .boolean)) {aO : Nat → Nat} {sO : zSt} {y0 : Int32} {out : Int32} (hQ : zHi C out [] 0 0) (h : fX5_isLive_27 sO y0 = some out) : zG C 2 [] 0 0 [wX5 (zcT C) aO sO] 27 [] [.int y0] := by
  unfold fX5_isLive_27 at h
  obtain ⟨g27, h⟩ := zgd_of h
  cases h
  exact z_nret X hQ g27 dX5_isLive_27 rfl [] rfl (by decide) (by decide)
theorem bX5_isLive_26 {C : zCtx} (X : zFx C cX5_isLive 2 RX5 rmX5_isLive (some .boolean)) {aO : Nat → Nat} {sO : zSt} {out : Int32} (hQ : zHi C out [] 0 0) (h : fX5_isLive_26 sO = some out) : zG C 2 [] 0 0 [wX5 (zcT C) aO sO] 26 [] [] := by
  unfold fX5_isLive_26 at h
  refine z_iconst (v := (0 : Int32)) X dX5_isLive_26 rfl ?_
  exact z_at (pc2 := 27) (lv2 := []) (st2 := [.int (0 : Int32)]) (ws2 := [wX5 (zcT C) aO sO]) rfl rfl rfl [] rfl (bX5_isLive_27 X hQ  h)
theorem bX5_isLive_0 {C : zCtx} (X : zFx C cX5_isLive 2 RX5 rmX5_isLive (some .boolean)) {aO : Nat → Nat} {sO : zSt} {x1 : Int32} {out : Int32} (hQ : zHi C out [] 0 0) (h : fX5_isLive sO x1 = some out) : zG C 2 [] 0 0 [wX5 (zcT C) aO sO] 0 [(0, .ref (aO 0)), (1, .int x1)] [] := by
  unfold fX5_isLive at h
  refine z_iload_n X dX5_isLive_0 1 rfl ?_
  refine z_if_lt (tgt := 26) X dX5_isLive_1 (by decide) (fun c1 => ?_) (fun c1 => ?_)
  · replace h := zif_t h c1
    exact z_at (pc2 := 26) (lv2 := []) (st2 := []) (ws2 := [wX5 (zcT C) aO sO]) rfl rfl rfl [] rfl (bX5_isLive_26 X hQ  h)
  · replace h := zif_f h c1
    refine z_iload_n X dX5_isLive_4 1 rfl ?_
    refine z_aload_n X dX5_isLive_5 0 rfl ?_
    refine z_get (v := .ref (aO 6)) X 0 0 6 5 ziX5 rfl (by decide) zw54 rfl dX5_isLive_6 rfl rfl rfl ?_
    refine z_alen (v := (12 : Int32)) X 0 6 3 rfl rfl dX5_isLive_9 rfl rfl ?_
    refine z_icmp_ge (tgt := 26) X dX5_isLive_10 (by decide) (fun c10 => ?_) (fun c10 => ?_)
    · replace h := zif_t h c10
      exact z_at (pc2 := 26) (lv2 := []) (st2 := []) (ws2 := [wX5 (zcT C) aO sO]) rfl rfl rfl [] rfl (bX5_isLive_26 X hQ  h)
    · replace h := zif_f h c10
      refine z_aload_n X dX5_isLive_13 0 rfl ?_
      refine z_get (v := .ref (aO 6)) X 0 0 6 5 ziX5 rfl (by decide) zw54 rfl dX5_isLive_14 rfl rfl rfl ?_
      refine z_iload_n X dX5_isLive_17 1 rfl ?_
      obtain ⟨g18, h⟩ := zgd_of h
      refine z_zald X 0 6 g18 dX5_isLive_18 rfl rfl ?_
      refine z_if_eq (tgt := 26) X dX5_isLive_19 (by decide) (fun c19 => ?_) (fun c19 => ?_)
      · replace h := zif_t h c19
        exact z_at (pc2 := 26) (lv2 := []) (st2 := []) (ws2 := [wX5 (zcT C) aO sO]) rfl rfl rfl [] rfl (bX5_isLive_26 X hQ  h)
      · replace h := zif_f h c19
        refine z_iconst (v := (1 : Int32)) X dX5_isLive_22 rfl ?_
        refine z_goto (tgt := 27) X dX5_isLive_23 (by decide) ?_
        exact z_at (pc2 := 27) (lv2 := []) (st2 := [.int (1 : Int32)]) (ws2 := [wX5 (zcT C) aO sO]) rfl rfl rfl [] rfl (bX5_isLive_27 X hQ  h)
theorem metX5_isLive (l : Launch) (D : va_G) (T : Nat → ClassId) (aO : Nat → Nat) {sO : zSt} {x1 : Int32} {out : Int32} (hf : fX5_isLive sO x1 = some out) (sz : Nat) : Met l yX5_isLive (zws yX5_isLive cX5_isLive 2 (some .boolean)) rmX5_isLive (zPc D T [.ref (aO 0), .int x1] [wX5 T aO sO] sz) (zQi D out [] (zA [] sz)) 0 0 (zA [] sz) :=
  zMet (D := D) (T := T) (av := [.ref (aO 0), .int x1]) (ws := fun T => [wX5 T aO sO]) (wm := fun T => []) (lv0 := [(0, .ref (aO 0)), (1, .int x1)]) [] (Qc := fun D T A => zQi D out [] A) (by decide +kernel) rfl (Nat.le_of_ble_eq_true rfl) rfl (fun C X hQ => bX5_isLive_0 X hQ hf) sz
/-- char relationOf(int); of Tableaufloor$Program -/
abbrev rmX5_relationOf : Room := { frames := 0, cells := 0, slots := 0, locals := 0 }
def fX5_relationOf_24 (sO : zSt) (y0 : Int32) : Option (Int32) :=
  (if znar .char y0 = true then
    some (y0) else none)
def fX5_relationOf_22 (sO : zSt) : Option (Int32) :=
  (fX5_relationOf_24 sO (61 : Int32))
def fX5_relationOf (sO : zSt) (x1 : Int32) : Option (Int32) :=
  (if x1 < 0 then
    (fX5_relationOf_22 sO)
  else
    (if (12 : Int32) ≤ x1 then
      (fX5_relationOf_22 sO)
    else
      (if zin x1 12 = true then
        (fX5_relationOf_24 sO (zga sO 3 (x1).toNatClampNeg)) else none)))
theorem bX5_relationOf_24 {C : zCtx} (X : zFx C cX5_relationOf 2 RX5 rmX5_relationOf (some .char)) {aO : Nat → Nat} {sO : zSt} {y0 : Int32} {out : Int32} (hQ : zHi C out [] 0 0) (h : fX5_relationOf_24 sO y0 = some out) : zG C 2 [] 0 0 [wX5 (zcT C) aO sO] 24 [] [.int y0] := by
  unfold fX5_relationOf_24 at h
  obtain ⟨g24, h⟩ := zgd_of h
  cases h
  exact z_nret X hQ g24 dX5_relationOf_24 rfl [] rfl (by decide) (by decide)
theorem bX5_relationOf_22 {C : zCtx} (X : zFx C cX5_relationOf 2 RX5 rmX5_relationOf (some .char)) {aO : Nat → Nat} {sO : zSt} {out : Int32} (hQ : zHi C out [] 0 0) (h : fX5_relationOf_22 sO = some out) : zG C 2 [] 0 0 [wX5 (zcT C) aO sO] 22 [] [] := by
  unfold fX5_relationOf_22 at h
  refine z_bipush (v := (61 : Int32)) X dX5_relationOf_22 rfl ?_
  exact z_at (pc2 := 24) (lv2 := []) (st2 := [.int (61 : Int32)]) (ws2 := [wX5 (zcT C) aO sO]) rfl rfl rfl [] rfl (bX5_relationOf_24 X hQ  h)
theorem bX5_relationOf_0 {C : zCtx} (X : zFx C cX5_relationOf 2 RX5 rmX5_relationOf (some .char)) {aO : Nat → Nat} {sO : zSt} {x1 : Int32} {out : Int32} (hQ : zHi C out [] 0 0) (h : fX5_relationOf sO x1 = some out) : zG C 2 [] 0 0 [wX5 (zcT C) aO sO] 0 [(0, .ref (aO 0)), (1, .int x1)] [] := by
  unfold fX5_relationOf at h
  refine z_iload_n X dX5_relationOf_0 1 rfl ?_
  refine z_if_lt (tgt := 22) X dX5_relationOf_1 (by decide) (fun c1 => ?_) (fun c1 => ?_)
  · replace h := zif_t h c1
    exact z_at (pc2 := 22) (lv2 := []) (st2 := []) (ws2 := [wX5 (zcT C) aO sO]) rfl rfl rfl [] rfl (bX5_relationOf_22 X hQ  h)
  · replace h := zif_f h c1
    refine z_iload_n X dX5_relationOf_4 1 rfl ?_
    refine z_aload_n X dX5_relationOf_5 0 rfl ?_
    refine z_get (v := .ref (aO 4)) X 0 0 6 3 ziX5 rfl (by decide) zw52 rfl dX5_relationOf_6 rfl rfl rfl ?_
    refine z_alen (v := (12 : Int32)) X 0 4 0 rfl rfl dX5_relationOf_9 rfl rfl ?_
    refine z_icmp_ge (tgt := 22) X dX5_relationOf_10 (by decide) (fun c10 => ?_) (fun c10 => ?_)
    · replace h := zif_t h c10
      exact z_at (pc2 := 22) (lv2 := []) (st2 := []) (ws2 := [wX5 (zcT C) aO sO]) rfl rfl rfl [] rfl (bX5_relationOf_22 X hQ  h)
    · replace h := zif_f h c10
      refine z_aload_n X dX5_relationOf_13 0 rfl ?_
      refine z_get (v := .ref (aO 4)) X 0 0 6 3 ziX5 rfl (by decide) zw52 rfl dX5_relationOf_14 rfl rfl rfl ?_
      refine z_iload_n X dX5_relationOf_17 1 rfl ?_
      obtain ⟨g18, h⟩ := zgd_of h
      refine z_cald X 0 4 g18 dX5_relationOf_18 rfl rfl ?_
      refine z_goto (tgt := 24) X dX5_relationOf_19 (by decide) ?_
      exact z_at (pc2 := 24) (lv2 := []) (st2 := [.int (zga sO 3 (x1).toNatClampNeg)]) (ws2 := [wX5 (zcT C) aO sO]) rfl rfl rfl [] rfl (bX5_relationOf_24 X hQ  h)
theorem metX5_relationOf (l : Launch) (D : va_G) (T : Nat → ClassId) (aO : Nat → Nat) {sO : zSt} {x1 : Int32} {out : Int32} (hf : fX5_relationOf sO x1 = some out) (sz : Nat) : Met l yX5_relationOf (zws yX5_relationOf cX5_relationOf 2 (some .char)) rmX5_relationOf (zPc D T [.ref (aO 0), .int x1] [wX5 T aO sO] sz) (zQi D out [] (zA [] sz)) 0 0 (zA [] sz) :=
  zMet (D := D) (T := T) (av := [.ref (aO 0), .int x1]) (ws := fun T => [wX5 T aO sO]) (wm := fun T => []) (lv0 := [(0, .ref (aO 0)), (1, .int x1)]) [] (Qc := fun D T A => zQi D out [] A) (by decide +kernel) rfl (Nat.le_of_ble_eq_true rfl) rfl (fun C X hQ => bX5_relationOf_0 X hQ hf) sz
/-- int numberOf(int); of Tableaufloor$Program -/
abbrev rmX5_numberOf : Room := { frames := 0, cells := 0, slots := 0, locals := 0 }
def fX5_numberOf_23 (sO : zSt) (y0 : Int32) : Option (Int32) :=
  some (y0)
def fX5_numberOf_22 (sO : zSt) : Option (Int32) :=
  (fX5_numberOf_23 sO (0 : Int32))
def fX5_numberOf (sO : zSt) (x1 : Int32) : Option (Int32) :=
  (if x1 < 0 then
    (fX5_numberOf_22 sO)
  else
    (if (12 : Int32) ≤ x1 then
      (fX5_numberOf_22 sO)
    else
      (if zin x1 12 = true then
        (fX5_numberOf_23 sO (zga sO 4 (x1).toNatClampNeg)) else none)))
theorem bX5_numberOf_23 {C : zCtx} (X : zFx C cX5_numberOf 2 RX5 rmX5_numberOf (some .int)) {aO : Nat → Nat} {sO : zSt} {y0 : Int32} {out : Int32} (hQ : zHi C out [] 0 0) (h : fX5_numberOf_23 sO y0 = some out) : zG C 2 [] 0 0 [wX5 (zcT C) aO sO] 23 [] [.int y0] := by
  unfold fX5_numberOf_23 at h
  cases h
  exact z_iret X hQ dX5_numberOf_23 rfl [] rfl (by decide) (by decide)
theorem bX5_numberOf_22 {C : zCtx} (X : zFx C cX5_numberOf 2 RX5 rmX5_numberOf (some .int)) {aO : Nat → Nat} {sO : zSt} {out : Int32} (hQ : zHi C out [] 0 0) (h : fX5_numberOf_22 sO = some out) : zG C 2 [] 0 0 [wX5 (zcT C) aO sO] 22 [] [] := by
  unfold fX5_numberOf_22 at h
  refine z_iconst (v := (0 : Int32)) X dX5_numberOf_22 rfl ?_
  exact z_at (pc2 := 23) (lv2 := []) (st2 := [.int (0 : Int32)]) (ws2 := [wX5 (zcT C) aO sO]) rfl rfl rfl [] rfl (bX5_numberOf_23 X hQ  h)
theorem bX5_numberOf_0 {C : zCtx} (X : zFx C cX5_numberOf 2 RX5 rmX5_numberOf (some .int)) {aO : Nat → Nat} {sO : zSt} {x1 : Int32} {out : Int32} (hQ : zHi C out [] 0 0) (h : fX5_numberOf sO x1 = some out) : zG C 2 [] 0 0 [wX5 (zcT C) aO sO] 0 [(0, .ref (aO 0)), (1, .int x1)] [] := by
  unfold fX5_numberOf at h
  refine z_iload_n X dX5_numberOf_0 1 rfl ?_
  refine z_if_lt (tgt := 22) X dX5_numberOf_1 (by decide) (fun c1 => ?_) (fun c1 => ?_)
  · replace h := zif_t h c1
    exact z_at (pc2 := 22) (lv2 := []) (st2 := []) (ws2 := [wX5 (zcT C) aO sO]) rfl rfl rfl [] rfl (bX5_numberOf_22 X hQ  h)
  · replace h := zif_f h c1
    refine z_iload_n X dX5_numberOf_4 1 rfl ?_
    refine z_aload_n X dX5_numberOf_5 0 rfl ?_
    refine z_get (v := .ref (aO 5)) X 0 0 6 4 ziX5 rfl (by decide) zw53 rfl dX5_numberOf_6 rfl rfl rfl ?_
    refine z_alen (v := (12 : Int32)) X 0 5 1 rfl rfl dX5_numberOf_9 rfl rfl ?_
    refine z_icmp_ge (tgt := 22) X dX5_numberOf_10 (by decide) (fun c10 => ?_) (fun c10 => ?_)
    · replace h := zif_t h c10
      exact z_at (pc2 := 22) (lv2 := []) (st2 := []) (ws2 := [wX5 (zcT C) aO sO]) rfl rfl rfl [] rfl (bX5_numberOf_22 X hQ  h)
    · replace h := zif_f h c10
      refine z_aload_n X dX5_numberOf_13 0 rfl ?_
      refine z_get (v := .ref (aO 5)) X 0 0 6 4 ziX5 rfl (by decide) zw53 rfl dX5_numberOf_14 rfl rfl rfl ?_
      refine z_iload_n X dX5_numberOf_17 1 rfl ?_
      obtain ⟨g18, h⟩ := zgd_of h
      refine z_iald X 0 5 g18 dX5_numberOf_18 rfl rfl ?_
      refine z_goto (tgt := 23) X dX5_numberOf_19 (by decide) ?_
      exact z_at (pc2 := 23) (lv2 := []) (st2 := [.int (zga sO 4 (x1).toNatClampNeg)]) (ws2 := [wX5 (zcT C) aO sO]) rfl rfl rfl [] rfl (bX5_numberOf_23 X hQ  h)
theorem metX5_numberOf (l : Launch) (D : va_G) (T : Nat → ClassId) (aO : Nat → Nat) {sO : zSt} {x1 : Int32} {out : Int32} (hf : fX5_numberOf sO x1 = some out) (sz : Nat) : Met l yX5_numberOf (zws yX5_numberOf cX5_numberOf 2 (some .int)) rmX5_numberOf (zPc D T [.ref (aO 0), .int x1] [wX5 T aO sO] sz) (zQi D out [] (zA [] sz)) 0 0 (zA [] sz) :=
  zMet (D := D) (T := T) (av := [.ref (aO 0), .int x1]) (ws := fun T => [wX5 T aO sO]) (wm := fun T => []) (lv0 := [(0, .ref (aO 0)), (1, .int x1)]) [] (Qc := fun D T A => zQi D out [] A) (by decide +kernel) rfl (Nat.le_of_ble_eq_true rfl) rfl (fun C X hQ => bX5_numberOf_0 X hQ hf) sz
/-- int rowCoefficient(int, int); of Tableaufloor$Program -/
abbrev rmX5_rowCoefficient : Room := { frames := 0, cells := 0, slots := 0, locals := 0 }
def fX5_rowCoefficient_29 (sO : zSt) (y0 : Int32) : Option (Int32) :=
  some (y0)
def fX5_rowCoefficient_28 (sO : zSt) : Option (Int32) :=
  (fX5_rowCoefficient_29 sO (0 : Int32))
def fX5_rowCoefficient (sO : zSt) (x1 : Int32) (x2 : Int32) : Option (Int32) :=
  (zlet ((x1 * (3 : Int32)) + x2) (fun v5 =>
    (if v5 < 0 then
    (fX5_rowCoefficient_28 sO)
  else
    (if (36 : Int32) ≤ v5 then
      (fX5_rowCoefficient_28 sO)
    else
      (if zin v5 36 = true then
        (fX5_rowCoefficient_29 sO (zga sO 2 (v5).toNatClampNeg)) else none)))))
theorem bX5_rowCoefficient_29 {C : zCtx} (X : zFx C cX5_rowCoefficient 4 RX5 rmX5_rowCoefficient (some .int)) {aO : Nat → Nat} {sO : zSt} {y0 : Int32} {out : Int32} (hQ : zHi C out [] 0 0) (h : fX5_rowCoefficient_29 sO y0 = some out) : zG C 4 [] 0 0 [wX5 (zcT C) aO sO] 29 [] [.int y0] := by
  unfold fX5_rowCoefficient_29 at h
  cases h
  exact z_iret X hQ dX5_rowCoefficient_29 rfl [] rfl (by decide) (by decide)
theorem bX5_rowCoefficient_28 {C : zCtx} (X : zFx C cX5_rowCoefficient 4 RX5 rmX5_rowCoefficient (some .int)) {aO : Nat → Nat} {sO : zSt} {out : Int32} (hQ : zHi C out [] 0 0) (h : fX5_rowCoefficient_28 sO = some out) : zG C 4 [] 0 0 [wX5 (zcT C) aO sO] 28 [] [] := by
  unfold fX5_rowCoefficient_28 at h
  refine z_iconst (v := (0 : Int32)) X dX5_rowCoefficient_28 rfl ?_
  exact z_at (pc2 := 29) (lv2 := []) (st2 := [.int (0 : Int32)]) (ws2 := [wX5 (zcT C) aO sO]) rfl rfl rfl [] rfl (bX5_rowCoefficient_29 X hQ  h)
theorem bX5_rowCoefficient_0 {C : zCtx} (X : zFx C cX5_rowCoefficient 4 RX5 rmX5_rowCoefficient (some .int)) {aO : Nat → Nat} {sO : zSt} {x1 : Int32} {x2 : Int32} {out : Int32} (hQ : zHi C out [] 0 0) (h : fX5_rowCoefficient sO x1 x2 = some out) : zG C 4 [] 0 0 [wX5 (zcT C) aO sO] 0 [(0, .ref (aO 0)), (1, .int x1), (2, .int x2)] [] := by
  unfold fX5_rowCoefficient at h
  refine z_iload_n X dX5_rowCoefficient_0 1 rfl ?_
  refine z_iconst (v := (3 : Int32)) X dX5_rowCoefficient_1 rfl ?_
  refine z_imul X dX5_rowCoefficient_2 ?_
  refine z_iload_n X dX5_rowCoefficient_3 2 rfl ?_
  refine z_iadd X dX5_rowCoefficient_4 ?_
  obtain ⟨v5, ev5, h⟩ := zlet_of h
  refine z_topi ev5 ?_
  refine z_istore_n (lv2 := [(3, .int v5), (0, .ref (aO 0)), (1, .int x1), (2, .int x2)]) X dX5_rowCoefficient_5 rfl (by decide) rfl ?_
  refine z_iload_n X dX5_rowCoefficient_6 0 rfl ?_
  refine z_if_lt (tgt := 28) X dX5_rowCoefficient_7 (by decide) (fun c7 => ?_) (fun c7 => ?_)
  · replace h := zif_t h c7
    exact z_at (pc2 := 28) (lv2 := []) (st2 := []) (ws2 := [wX5 (zcT C) aO sO]) rfl rfl rfl [] rfl (bX5_rowCoefficient_28 X hQ  h)
  · replace h := zif_f h c7
    refine z_iload_n X dX5_rowCoefficient_10 0 rfl ?_
    refine z_aload_n X dX5_rowCoefficient_11 1 rfl ?_
    refine z_get (v := .ref (aO 3)) X 0 0 6 2 ziX5 rfl (by decide) zw51 rfl dX5_rowCoefficient_12 rfl rfl rfl ?_
    refine z_alen (v := (36 : Int32)) X 0 3 1 rfl rfl dX5_rowCoefficient_15 rfl rfl ?_
    refine z_icmp_ge (tgt := 28) X dX5_rowCoefficient_16 (by decide) (fun c16 => ?_) (fun c16 => ?_)
    · replace h := zif_t h c16
      exact z_at (pc2 := 28) (lv2 := []) (st2 := []) (ws2 := [wX5 (zcT C) aO sO]) rfl rfl rfl [] rfl (bX5_rowCoefficient_28 X hQ  h)
    · replace h := zif_f h c16
      refine z_aload_n X dX5_rowCoefficient_19 1 rfl ?_
      refine z_get (v := .ref (aO 3)) X 0 0 6 2 ziX5 rfl (by decide) zw51 rfl dX5_rowCoefficient_20 rfl rfl rfl ?_
      refine z_iload_n X dX5_rowCoefficient_23 0 rfl ?_
      obtain ⟨g24, h⟩ := zgd_of h
      refine z_iald X 0 3 g24 dX5_rowCoefficient_24 rfl rfl ?_
      refine z_goto (tgt := 29) X dX5_rowCoefficient_25 (by decide) ?_
      exact z_at (pc2 := 29) (lv2 := []) (st2 := [.int (zga sO 2 (v5).toNatClampNeg)]) (ws2 := [wX5 (zcT C) aO sO]) rfl rfl rfl [] rfl (bX5_rowCoefficient_29 X hQ  h)
theorem metX5_rowCoefficient (l : Launch) (D : va_G) (T : Nat → ClassId) (aO : Nat → Nat) {sO : zSt} {x1 : Int32} {x2 : Int32} {out : Int32} (hf : fX5_rowCoefficient sO x1 x2 = some out) (sz : Nat) : Met l yX5_rowCoefficient (zws yX5_rowCoefficient cX5_rowCoefficient 4 (some .int)) rmX5_rowCoefficient (zPc D T [.ref (aO 0), .int x1, .int x2] [wX5 T aO sO] sz) (zQi D out [] (zA [] sz)) 0 0 (zA [] sz) :=
  zMet (D := D) (T := T) (av := [.ref (aO 0), .int x1, .int x2]) (ws := fun T => [wX5 T aO sO]) (wm := fun T => []) (lv0 := [(0, .ref (aO 0)), (1, .int x1), (2, .int x2)]) [] (Qc := fun D T A => zQi D out [] A) (by decide +kernel) rfl (Nat.le_of_ble_eq_true rfl) rfl (fun C X hQ => bX5_rowCoefficient_0 X hQ hf) sz
/-- int aimCoefficient(int, int); of Tableaufloor$Program -/
abbrev rmX5_aimCoefficient : Room := { frames := 0, cells := 0, slots := 0, locals := 0 }
def fX5_aimCoefficient_29 (sO : zSt) (y0 : Int32) : Option (Int32) :=
  some (y0)
def fX5_aimCoefficient_28 (sO : zSt) : Option (Int32) :=
  (fX5_aimCoefficient_29 sO (0 : Int32))
def fX5_aimCoefficient (sO : zSt) (x1 : Int32) (x2 : Int32) : Option (Int32) :=
  (zlet ((x1 * (3 : Int32)) + x2) (fun v5 =>
    (if v5 < 0 then
    (fX5_aimCoefficient_28 sO)
  else
    (if (9 : Int32) ≤ v5 then
      (fX5_aimCoefficient_28 sO)
    else
      (if zin v5 9 = true then
        (fX5_aimCoefficient_29 sO (zga sO 6 (v5).toNatClampNeg)) else none)))))
theorem bX5_aimCoefficient_29 {C : zCtx} (X : zFx C cX5_aimCoefficient 4 RX5 rmX5_aimCoefficient (some .int)) {aO : Nat → Nat} {sO : zSt} {y0 : Int32} {out : Int32} (hQ : zHi C out [] 0 0) (h : fX5_aimCoefficient_29 sO y0 = some out) : zG C 4 [] 0 0 [wX5 (zcT C) aO sO] 29 [] [.int y0] := by
  unfold fX5_aimCoefficient_29 at h
  cases h
  exact z_iret X hQ dX5_aimCoefficient_29 rfl [] rfl (by decide) (by decide)
theorem bX5_aimCoefficient_28 {C : zCtx} (X : zFx C cX5_aimCoefficient 4 RX5 rmX5_aimCoefficient (some .int)) {aO : Nat → Nat} {sO : zSt} {out : Int32} (hQ : zHi C out [] 0 0) (h : fX5_aimCoefficient_28 sO = some out) : zG C 4 [] 0 0 [wX5 (zcT C) aO sO] 28 [] [] := by
  unfold fX5_aimCoefficient_28 at h
  refine z_iconst (v := (0 : Int32)) X dX5_aimCoefficient_28 rfl ?_
  exact z_at (pc2 := 29) (lv2 := []) (st2 := [.int (0 : Int32)]) (ws2 := [wX5 (zcT C) aO sO]) rfl rfl rfl [] rfl (bX5_aimCoefficient_29 X hQ  h)
theorem bX5_aimCoefficient_0 {C : zCtx} (X : zFx C cX5_aimCoefficient 4 RX5 rmX5_aimCoefficient (some .int)) {aO : Nat → Nat} {sO : zSt} {x1 : Int32} {x2 : Int32} {out : Int32} (hQ : zHi C out [] 0 0) (h : fX5_aimCoefficient sO x1 x2 = some out) : zG C 4 [] 0 0 [wX5 (zcT C) aO sO] 0 [(0, .ref (aO 0)), (1, .int x1), (2, .int x2)] [] := by
  unfold fX5_aimCoefficient at h
  refine z_iload_n X dX5_aimCoefficient_0 1 rfl ?_
  refine z_iconst (v := (3 : Int32)) X dX5_aimCoefficient_1 rfl ?_
  refine z_imul X dX5_aimCoefficient_2 ?_
  refine z_iload_n X dX5_aimCoefficient_3 2 rfl ?_
  refine z_iadd X dX5_aimCoefficient_4 ?_
  obtain ⟨v5, ev5, h⟩ := zlet_of h
  refine z_topi ev5 ?_
  refine z_istore_n (lv2 := [(3, .int v5), (0, .ref (aO 0)), (1, .int x1), (2, .int x2)]) X dX5_aimCoefficient_5 rfl (by decide) rfl ?_
  refine z_iload_n X dX5_aimCoefficient_6 0 rfl ?_
  refine z_if_lt (tgt := 28) X dX5_aimCoefficient_7 (by decide) (fun c7 => ?_) (fun c7 => ?_)
  · replace h := zif_t h c7
    exact z_at (pc2 := 28) (lv2 := []) (st2 := []) (ws2 := [wX5 (zcT C) aO sO]) rfl rfl rfl [] rfl (bX5_aimCoefficient_28 X hQ  h)
  · replace h := zif_f h c7
    refine z_iload_n X dX5_aimCoefficient_10 0 rfl ?_
    refine z_aload_n X dX5_aimCoefficient_11 1 rfl ?_
    refine z_get (v := .ref (aO 7)) X 0 0 6 6 ziX5 rfl (by decide) zw55 rfl dX5_aimCoefficient_12 rfl rfl rfl ?_
    refine z_alen (v := (9 : Int32)) X 0 7 1 rfl rfl dX5_aimCoefficient_15 rfl rfl ?_
    refine z_icmp_ge (tgt := 28) X dX5_aimCoefficient_16 (by decide) (fun c16 => ?_) (fun c16 => ?_)
    · replace h := zif_t h c16
      exact z_at (pc2 := 28) (lv2 := []) (st2 := []) (ws2 := [wX5 (zcT C) aO sO]) rfl rfl rfl [] rfl (bX5_aimCoefficient_28 X hQ  h)
    · replace h := zif_f h c16
      refine z_aload_n X dX5_aimCoefficient_19 1 rfl ?_
      refine z_get (v := .ref (aO 7)) X 0 0 6 6 ziX5 rfl (by decide) zw55 rfl dX5_aimCoefficient_20 rfl rfl rfl ?_
      refine z_iload_n X dX5_aimCoefficient_23 0 rfl ?_
      obtain ⟨g24, h⟩ := zgd_of h
      refine z_iald X 0 7 g24 dX5_aimCoefficient_24 rfl rfl ?_
      refine z_goto (tgt := 29) X dX5_aimCoefficient_25 (by decide) ?_
      exact z_at (pc2 := 29) (lv2 := []) (st2 := [.int (zga sO 6 (v5).toNatClampNeg)]) (ws2 := [wX5 (zcT C) aO sO]) rfl rfl rfl [] rfl (bX5_aimCoefficient_29 X hQ  h)
theorem metX5_aimCoefficient (l : Launch) (D : va_G) (T : Nat → ClassId) (aO : Nat → Nat) {sO : zSt} {x1 : Int32} {x2 : Int32} {out : Int32} (hf : fX5_aimCoefficient sO x1 x2 = some out) (sz : Nat) : Met l yX5_aimCoefficient (zws yX5_aimCoefficient cX5_aimCoefficient 4 (some .int)) rmX5_aimCoefficient (zPc D T [.ref (aO 0), .int x1, .int x2] [wX5 T aO sO] sz) (zQi D out [] (zA [] sz)) 0 0 (zA [] sz) :=
  zMet (D := D) (T := T) (av := [.ref (aO 0), .int x1, .int x2]) (ws := fun T => [wX5 T aO sO]) (wm := fun T => []) (lv0 := [(0, .ref (aO 0)), (1, .int x1), (2, .int x2)]) [] (Qc := fun D T A => zQi D out [] A) (by decide +kernel) rfl (Nat.le_of_ble_eq_true rfl) rfl (fun C X hQ => bX5_aimCoefficient_0 X hQ hf) sz
/-- int directionOf(int); of Tableaufloor$Program -/
abbrev rmX5_directionOf : Room := { frames := 0, cells := 0, slots := 0, locals := 0 }
def fX5_directionOf_23 (sO : zSt) (y0 : Int32) : Option (Int32) :=
  some (y0)
def fX5_directionOf_22 (sO : zSt) : Option (Int32) :=
  (fX5_directionOf_23 sO (1 : Int32))
def fX5_directionOf (sO : zSt) (x1 : Int32) : Option (Int32) :=
  (if x1 < 0 then
    (fX5_directionOf_22 sO)
  else
    (if (3 : Int32) ≤ x1 then
      (fX5_directionOf_22 sO)
    else
      (if zin x1 3 = true then
        (fX5_directionOf_23 sO (zga sO 7 (x1).toNatClampNeg)) else none)))
theorem bX5_directionOf_23 {C : zCtx} (X : zFx C cX5_directionOf 2 RX5 rmX5_directionOf (some .int)) {aO : Nat → Nat} {sO : zSt} {y0 : Int32} {out : Int32} (hQ : zHi C out [] 0 0) (h : fX5_directionOf_23 sO y0 = some out) : zG C 2 [] 0 0 [wX5 (zcT C) aO sO] 23 [] [.int y0] := by
  unfold fX5_directionOf_23 at h
  cases h
  exact z_iret X hQ dX5_directionOf_23 rfl [] rfl (by decide) (by decide)
theorem bX5_directionOf_22 {C : zCtx} (X : zFx C cX5_directionOf 2 RX5 rmX5_directionOf (some .int)) {aO : Nat → Nat} {sO : zSt} {out : Int32} (hQ : zHi C out [] 0 0) (h : fX5_directionOf_22 sO = some out) : zG C 2 [] 0 0 [wX5 (zcT C) aO sO] 22 [] [] := by
  unfold fX5_directionOf_22 at h
  refine z_iconst (v := (1 : Int32)) X dX5_directionOf_22 rfl ?_
  exact z_at (pc2 := 23) (lv2 := []) (st2 := [.int (1 : Int32)]) (ws2 := [wX5 (zcT C) aO sO]) rfl rfl rfl [] rfl (bX5_directionOf_23 X hQ  h)
theorem bX5_directionOf_0 {C : zCtx} (X : zFx C cX5_directionOf 2 RX5 rmX5_directionOf (some .int)) {aO : Nat → Nat} {sO : zSt} {x1 : Int32} {out : Int32} (hQ : zHi C out [] 0 0) (h : fX5_directionOf sO x1 = some out) : zG C 2 [] 0 0 [wX5 (zcT C) aO sO] 0 [(0, .ref (aO 0)), (1, .int x1)] [] := by
  unfold fX5_directionOf at h
  refine z_iload_n X dX5_directionOf_0 1 rfl ?_
  refine z_if_lt (tgt := 22) X dX5_directionOf_1 (by decide) (fun c1 => ?_) (fun c1 => ?_)
  · replace h := zif_t h c1
    exact z_at (pc2 := 22) (lv2 := []) (st2 := []) (ws2 := [wX5 (zcT C) aO sO]) rfl rfl rfl [] rfl (bX5_directionOf_22 X hQ  h)
  · replace h := zif_f h c1
    refine z_iload_n X dX5_directionOf_4 1 rfl ?_
    refine z_aload_n X dX5_directionOf_5 0 rfl ?_
    refine z_get (v := .ref (aO 8)) X 0 0 6 7 ziX5 rfl (by decide) zw56 rfl dX5_directionOf_6 rfl rfl rfl ?_
    refine z_alen (v := (3 : Int32)) X 0 8 1 rfl rfl dX5_directionOf_9 rfl rfl ?_
    refine z_icmp_ge (tgt := 22) X dX5_directionOf_10 (by decide) (fun c10 => ?_) (fun c10 => ?_)
    · replace h := zif_t h c10
      exact z_at (pc2 := 22) (lv2 := []) (st2 := []) (ws2 := [wX5 (zcT C) aO sO]) rfl rfl rfl [] rfl (bX5_directionOf_22 X hQ  h)
    · replace h := zif_f h c10
      refine z_aload_n X dX5_directionOf_13 0 rfl ?_
      refine z_get (v := .ref (aO 8)) X 0 0 6 7 ziX5 rfl (by decide) zw56 rfl dX5_directionOf_14 rfl rfl rfl ?_
      refine z_iload_n X dX5_directionOf_17 1 rfl ?_
      obtain ⟨g18, h⟩ := zgd_of h
      refine z_iald X 0 8 g18 dX5_directionOf_18 rfl rfl ?_
      refine z_goto (tgt := 23) X dX5_directionOf_19 (by decide) ?_
      exact z_at (pc2 := 23) (lv2 := []) (st2 := [.int (zga sO 7 (x1).toNatClampNeg)]) (ws2 := [wX5 (zcT C) aO sO]) rfl rfl rfl [] rfl (bX5_directionOf_23 X hQ  h)
theorem metX5_directionOf (l : Launch) (D : va_G) (T : Nat → ClassId) (aO : Nat → Nat) {sO : zSt} {x1 : Int32} {out : Int32} (hf : fX5_directionOf sO x1 = some out) (sz : Nat) : Met l yX5_directionOf (zws yX5_directionOf cX5_directionOf 2 (some .int)) rmX5_directionOf (zPc D T [.ref (aO 0), .int x1] [wX5 T aO sO] sz) (zQi D out [] (zA [] sz)) 0 0 (zA [] sz) :=
  zMet (D := D) (T := T) (av := [.ref (aO 0), .int x1]) (ws := fun T => [wX5 T aO sO]) (wm := fun T => []) (lv0 := [(0, .ref (aO 0)), (1, .int x1)]) [] (Qc := fun D T A => zQi D out [] A) (by decide +kernel) rfl (Nat.le_of_ble_eq_true rfl) rfl (fun C X hQ => bX5_directionOf_0 X hQ hf) sz
/-- long aimSum(int, Tableaufloor$Point); of Tableaufloor$Program -/
abbrev rmX5_aimSum : Room := { frames := 1, cells := 0, slots := 0, locals := 23 }
def fX5_aimSum_5 (sO : zSt) (sq1 : zSt) : Nat → Int32 → Int64 → Int32 → Option (Int64)
  | 0, _, _, _ => none
  | n + 1, x1, x3, x5 =>
    (if (3 : Int32) ≤ x5 then
      some (x3)
    else
      ((fX5_aimCoefficient sO x1 x5).bind (fun o16 =>
        ((fX4_topOf sq1 x5).bind (fun o23 =>
        (zlet (x3 + (((o16).toInt64) * o23)) (fun v28 =>
        (zlet (x5 + 1) (fun v29 =>
        (fX5_aimSum_5 sO sq1 n x1 v28 v29))))))))))
def fX5_aimSum (sO : zSt) (sq1 : zSt) (x1 : Int32) : Option (Int64) :=
  (fX5_aimSum_5 sO sq1 6000 x1 (0 : Int64) (0 : Int32))
theorem bX5_aimSum_5 {C : zCtx} (X : zFx C cX5_aimSum 6 RX5 rmX5_aimSum (some .long)) {aO : Nat → Nat} {aq1 : Nat → Nat} {sO : zSt} {sq1 : zSt} {out : Int64} (hQ : zHl C out [] 0 0) : ∀ (n : Nat) (x1 : Int32) (x3 : Int64) (x5 : Int32), fX5_aimSum_5 sO sq1 n x1 x3 x5 = some out → zG C 6 [] 0 0 [wX5 (zcT C) aO sO, wX4 (zcT C) aq1 sq1] 5 [(0, .ref (aO 0)), (1, .int x1), (2, .ref (aq1 0)), (3, .long x3), (5, .int x5)] [] := by
  intro n
  induction n with
  | zero =>
    intro x1 x3 x5 h
    rw [fX5_aimSum_5] at h
    exact zno h
  | succ n ih =>
    intro x1 x3 x5 h
    rw [fX5_aimSum_5] at h
    refine z_iload X dX5_aimSum_5 4 rfl ?_
    refine z_iconst (v := (3 : Int32)) X dX5_aimSum_7 rfl ?_
    refine z_icmp_ge (tgt := 35) X dX5_aimSum_8 (by decide) (fun c8 => ?_) (fun c8 => ?_)
    · replace h := zif_t h c8
      refine z_lload_n X dX5_aimSum_35 3 rfl ?_
      cases h
      exact z_lret X hQ dX5_aimSum_36 rfl [] rfl (by decide) (by decide)
    · replace h := zif_f h c8
      refine z_lload_n X dX5_aimSum_11 3 rfl ?_
      refine z_aload_n X dX5_aimSum_12 0 rfl ?_
      refine z_iload_n X dX5_aimSum_13 1 rfl ?_
      refine z_iload X dX5_aimSum_14 4 rfl ?_
      obtain ⟨o16, ho16, h⟩ := zbind_of h
      refine z_callVi (st := [.long x3]) (ws2 := [wX5 (zcT C) aO sO, wX4 (zcT C) aq1 sq1]) X (metX5_aimCoefficient (zcl C) (zcD C) (zcT C) aO ho16) zmX5_aimCoefficient zw743 dX5_aimSum_16 0 0 6 rfl rfl rfl rfl [0] rfl rfl [] rfl (by decide) trivial rfl rfl rfl (Nat.le_of_ble_eq_true rfl) rfl rfl ⟨Nat.le_of_ble_eq_true rfl, Nat.le_of_ble_eq_true rfl⟩ ⟨Nat.le_of_ble_eq_true rfl, Nat.le_of_ble_eq_true rfl⟩ ?_
      refine z_i2l X dX5_aimSum_19 ?_
      refine z_aload_n X dX5_aimSum_20 2 rfl ?_
      refine z_iload X dX5_aimSum_21 4 rfl ?_
      obtain ⟨o23, ho23, h⟩ := zbind_of h
      refine z_callVl (st := [.long ((o16).toInt64), .long x3]) (ws2 := [wX5 (zcT C) aO sO, wX4 (zcT C) aq1 sq1]) X (metX4_topOf (zcl C) (zcD C) (zcT C) aq1 ho23) zmX4_topOf zw695 dX5_aimSum_23 1 0 5 rfl rfl rfl rfl [1] rfl rfl [] rfl (by decide) trivial rfl rfl rfl (Nat.le_of_ble_eq_true rfl) rfl rfl ⟨Nat.le_of_ble_eq_true rfl, Nat.le_of_ble_eq_true rfl⟩ ⟨Nat.le_of_ble_eq_true rfl, Nat.le_of_ble_eq_true rfl⟩ ?_
      refine z_lmul X dX5_aimSum_26 ?_
      refine z_ladd X dX5_aimSum_27 ?_
      obtain ⟨v28, ev28, h⟩ := zlet_of h
      refine z_topl ev28 ?_
      refine z_lstore_n (lv2 := [(3, .long v28), (0, .ref (aO 0)), (1, .int x1), (2, .ref (aq1 0)), (5, .int x5)]) X dX5_aimSum_28 rfl (by decide) rfl ?_
      obtain ⟨v29, ev29, h⟩ := zlet_of h
      refine z_iinc (v := v29) (lv2 := [(5, .int v29), (3, .long v28), (0, .ref (aO 0)), (1, .int x1), (2, .ref (aq1 0))]) X dX5_aimSum_29 (k := 4) rfl (by rw [ev29]; rfl) (by decide) rfl ?_
      refine z_goto (tgt := 5) X dX5_aimSum_32 (by decide) ?_
      exact z_at (pc2 := 5) (lv2 := [(0, .ref (aO 0)), (1, .int x1), (2, .ref (aq1 0)), (3, .long v28), (5, .int v29)]) (st2 := []) (ws2 := [wX5 (zcT C) aO sO, wX4 (zcT C) aq1 sq1]) rfl rfl rfl [2, 3, 4, 1, 0] rfl (ih x1 v28 v29 h)
theorem bX5_aimSum_0 {C : zCtx} (X : zFx C cX5_aimSum 6 RX5 rmX5_aimSum (some .long)) {aO : Nat → Nat} {aq1 : Nat → Nat} {sO : zSt} {sq1 : zSt} {x1 : Int32} {out : Int64} (hQ : zHl C out [] 0 0) (h : fX5_aimSum sO sq1 x1 = some out) : zG C 6 [] 0 0 [wX5 (zcT C) aO sO, wX4 (zcT C) aq1 sq1] 0 [(0, .ref (aO 0)), (1, .int x1), (2, .ref (aq1 0))] [] := by
  unfold fX5_aimSum at h
  refine z_lconst (v := (0 : Int64)) X dX5_aimSum_0 rfl ?_
  refine z_lstore_n (lv2 := [(3, .long (0 : Int64)), (0, .ref (aO 0)), (1, .int x1), (2, .ref (aq1 0))]) X dX5_aimSum_1 rfl (by decide) rfl ?_
  refine z_iconst (v := (0 : Int32)) X dX5_aimSum_2 rfl ?_
  refine z_istore (lv2 := [(5, .int (0 : Int32)), (3, .long (0 : Int64)), (0, .ref (aO 0)), (1, .int x1), (2, .ref (aq1 0))]) X dX5_aimSum_3 (by decide) rfl ?_
  exact z_at (pc2 := 5) (lv2 := [(0, .ref (aO 0)), (1, .int x1), (2, .ref (aq1 0)), (3, .long (0 : Int64)), (5, .int (0 : Int32))]) (st2 := []) (ws2 := [wX5 (zcT C) aO sO, wX4 (zcT C) aq1 sq1]) rfl rfl rfl [2, 3, 4, 1, 0] rfl (bX5_aimSum_5 X hQ  6000 x1 (0 : Int64) (0 : Int32) h)
theorem metX5_aimSum (l : Launch) (D : va_G) (T : Nat → ClassId) (aO : Nat → Nat) (aq1 : Nat → Nat) {sO : zSt} {sq1 : zSt} {x1 : Int32} {out : Int64} (hf : fX5_aimSum sO sq1 x1 = some out) (sz : Nat) : Met l yX5_aimSum (zws yX5_aimSum cX5_aimSum 6 (some .long)) rmX5_aimSum (zPc D T [.ref (aO 0), .int x1, .ref (aq1 0)] [wX5 T aO sO, wX4 T aq1 sq1] sz) (zQl D out [] (zA [] sz)) 0 0 (zA [] sz) :=
  zMet (D := D) (T := T) (av := [.ref (aO 0), .int x1, .ref (aq1 0)]) (ws := fun T => [wX5 T aO sO, wX4 T aq1 sq1]) (wm := fun T => []) (lv0 := [(0, .ref (aO 0)), (1, .int x1), (2, .ref (aq1 0))]) [] (Qc := fun D T A => zQl D out [] A) (by decide +kernel) rfl (Nat.le_of_ble_eq_true rfl) rfl (fun C X hQ => bX5_aimSum_0 X hQ hf) sz
/-- int sideOf(int, Tableaufloor$Point); of Tableaufloor$Program -/
abbrev rmX5_sideOf : Room := { frames := 1, cells := 0, slots := 0, locals := 23 }
def fX5_sideOf_5 (sO : zSt) (sq1 : zSt) : Nat → Int32 → Int64 → Int32 → Option (Int32)
  | 0, _, _, _ => none
  | n + 1, x1, x3, x5 =>
    (if (3 : Int32) ≤ x5 then
      ((fX5_numberOf sO x1).bind (fun o38 =>
        ((fJ13_compare_74951 x3 (((o38).toInt64) * (zgl sq1 1))).bind (fun o47 =>
        some (o47)))))
    else
      ((fX5_rowCoefficient sO x1 x5).bind (fun o16 =>
        ((fX4_topOf sq1 x5).bind (fun o23 =>
        (zlet (x3 + (((o16).toInt64) * o23)) (fun v28 =>
        (zlet (x5 + 1) (fun v29 =>
        (fX5_sideOf_5 sO sq1 n x1 v28 v29))))))))))
def fX5_sideOf (sO : zSt) (sq1 : zSt) (x1 : Int32) : Option (Int32) :=
  (fX5_sideOf_5 sO sq1 6000 x1 (0 : Int64) (0 : Int32))
theorem bX5_sideOf_5 {C : zCtx} (X : zFx C cX5_sideOf 6 RX5 rmX5_sideOf (some .int)) {aO : Nat → Nat} {aq1 : Nat → Nat} {sO : zSt} {sq1 : zSt} {out : Int32} (hQ : zHi C out [] 0 0) : ∀ (n : Nat) (x1 : Int32) (x3 : Int64) (x5 : Int32), fX5_sideOf_5 sO sq1 n x1 x3 x5 = some out → zG C 6 [] 0 0 [wX5 (zcT C) aO sO, wX4 (zcT C) aq1 sq1] 5 [(0, .ref (aO 0)), (1, .int x1), (2, .ref (aq1 0)), (3, .long x3), (5, .int x5)] [] := by
  intro n
  induction n with
  | zero =>
    intro x1 x3 x5 h
    rw [fX5_sideOf_5] at h
    exact zno h
  | succ n ih =>
    intro x1 x3 x5 h
    rw [fX5_sideOf_5] at h
    refine z_iload X dX5_sideOf_5 4 rfl ?_
    refine z_iconst (v := (3 : Int32)) X dX5_sideOf_7 rfl ?_
    refine z_icmp_ge (tgt := 35) X dX5_sideOf_8 (by decide) (fun c8 => ?_) (fun c8 => ?_)
    · replace h := zif_t h c8
      refine z_lload_n X dX5_sideOf_35 3 rfl ?_
      refine z_aload_n X dX5_sideOf_36 0 rfl ?_
      refine z_iload_n X dX5_sideOf_37 1 rfl ?_
      obtain ⟨o38, ho38, h⟩ := zbind_of h
      refine z_callVi (st := [.long x3]) (ws2 := [wX5 (zcT C) aO sO, wX4 (zcT C) aq1 sq1]) X (metX5_numberOf (zcl C) (zcD C) (zcT C) aO ho38) zmX5_numberOf zw708 dX5_sideOf_38 0 0 6 rfl rfl rfl rfl [0] rfl rfl [] rfl (by decide) trivial rfl rfl rfl (Nat.le_of_ble_eq_true rfl) rfl rfl ⟨Nat.le_of_ble_eq_true rfl, Nat.le_of_ble_eq_true rfl⟩ ⟨Nat.le_of_ble_eq_true rfl, Nat.le_of_ble_eq_true rfl⟩ ?_
      refine z_i2l X dX5_sideOf_41 ?_
      refine z_aload_n X dX5_sideOf_42 2 rfl ?_
      refine z_getN (v := .long (zgl sq1 1)) X 1 0 5 1 ziX4 rfl (by decide) zw224 rfl dX5_sideOf_43 rfl rfl rfl ?_
      refine z_lmul X dX5_sideOf_46 ?_
      obtain ⟨o47, ho47, h⟩ := zbind_of h
      refine z_callSi (st := []) (ws2 := [wX5 (zcT C) aO sO, wX4 (zcT C) aq1 sq1]) X (metJ13_compare_74951 (zcl C) (zcD C) (zcT C)  ho47) zmJ13_compare_74951 zw709 dX5_sideOf_47 [] rfl rfl [] rfl (by decide) trivial rfl rfl rfl (Nat.le_of_ble_eq_true rfl) rfl rfl ⟨Nat.le_of_ble_eq_true rfl, Nat.le_of_ble_eq_true rfl⟩ ⟨Nat.le_of_ble_eq_true rfl, Nat.le_of_ble_eq_true rfl⟩ ?_
      cases h
      exact z_iret X hQ dX5_sideOf_50 rfl [] rfl (by decide) (by decide)
    · replace h := zif_f h c8
      refine z_lload_n X dX5_sideOf_11 3 rfl ?_
      refine z_aload_n X dX5_sideOf_12 0 rfl ?_
      refine z_iload_n X dX5_sideOf_13 1 rfl ?_
      refine z_iload X dX5_sideOf_14 4 rfl ?_
      obtain ⟨o16, ho16, h⟩ := zbind_of h
      refine z_callVi (st := [.long x3]) (ws2 := [wX5 (zcT C) aO sO, wX4 (zcT C) aq1 sq1]) X (metX5_rowCoefficient (zcl C) (zcD C) (zcT C) aO ho16) zmX5_rowCoefficient zw707 dX5_sideOf_16 0 0 6 rfl rfl rfl rfl [0] rfl rfl [] rfl (by decide) trivial rfl rfl rfl (Nat.le_of_ble_eq_true rfl) rfl rfl ⟨Nat.le_of_ble_eq_true rfl, Nat.le_of_ble_eq_true rfl⟩ ⟨Nat.le_of_ble_eq_true rfl, Nat.le_of_ble_eq_true rfl⟩ ?_
      refine z_i2l X dX5_sideOf_19 ?_
      refine z_aload_n X dX5_sideOf_20 2 rfl ?_
      refine z_iload X dX5_sideOf_21 4 rfl ?_
      obtain ⟨o23, ho23, h⟩ := zbind_of h
      refine z_callVl (st := [.long ((o16).toInt64), .long x3]) (ws2 := [wX5 (zcT C) aO sO, wX4 (zcT C) aq1 sq1]) X (metX4_topOf (zcl C) (zcD C) (zcT C) aq1 ho23) zmX4_topOf zw695 dX5_sideOf_23 1 0 5 rfl rfl rfl rfl [1] rfl rfl [] rfl (by decide) trivial rfl rfl rfl (Nat.le_of_ble_eq_true rfl) rfl rfl ⟨Nat.le_of_ble_eq_true rfl, Nat.le_of_ble_eq_true rfl⟩ ⟨Nat.le_of_ble_eq_true rfl, Nat.le_of_ble_eq_true rfl⟩ ?_
      refine z_lmul X dX5_sideOf_26 ?_
      refine z_ladd X dX5_sideOf_27 ?_
      obtain ⟨v28, ev28, h⟩ := zlet_of h
      refine z_topl ev28 ?_
      refine z_lstore_n (lv2 := [(3, .long v28), (0, .ref (aO 0)), (1, .int x1), (2, .ref (aq1 0)), (5, .int x5)]) X dX5_sideOf_28 rfl (by decide) rfl ?_
      obtain ⟨v29, ev29, h⟩ := zlet_of h
      refine z_iinc (v := v29) (lv2 := [(5, .int v29), (3, .long v28), (0, .ref (aO 0)), (1, .int x1), (2, .ref (aq1 0))]) X dX5_sideOf_29 (k := 4) rfl (by rw [ev29]; rfl) (by decide) rfl ?_
      refine z_goto (tgt := 5) X dX5_sideOf_32 (by decide) ?_
      exact z_at (pc2 := 5) (lv2 := [(0, .ref (aO 0)), (1, .int x1), (2, .ref (aq1 0)), (3, .long v28), (5, .int v29)]) (st2 := []) (ws2 := [wX5 (zcT C) aO sO, wX4 (zcT C) aq1 sq1]) rfl rfl rfl [2, 3, 4, 1, 0] rfl (ih x1 v28 v29 h)
theorem bX5_sideOf_0 {C : zCtx} (X : zFx C cX5_sideOf 6 RX5 rmX5_sideOf (some .int)) {aO : Nat → Nat} {aq1 : Nat → Nat} {sO : zSt} {sq1 : zSt} {x1 : Int32} {out : Int32} (hQ : zHi C out [] 0 0) (h : fX5_sideOf sO sq1 x1 = some out) : zG C 6 [] 0 0 [wX5 (zcT C) aO sO, wX4 (zcT C) aq1 sq1] 0 [(0, .ref (aO 0)), (1, .int x1), (2, .ref (aq1 0))] [] := by
  unfold fX5_sideOf at h
  refine z_lconst (v := (0 : Int64)) X dX5_sideOf_0 rfl ?_
  refine z_lstore_n (lv2 := [(3, .long (0 : Int64)), (0, .ref (aO 0)), (1, .int x1), (2, .ref (aq1 0))]) X dX5_sideOf_1 rfl (by decide) rfl ?_
  refine z_iconst (v := (0 : Int32)) X dX5_sideOf_2 rfl ?_
  refine z_istore (lv2 := [(5, .int (0 : Int32)), (3, .long (0 : Int64)), (0, .ref (aO 0)), (1, .int x1), (2, .ref (aq1 0))]) X dX5_sideOf_3 (by decide) rfl ?_
  exact z_at (pc2 := 5) (lv2 := [(0, .ref (aO 0)), (1, .int x1), (2, .ref (aq1 0)), (3, .long (0 : Int64)), (5, .int (0 : Int32))]) (st2 := []) (ws2 := [wX5 (zcT C) aO sO, wX4 (zcT C) aq1 sq1]) rfl rfl rfl [2, 3, 4, 1, 0] rfl (bX5_sideOf_5 X hQ  6000 x1 (0 : Int64) (0 : Int32) h)
theorem metX5_sideOf (l : Launch) (D : va_G) (T : Nat → ClassId) (aO : Nat → Nat) (aq1 : Nat → Nat) {sO : zSt} {sq1 : zSt} {x1 : Int32} {out : Int32} (hf : fX5_sideOf sO sq1 x1 = some out) (sz : Nat) : Met l yX5_sideOf (zws yX5_sideOf cX5_sideOf 6 (some .int)) rmX5_sideOf (zPc D T [.ref (aO 0), .int x1, .ref (aq1 0)] [wX5 T aO sO, wX4 T aq1 sq1] sz) (zQi D out [] (zA [] sz)) 0 0 (zA [] sz) :=
  zMet (D := D) (T := T) (av := [.ref (aO 0), .int x1, .ref (aq1 0)]) (ws := fun T => [wX5 T aO sO, wX4 T aq1 sq1]) (wm := fun T => []) (lv0 := [(0, .ref (aO 0)), (1, .int x1), (2, .ref (aq1 0))]) [] (Qc := fun D T A => zQi D out [] A) (by decide +kernel) rfl (Nat.le_of_ble_eq_true rfl) rfl (fun C X hQ => bX5_sideOf_0 X hQ hf) sz
/-- private static boolean allows(char, int); of Tableaufloor$Program -/
abbrev rmX5_allows : Room := { frames := 0, cells := 0, slots := 0, locals := 0 }
def fX5_allows_29 (y0 : Int32) : Option (Int32) :=
  (if znar .boolean y0 = true then
    some (y0) else none)
def fX5_allows_24 : Option (Int32) :=
  (fX5_allows_29 (1 : Int32))
def fX5_allows_28 : Option (Int32) :=
  (fX5_allows_29 (0 : Int32))
def fX5_allows_14 (x0 : Int32) (x1 : Int32) : Option (Int32) :=
  (if x1 ≤ 0 then
    (fX5_allows_28)
  else
    (if x0 = (62 : Int32) then
      (fX5_allows_24)
    else
      (fX5_allows_28)))
def fX5_allows (x0 : Int32) (x1 : Int32) : Option (Int32) :=
  (if x1 = 0 then
    (fX5_allows_24)
  else
    (if 0 ≤ x1 then
      (fX5_allows_14 x0 x1)
    else
      (if x0 = (60 : Int32) then
        (fX5_allows_24)
      else
        (fX5_allows_14 x0 x1))))
theorem bX5_allows_29 {C : zCtx} (X : zFx C cX5_allows 2 RX5 rmX5_allows (some .boolean)) {y0 : Int32} {out : Int32} (hQ : zHi C out [] 0 0) (h : fX5_allows_29 y0 = some out) : zG C 2 [] 0 0 [] 29 [] [.int y0] := by
  unfold fX5_allows_29 at h
  obtain ⟨g29, h⟩ := zgd_of h
  cases h
  exact z_nret X hQ g29 dX5_allows_29 rfl [] rfl (by decide) (by decide)
theorem bX5_allows_24 {C : zCtx} (X : zFx C cX5_allows 2 RX5 rmX5_allows (some .boolean)) {out : Int32} (hQ : zHi C out [] 0 0) (h : fX5_allows_24 = some out) : zG C 2 [] 0 0 [] 24 [] [] := by
  unfold fX5_allows_24 at h
  refine z_iconst (v := (1 : Int32)) X dX5_allows_24 rfl ?_
  refine z_goto (tgt := 29) X dX5_allows_25 (by decide) ?_
  exact z_at (pc2 := 29) (lv2 := []) (st2 := [.int (1 : Int32)]) (ws2 := []) rfl rfl rfl [] rfl (bX5_allows_29 X hQ  h)
theorem bX5_allows_28 {C : zCtx} (X : zFx C cX5_allows 2 RX5 rmX5_allows (some .boolean)) {out : Int32} (hQ : zHi C out [] 0 0) (h : fX5_allows_28 = some out) : zG C 2 [] 0 0 [] 28 [] [] := by
  unfold fX5_allows_28 at h
  refine z_iconst (v := (0 : Int32)) X dX5_allows_28 rfl ?_
  exact z_at (pc2 := 29) (lv2 := []) (st2 := [.int (0 : Int32)]) (ws2 := []) rfl rfl rfl [] rfl (bX5_allows_29 X hQ  h)
theorem bX5_allows_14 {C : zCtx} (X : zFx C cX5_allows 2 RX5 rmX5_allows (some .boolean)) {x0 : Int32} {x1 : Int32} {out : Int32} (hQ : zHi C out [] 0 0) (h : fX5_allows_14 x0 x1 = some out) : zG C 2 [] 0 0 [] 14 [(0, .int x0), (1, .int x1)] [] := by
  unfold fX5_allows_14 at h
  refine z_iload_n X dX5_allows_14 1 rfl ?_
  refine z_if_le (tgt := 28) X dX5_allows_15 (by decide) (fun c15 => ?_) (fun c15 => ?_)
  · replace h := zif_t h c15
    exact z_at (pc2 := 28) (lv2 := []) (st2 := []) (ws2 := []) rfl rfl rfl [] rfl (bX5_allows_28 X hQ  h)
  · replace h := zif_f h c15
    refine z_iload_n X dX5_allows_18 0 rfl ?_
    refine z_bipush (v := (62 : Int32)) X dX5_allows_19 rfl ?_
    refine z_icmp_ne (tgt := 28) X dX5_allows_21 (by decide) (fun c21 => ?_) (fun c21 => ?_)
    · replace h := zif_f h c21
      exact z_at (pc2 := 28) (lv2 := []) (st2 := []) (ws2 := []) rfl rfl rfl [] rfl (bX5_allows_28 X hQ  h)
    · replace h := zif_t h c21
      exact z_at (pc2 := 24) (lv2 := []) (st2 := []) (ws2 := []) rfl rfl rfl [] rfl (bX5_allows_24 X hQ  h)
theorem bX5_allows_0 {C : zCtx} (X : zFx C cX5_allows 2 RX5 rmX5_allows (some .boolean)) {x0 : Int32} {x1 : Int32} {out : Int32} (hQ : zHi C out [] 0 0) (h : fX5_allows x0 x1 = some out) : zG C 2 [] 0 0 [] 0 [(0, .int x0), (1, .int x1)] [] := by
  unfold fX5_allows at h
  refine z_iload_n X dX5_allows_0 1 rfl ?_
  refine z_if_eq (tgt := 24) X dX5_allows_1 (by decide) (fun c1 => ?_) (fun c1 => ?_)
  · replace h := zif_t h c1
    exact z_at (pc2 := 24) (lv2 := []) (st2 := []) (ws2 := []) rfl rfl rfl [] rfl (bX5_allows_24 X hQ  h)
  · replace h := zif_f h c1
    refine z_iload_n X dX5_allows_4 1 rfl ?_
    refine z_if_ge (tgt := 14) X dX5_allows_5 (by decide) (fun c5 => ?_) (fun c5 => ?_)
    · replace h := zif_t h c5
      exact z_at (pc2 := 14) (lv2 := [(0, .int x0), (1, .int x1)]) (st2 := []) (ws2 := []) rfl rfl rfl [0, 1] rfl (bX5_allows_14 X hQ  h)
    · replace h := zif_f h c5
      refine z_iload_n X dX5_allows_8 0 rfl ?_
      refine z_bipush (v := (60 : Int32)) X dX5_allows_9 rfl ?_
      refine z_icmp_eq (tgt := 24) X dX5_allows_11 (by decide) (fun c11 => ?_) (fun c11 => ?_)
      · replace h := zif_t h c11
        exact z_at (pc2 := 24) (lv2 := []) (st2 := []) (ws2 := []) rfl rfl rfl [] rfl (bX5_allows_24 X hQ  h)
      · replace h := zif_f h c11
        exact z_at (pc2 := 14) (lv2 := [(0, .int x0), (1, .int x1)]) (st2 := []) (ws2 := []) rfl rfl rfl [0, 1] rfl (bX5_allows_14 X hQ  h)
theorem metX5_allows (l : Launch) (D : va_G) (T : Nat → ClassId) {x0 : Int32} {x1 : Int32} {out : Int32} (hf : fX5_allows x0 x1 = some out) (sz : Nat) : Met l yX5_allows (zws yX5_allows cX5_allows 2 (some .boolean)) rmX5_allows (zPc D T [.int x0, .int x1] [] sz) (zQi D out [] (zA [] sz)) 0 0 (zA [] sz) :=
  zMet (D := D) (T := T) (av := [.int x0, .int x1]) (ws := fun T => []) (wm := fun T => []) (lv0 := [(0, .int x0), (1, .int x1)]) [] (Qc := fun D T A => zQi D out [] A) (by decide +kernel) rfl (Nat.le_of_ble_eq_true rfl) rfl (fun C X hQ => bX5_allows_0 X hQ hf) sz
/-- private boolean isWithin(int, Tableaufloor$Point); of Tableaufloor$Program -/
abbrev rmX5_isWithin : Room := { frames := 2, cells := 0, slots := 0, locals := 42 }
def fX5_isWithin_51 (sO : zSt) (sq1 : zSt) (y0 : Int32) : Option (Int32) :=
  (if znar .boolean y0 = true then
    some (y0) else none)
def fX5_isWithin_50 (sO : zSt) (sq1 : zSt) : Option (Int32) :=
  (fX5_isWithin_51 sO sq1 (0 : Int32))
def fX5_isWithin_46 (sO : zSt) (sq1 : zSt) : Option (Int32) :=
  (fX5_isWithin_51 sO sq1 (1 : Int32))
def fX5_isWithin (sO : zSt) (sq1 : zSt) (x1 : Int32) : Option (Int32) :=
  ((fX4_topOf sq1 x1).bind (fun o2 =>
    ((fX5_leastOf sO x1).bind (fun o9 =>
    (if o2 < (((o9).toInt64) * (zgl sq1 1)) then
    (fX5_isWithin_50 sO sq1)
  else
    ((fX5_hasGreatest sO x1).bind (fun o24 =>
      (if o24 = 0 then
      (fX5_isWithin_46 sO sq1)
    else
      ((fX5_greatestOf sO x1).bind (fun o33 =>
        (if (((o33).toInt64) * (zgl sq1 1)) < o2 then
        (fX5_isWithin_50 sO sq1)
      else
        (fX5_isWithin_46 sO sq1))))))))))))
theorem bX5_isWithin_51 {C : zCtx} (X : zFx C cX5_isWithin 5 RX5 rmX5_isWithin (some .boolean)) {aO : Nat → Nat} {aq1 : Nat → Nat} {sO : zSt} {sq1 : zSt} {y0 : Int32} {out : Int32} (hQ : zHi C out [] 0 0) (h : fX5_isWithin_51 sO sq1 y0 = some out) : zG C 5 [] 0 0 [wX5 (zcT C) aO sO, wX4 (zcT C) aq1 sq1] 51 [] [.int y0] := by
  unfold fX5_isWithin_51 at h
  obtain ⟨g51, h⟩ := zgd_of h
  cases h
  exact z_nret X hQ g51 dX5_isWithin_51 rfl [] rfl (by decide) (by decide)
theorem bX5_isWithin_50 {C : zCtx} (X : zFx C cX5_isWithin 5 RX5 rmX5_isWithin (some .boolean)) {aO : Nat → Nat} {aq1 : Nat → Nat} {sO : zSt} {sq1 : zSt} {out : Int32} (hQ : zHi C out [] 0 0) (h : fX5_isWithin_50 sO sq1 = some out) : zG C 5 [] 0 0 [wX5 (zcT C) aO sO, wX4 (zcT C) aq1 sq1] 50 [] [] := by
  unfold fX5_isWithin_50 at h
  refine z_iconst (v := (0 : Int32)) X dX5_isWithin_50 rfl ?_
  exact z_at (pc2 := 51) (lv2 := []) (st2 := [.int (0 : Int32)]) (ws2 := [wX5 (zcT C) aO sO, wX4 (zcT C) aq1 sq1]) rfl rfl rfl [] rfl (bX5_isWithin_51 X hQ  h)
theorem bX5_isWithin_46 {C : zCtx} (X : zFx C cX5_isWithin 5 RX5 rmX5_isWithin (some .boolean)) {aO : Nat → Nat} {aq1 : Nat → Nat} {sO : zSt} {sq1 : zSt} {out : Int32} (hQ : zHi C out [] 0 0) (h : fX5_isWithin_46 sO sq1 = some out) : zG C 5 [] 0 0 [wX5 (zcT C) aO sO, wX4 (zcT C) aq1 sq1] 46 [] [] := by
  unfold fX5_isWithin_46 at h
  refine z_iconst (v := (1 : Int32)) X dX5_isWithin_46 rfl ?_
  refine z_goto (tgt := 51) X dX5_isWithin_47 (by decide) ?_
  exact z_at (pc2 := 51) (lv2 := []) (st2 := [.int (1 : Int32)]) (ws2 := [wX5 (zcT C) aO sO, wX4 (zcT C) aq1 sq1]) rfl rfl rfl [] rfl (bX5_isWithin_51 X hQ  h)
theorem bX5_isWithin_0 {C : zCtx} (X : zFx C cX5_isWithin 5 RX5 rmX5_isWithin (some .boolean)) {aO : Nat → Nat} {aq1 : Nat → Nat} {sO : zSt} {sq1 : zSt} {x1 : Int32} {out : Int32} (hQ : zHi C out [] 0 0) (h : fX5_isWithin sO sq1 x1 = some out) : zG C 5 [] 0 0 [wX5 (zcT C) aO sO, wX4 (zcT C) aq1 sq1] 0 [(0, .ref (aO 0)), (1, .int x1), (2, .ref (aq1 0))] [] := by
  unfold fX5_isWithin at h
  refine z_aload_n X dX5_isWithin_0 2 rfl ?_
  refine z_iload_n X dX5_isWithin_1 1 rfl ?_
  obtain ⟨o2, ho2, h⟩ := zbind_of h
  refine z_callVl (st := []) (ws2 := [wX5 (zcT C) aO sO, wX4 (zcT C) aq1 sq1]) X (metX4_topOf (zcl C) (zcD C) (zcT C) aq1 ho2) zmX4_topOf zw695 dX5_isWithin_2 1 0 5 rfl rfl rfl rfl [1] rfl rfl [] rfl (by decide) trivial rfl rfl rfl (Nat.le_of_ble_eq_true rfl) rfl rfl ⟨Nat.le_of_ble_eq_true rfl, Nat.le_of_ble_eq_true rfl⟩ ⟨Nat.le_of_ble_eq_true rfl, Nat.le_of_ble_eq_true rfl⟩ ?_
  refine z_lstore_n (lv2 := [(3, .long o2), (0, .ref (aO 0)), (1, .int x1), (2, .ref (aq1 0))]) X dX5_isWithin_5 rfl (by decide) rfl ?_
  refine z_lload_n X dX5_isWithin_6 0 rfl ?_
  refine z_aload_n X dX5_isWithin_7 1 rfl ?_
  refine z_iload_n X dX5_isWithin_8 2 rfl ?_
  obtain ⟨o9, ho9, h⟩ := zbind_of h
  refine z_callVi (st := [.long o2]) (ws2 := [wX5 (zcT C) aO sO, wX4 (zcT C) aq1 sq1]) X (metX5_leastOf (zcl C) (zcD C) (zcT C) aO ho9) zmX5_leastOf zw699 dX5_isWithin_9 0 0 6 rfl rfl rfl rfl [0] rfl rfl [] rfl (by decide) trivial rfl rfl rfl (Nat.le_of_ble_eq_true rfl) rfl rfl ⟨Nat.le_of_ble_eq_true rfl, Nat.le_of_ble_eq_true rfl⟩ ⟨Nat.le_of_ble_eq_true rfl, Nat.le_of_ble_eq_true rfl⟩ ?_
  refine z_i2l X dX5_isWithin_12 ?_
  refine z_aload_n X dX5_isWithin_13 3 rfl ?_
  refine z_getN (v := .long (zgl sq1 1)) X 1 0 5 1 ziX4 rfl (by decide) zw224 rfl dX5_isWithin_14 rfl rfl rfl ?_
  refine z_lmul X dX5_isWithin_17 ?_
  refine z_lcmp_lt (tgt := 50) X dX5_isWithin_18 dX5_isWithin_19 (by decide) (fun c18 => ?_) (fun c18 => ?_)
  · replace h := zif_t h c18
    exact z_at (pc2 := 50) (lv2 := []) (st2 := []) (ws2 := [wX5 (zcT C) aO sO, wX4 (zcT C) aq1 sq1]) rfl rfl rfl [] rfl (bX5_isWithin_50 X hQ  h)
  · replace h := zif_f h c18
    refine z_aload_n X dX5_isWithin_22 1 rfl ?_
    refine z_iload_n X dX5_isWithin_23 2 rfl ?_
    obtain ⟨o24, ho24, h⟩ := zbind_of h
    refine z_callVi (st := []) (ws2 := [wX5 (zcT C) aO sO, wX4 (zcT C) aq1 sq1]) X (metX5_hasGreatest (zcl C) (zcD C) (zcT C) aO ho24) zmX5_hasGreatest zw700 dX5_isWithin_24 0 0 6 rfl rfl rfl rfl [0] rfl rfl [] rfl (by decide) trivial rfl rfl rfl (Nat.le_of_ble_eq_true rfl) rfl rfl ⟨Nat.le_of_ble_eq_true rfl, Nat.le_of_ble_eq_true rfl⟩ ⟨Nat.le_of_ble_eq_true rfl, Nat.le_of_ble_eq_true rfl⟩ ?_
    refine z_if_eq (tgt := 46) X dX5_isWithin_27 (by decide) (fun c27 => ?_) (fun c27 => ?_)
    · replace h := zif_t h c27
      exact z_at (pc2 := 46) (lv2 := []) (st2 := []) (ws2 := [wX5 (zcT C) aO sO, wX4 (zcT C) aq1 sq1]) rfl rfl rfl [] rfl (bX5_isWithin_46 X hQ  h)
    · replace h := zif_f h c27
      refine z_lload_n X dX5_isWithin_30 0 rfl ?_
      refine z_aload_n X dX5_isWithin_31 1 rfl ?_
      refine z_iload_n X dX5_isWithin_32 2 rfl ?_
      obtain ⟨o33, ho33, h⟩ := zbind_of h
      refine z_callVi (st := [.long o2]) (ws2 := [wX5 (zcT C) aO sO, wX4 (zcT C) aq1 sq1]) X (metX5_greatestOf (zcl C) (zcD C) (zcT C) aO ho33) zmX5_greatestOf zw540 dX5_isWithin_33 0 0 6 rfl rfl rfl rfl [0] rfl rfl [] rfl (by decide) trivial rfl rfl rfl (Nat.le_of_ble_eq_true rfl) rfl rfl ⟨Nat.le_of_ble_eq_true rfl, Nat.le_of_ble_eq_true rfl⟩ ⟨Nat.le_of_ble_eq_true rfl, Nat.le_of_ble_eq_true rfl⟩ ?_
      refine z_i2l X dX5_isWithin_36 ?_
      refine z_aload_n X dX5_isWithin_37 3 rfl ?_
      refine z_getN (v := .long (zgl sq1 1)) X 1 0 5 1 ziX4 rfl (by decide) zw224 rfl dX5_isWithin_38 rfl rfl rfl ?_
      refine z_lmul X dX5_isWithin_41 ?_
      refine z_lcmp_gt (tgt := 50) X dX5_isWithin_42 dX5_isWithin_43 (by decide) (fun c42 => ?_) (fun c42 => ?_)
      · replace h := zif_t h c42
        exact z_at (pc2 := 50) (lv2 := []) (st2 := []) (ws2 := [wX5 (zcT C) aO sO, wX4 (zcT C) aq1 sq1]) rfl rfl rfl [] rfl (bX5_isWithin_50 X hQ  h)
      · replace h := zif_f h c42
        exact z_at (pc2 := 46) (lv2 := []) (st2 := []) (ws2 := [wX5 (zcT C) aO sO, wX4 (zcT C) aq1 sq1]) rfl rfl rfl [] rfl (bX5_isWithin_46 X hQ  h)
theorem metX5_isWithin (l : Launch) (D : va_G) (T : Nat → ClassId) (aO : Nat → Nat) (aq1 : Nat → Nat) {sO : zSt} {sq1 : zSt} {x1 : Int32} {out : Int32} (hf : fX5_isWithin sO sq1 x1 = some out) (sz : Nat) : Met l yX5_isWithin (zws yX5_isWithin cX5_isWithin 5 (some .boolean)) rmX5_isWithin (zPc D T [.ref (aO 0), .int x1, .ref (aq1 0)] [wX5 T aO sO, wX4 T aq1 sq1] sz) (zQi D out [] (zA [] sz)) 0 0 (zA [] sz) :=
  zMet (D := D) (T := T) (av := [.ref (aO 0), .int x1, .ref (aq1 0)]) (ws := fun T => [wX5 T aO sO, wX4 T aq1 sq1]) (wm := fun T => []) (lv0 := [(0, .ref (aO 0)), (1, .int x1), (2, .ref (aq1 0))]) [] (Qc := fun D T A => zQi D out [] A) (by decide +kernel) rfl (Nat.le_of_ble_eq_true rfl) rfl (fun C X hQ => bX5_isWithin_0 X hQ hf) sz
/-- int breakerOf(Tableaufloor$Point); of Tableaufloor$Program -/
abbrev rmX5_breakerOf : Room := { frames := 3, cells := 0, slots := 0, locals := 66 }
def fX5_breakerOf_66 (sO : zSt) (sq1 : zSt) (k31 : Int32 → Option (Int32)) (x2 : Int32) : Option (Int32) :=
  (zlet (x2 + 1) (fun v66 =>
    (k31 v66)))
def fX5_breakerOf_31 (sO : zSt) (sq1 : zSt) : Nat → Int32 → Option (Int32)
  | 0, _ => none
  | n + 1, x2 =>
    (if (zgi sO 9) ≤ x2 then
      some ((100 : Int32))
    else
      ((fX5_isLive sO x2).bind (fun o41 =>
        (if o41 = 0 then
        (fX5_breakerOf_66 sO sq1 (fX5_breakerOf_31 sO sq1 n) x2)
      else
        ((fX5_relationOf sO x2).bind (fun o49 =>
          ((fX5_sideOf sO sq1 x2).bind (fun o55 =>
          ((fX5_allows o49 o55).bind (fun o58 =>
          (if o58 = 0 then
          some (x2)
        else
          (fX5_breakerOf_66 sO sq1 (fX5_breakerOf_31 sO sq1 n) x2))))))))))))
def fX5_breakerOf_2 (sO : zSt) (sq1 : zSt) : Nat → Int32 → Option (Int32)
  | 0, _ => none
  | n + 1, x2 =>
    (if (zgi sO 8) ≤ x2 then
      (fX5_breakerOf_31 sO sq1 6000 (0 : Int32))
    else
      ((fX5_isWithin sO sq1 x2).bind (fun o13 =>
        (if o13 = 0 then
        some ((x2 - (3 : Int32)))
      else
        (zlet (x2 + 1) (fun v23 =>
          (fX5_breakerOf_2 sO sq1 n v23)))))))
def fX5_breakerOf (sO : zSt) (sq1 : zSt) : Option (Int32) :=
  (fX5_breakerOf_2 sO sq1 6000 (0 : Int32))
theorem bX5_breakerOf_66 {C : zCtx} (X : zFx C cX5_breakerOf 3 RX5 rmX5_breakerOf (some .int)) {aO : Nat → Nat} {aq1 : Nat → Nat} {sO : zSt} {sq1 : zSt} {k31 : Int32 → Option (Int32)} {x2 : Int32} {out : Int32} (hQ : zHi C out [] 0 0) (hk31 : ∀ (x2 : Int32), k31 x2 = some out → zG C 3 [] 0 0 [wX5 (zcT C) aO sO, wX4 (zcT C) aq1 sq1] 31 [(0, .ref (aO 0)), (1, .ref (aq1 0)), (2, .int x2)] []) (h : fX5_breakerOf_66 sO sq1 k31 x2 = some out) : zG C 3 [] 0 0 [wX5 (zcT C) aO sO, wX4 (zcT C) aq1 sq1] 66 [(0, .ref (aO 0)), (1, .ref (aq1 0)), (2, .int x2)] [] := by
  unfold fX5_breakerOf_66 at h
  obtain ⟨v66, ev66, h⟩ := zlet_of h
  refine z_iinc (v := v66) (lv2 := [(2, .int v66), (0, .ref (aO 0)), (1, .ref (aq1 0))]) X dX5_breakerOf_66 (k := 2) rfl (by rw [ev66]; rfl) (by decide) rfl ?_
  refine z_goto (tgt := 31) X dX5_breakerOf_69 (by decide) ?_
  exact z_at (pc2 := 31) (lv2 := [(0, .ref (aO 0)), (1, .ref (aq1 0)), (2, .int v66)]) (st2 := []) (ws2 := [wX5 (zcT C) aO sO, wX4 (zcT C) aq1 sq1]) rfl rfl rfl [1, 2, 0] rfl (hk31 v66 h)
theorem bX5_breakerOf_31 {C : zCtx} (X : zFx C cX5_breakerOf 3 RX5 rmX5_breakerOf (some .int)) {aO : Nat → Nat} {aq1 : Nat → Nat} {sO : zSt} {sq1 : zSt} {out : Int32} (hQ : zHi C out [] 0 0) : ∀ (n : Nat) (x2 : Int32), fX5_breakerOf_31 sO sq1 n x2 = some out → zG C 3 [] 0 0 [wX5 (zcT C) aO sO, wX4 (zcT C) aq1 sq1] 31 [(0, .ref (aO 0)), (1, .ref (aq1 0)), (2, .int x2)] [] := by
  intro n
  induction n with
  | zero =>
    intro x2 h
    rw [fX5_breakerOf_31] at h
    exact zno h
  | succ n ih =>
    intro x2 h
    rw [fX5_breakerOf_31] at h
    refine z_iload_n X dX5_breakerOf_31 2 rfl ?_
    refine z_aload_n X dX5_breakerOf_32 0 rfl ?_
    refine z_get (v := .int (zgi sO 9)) X 0 0 6 9 ziX5 rfl (by decide) zw65 rfl dX5_breakerOf_33 rfl rfl rfl ?_
    refine z_icmp_ge (tgt := 72) X dX5_breakerOf_36 (by decide) (fun c36 => ?_) (fun c36 => ?_)
    · replace h := zif_t h c36
      refine z_bipush (v := (100 : Int32)) X dX5_breakerOf_72 rfl ?_
      cases h
      exact z_iret X hQ dX5_breakerOf_74 rfl [] rfl (by decide) (by decide)
    · replace h := zif_f h c36
      refine z_aload_n X dX5_breakerOf_39 0 rfl ?_
      refine z_iload_n X dX5_breakerOf_40 2 rfl ?_
      obtain ⟨o41, ho41, h⟩ := zbind_of h
      refine z_callVi (st := []) (ws2 := [wX5 (zcT C) aO sO, wX4 (zcT C) aq1 sq1]) X (metX5_isLive (zcl C) (zcD C) (zcT C) aO ho41) zmX5_isLive zw701 dX5_breakerOf_41 0 0 6 rfl rfl rfl rfl [0] rfl rfl [] rfl (by decide) trivial rfl rfl rfl (Nat.le_of_ble_eq_true rfl) rfl rfl ⟨Nat.le_of_ble_eq_true rfl, Nat.le_of_ble_eq_true rfl⟩ ⟨Nat.le_of_ble_eq_true rfl, Nat.le_of_ble_eq_true rfl⟩ ?_
      refine z_if_eq (tgt := 66) X dX5_breakerOf_44 (by decide) (fun c44 => ?_) (fun c44 => ?_)
      · replace h := zif_t h c44
        exact z_at (pc2 := 66) (lv2 := [(0, .ref (aO 0)), (1, .ref (aq1 0)), (2, .int x2)]) (st2 := []) (ws2 := [wX5 (zcT C) aO sO, wX4 (zcT C) aq1 sq1]) rfl rfl rfl [0, 1, 2] rfl (bX5_breakerOf_66 X hQ ih h)
      · replace h := zif_f h c44
        refine z_aload_n X dX5_breakerOf_47 0 rfl ?_
        refine z_iload_n X dX5_breakerOf_48 2 rfl ?_
        obtain ⟨o49, ho49, h⟩ := zbind_of h
        refine z_callVi (st := []) (ws2 := [wX5 (zcT C) aO sO, wX4 (zcT C) aq1 sq1]) X (metX5_relationOf (zcl C) (zcD C) (zcT C) aO ho49) zmX5_relationOf zw702 dX5_breakerOf_49 0 0 6 rfl rfl rfl rfl [0] rfl rfl [] rfl (by decide) trivial rfl rfl rfl (Nat.le_of_ble_eq_true rfl) rfl rfl ⟨Nat.le_of_ble_eq_true rfl, Nat.le_of_ble_eq_true rfl⟩ ⟨Nat.le_of_ble_eq_true rfl, Nat.le_of_ble_eq_true rfl⟩ ?_
        refine z_aload_n X dX5_breakerOf_52 0 rfl ?_
        refine z_iload_n X dX5_breakerOf_53 2 rfl ?_
        refine z_aload_n X dX5_breakerOf_54 1 rfl ?_
        obtain ⟨o55, ho55, h⟩ := zbind_of h
        refine z_callVi (st := [.int o49]) (ws2 := [wX5 (zcT C) aO sO, wX4 (zcT C) aq1 sq1]) X (metX5_sideOf (zcl C) (zcD C) (zcT C) aO aq1 ho55) zmX5_sideOf zw703 dX5_breakerOf_55 0 0 6 rfl rfl rfl rfl [0, 1] rfl rfl [] rfl (by decide) trivial rfl rfl rfl (Nat.le_of_ble_eq_true rfl) rfl rfl ⟨Nat.le_of_ble_eq_true rfl, Nat.le_of_ble_eq_true rfl⟩ ⟨Nat.le_of_ble_eq_true rfl, Nat.le_of_ble_eq_true rfl⟩ ?_
        obtain ⟨o58, ho58, h⟩ := zbind_of h
        refine z_callSi (st := []) (ws2 := [wX5 (zcT C) aO sO, wX4 (zcT C) aq1 sq1]) X (metX5_allows (zcl C) (zcD C) (zcT C)  ho58) zmX5_allows zw712 dX5_breakerOf_58 [] rfl rfl [] rfl (by decide) trivial rfl rfl rfl (Nat.le_of_ble_eq_true rfl) rfl rfl ⟨Nat.le_of_ble_eq_true rfl, Nat.le_of_ble_eq_true rfl⟩ ⟨Nat.le_of_ble_eq_true rfl, Nat.le_of_ble_eq_true rfl⟩ ?_
        refine z_if_ne (tgt := 66) X dX5_breakerOf_61 (by decide) (fun c61 => ?_) (fun c61 => ?_)
        · replace h := zif_f h c61
          exact z_at (pc2 := 66) (lv2 := [(0, .ref (aO 0)), (1, .ref (aq1 0)), (2, .int x2)]) (st2 := []) (ws2 := [wX5 (zcT C) aO sO, wX4 (zcT C) aq1 sq1]) rfl rfl rfl [0, 1, 2] rfl (bX5_breakerOf_66 X hQ ih h)
        · replace h := zif_t h c61
          refine z_iload_n X dX5_breakerOf_64 2 rfl ?_
          cases h
          exact z_iret X hQ dX5_breakerOf_65 rfl [] rfl (by decide) (by decide)
theorem bX5_breakerOf_2 {C : zCtx} (X : zFx C cX5_breakerOf 3 RX5 rmX5_breakerOf (some .int)) {aO : Nat → Nat} {aq1 : Nat → Nat} {sO : zSt} {sq1 : zSt} {out : Int32} (hQ : zHi C out [] 0 0) : ∀ (n : Nat) (x2 : Int32), fX5_breakerOf_2 sO sq1 n x2 = some out → zG C 3 [] 0 0 [wX5 (zcT C) aO sO, wX4 (zcT C) aq1 sq1] 2 [(0, .ref (aO 0)), (1, .ref (aq1 0)), (2, .int x2)] [] := by
  intro n
  induction n with
  | zero =>
    intro x2 h
    rw [fX5_breakerOf_2] at h
    exact zno h
  | succ n ih =>
    intro x2 h
    rw [fX5_breakerOf_2] at h
    refine z_iload_n X dX5_breakerOf_2 2 rfl ?_
    refine z_aload_n X dX5_breakerOf_3 0 rfl ?_
    refine z_get (v := .int (zgi sO 8)) X 0 0 6 8 ziX5 rfl (by decide) zw62 rfl dX5_breakerOf_4 rfl rfl rfl ?_
    refine z_icmp_ge (tgt := 29) X dX5_breakerOf_7 (by decide) (fun c7 => ?_) (fun c7 => ?_)
    · replace h := zif_t h c7
      refine z_iconst (v := (0 : Int32)) X dX5_breakerOf_29 rfl ?_
      refine z_istore_n (lv2 := [(2, .int (0 : Int32)), (0, .ref (aO 0)), (1, .ref (aq1 0))]) X dX5_breakerOf_30 rfl (by decide) rfl ?_
      exact z_at (pc2 := 31) (lv2 := [(0, .ref (aO 0)), (1, .ref (aq1 0)), (2, .int (0 : Int32))]) (st2 := []) (ws2 := [wX5 (zcT C) aO sO, wX4 (zcT C) aq1 sq1]) rfl rfl rfl [1, 2, 0] rfl (bX5_breakerOf_31 X hQ  6000 (0 : Int32) h)
    · replace h := zif_f h c7
      refine z_aload_n X dX5_breakerOf_10 0 rfl ?_
      refine z_iload_n X dX5_breakerOf_11 2 rfl ?_
      refine z_aload_n X dX5_breakerOf_12 1 rfl ?_
      obtain ⟨o13, ho13, h⟩ := zbind_of h
      refine z_callVi (st := []) (ws2 := [wX5 (zcT C) aO sO, wX4 (zcT C) aq1 sq1]) X (metX5_isWithin (zcl C) (zcD C) (zcT C) aO aq1 ho13) zmX5_isWithin zw691 dX5_breakerOf_13 0 0 6 rfl rfl rfl rfl [0, 1] rfl rfl [] rfl (by decide) trivial rfl rfl rfl (Nat.le_of_ble_eq_true rfl) rfl rfl ⟨Nat.le_of_ble_eq_true rfl, Nat.le_of_ble_eq_true rfl⟩ ⟨Nat.le_of_ble_eq_true rfl, Nat.le_of_ble_eq_true rfl⟩ ?_
      refine z_if_ne (tgt := 23) X dX5_breakerOf_16 (by decide) (fun c16 => ?_) (fun c16 => ?_)
      · replace h := zif_f h c16
        obtain ⟨v23, ev23, h⟩ := zlet_of h
        refine z_iinc (v := v23) (lv2 := [(2, .int v23), (0, .ref (aO 0)), (1, .ref (aq1 0))]) X dX5_breakerOf_23 (k := 2) rfl (by rw [ev23]; rfl) (by decide) rfl ?_
        refine z_goto (tgt := 2) X dX5_breakerOf_26 (by decide) ?_
        exact z_at (pc2 := 2) (lv2 := [(0, .ref (aO 0)), (1, .ref (aq1 0)), (2, .int v23)]) (st2 := []) (ws2 := [wX5 (zcT C) aO sO, wX4 (zcT C) aq1 sq1]) rfl rfl rfl [1, 2, 0] rfl (ih v23 h)
      · replace h := zif_t h c16
        refine z_iload_n X dX5_breakerOf_19 2 rfl ?_
        refine z_iconst (v := (3 : Int32)) X dX5_breakerOf_20 rfl ?_
        refine z_isub X dX5_breakerOf_21 ?_
        cases h
        exact z_iret X hQ dX5_breakerOf_22 rfl [] rfl (by decide) (by decide)
theorem bX5_breakerOf_0 {C : zCtx} (X : zFx C cX5_breakerOf 3 RX5 rmX5_breakerOf (some .int)) {aO : Nat → Nat} {aq1 : Nat → Nat} {sO : zSt} {sq1 : zSt} {out : Int32} (hQ : zHi C out [] 0 0) (h : fX5_breakerOf sO sq1 = some out) : zG C 3 [] 0 0 [wX5 (zcT C) aO sO, wX4 (zcT C) aq1 sq1] 0 [(0, .ref (aO 0)), (1, .ref (aq1 0))] [] := by
  unfold fX5_breakerOf at h
  refine z_iconst (v := (0 : Int32)) X dX5_breakerOf_0 rfl ?_
  refine z_istore_n (lv2 := [(2, .int (0 : Int32)), (0, .ref (aO 0)), (1, .ref (aq1 0))]) X dX5_breakerOf_1 rfl (by decide) rfl ?_
  exact z_at (pc2 := 2) (lv2 := [(0, .ref (aO 0)), (1, .ref (aq1 0)), (2, .int (0 : Int32))]) (st2 := []) (ws2 := [wX5 (zcT C) aO sO, wX4 (zcT C) aq1 sq1]) rfl rfl rfl [1, 2, 0] rfl (bX5_breakerOf_2 X hQ  6000 (0 : Int32) h)
theorem metX5_breakerOf (l : Launch) (D : va_G) (T : Nat → ClassId) (aO : Nat → Nat) (aq1 : Nat → Nat) {sO : zSt} {sq1 : zSt} {out : Int32} (hf : fX5_breakerOf sO sq1 = some out) (sz : Nat) : Met l yX5_breakerOf (zws yX5_breakerOf cX5_breakerOf 3 (some .int)) rmX5_breakerOf (zPc D T [.ref (aO 0), .ref (aq1 0)] [wX5 T aO sO, wX4 T aq1 sq1] sz) (zQi D out [] (zA [] sz)) 0 0 (zA [] sz) :=
  zMet (D := D) (T := T) (av := [.ref (aO 0), .ref (aq1 0)]) (ws := fun T => [wX5 T aO sO, wX4 T aq1 sq1]) (wm := fun T => []) (lv0 := [(0, .ref (aO 0)), (1, .ref (aq1 0))]) [] (Qc := fun D T A => zQi D out [] A) (by decide +kernel) rfl (Nat.le_of_ble_eq_true rfl) rfl (fun C X hQ => bX5_breakerOf_0 X hQ hf) sz
/-- int tightRows(Tableaufloor$Point); of Tableaufloor$Program -/
abbrev rmX5_tightRows : Room := { frames := 2, cells := 0, slots := 0, locals := 48 }
def fX5_tightRows_32 (sO : zSt) (sq1 : zSt) (k4 : Int32 → Int32 → Option (Int32)) (x2 : Int32) (x3 : Int32) : Option (Int32) :=
  (zlet (x3 + 1) (fun v32 =>
    (k4 x2 v32)))
def fX5_tightRows_4 (sO : zSt) (sq1 : zSt) : Nat → Int32 → Int32 → Option (Int32)
  | 0, _, _ => none
  | n + 1, x2, x3 =>
    (if (zgi sO 9) ≤ x3 then
      some (x2)
    else
      ((fX5_isLive sO x3).bind (fun o14 =>
        (if o14 = 0 then
        (fX5_tightRows_32 sO sq1 (fX5_tightRows_4 sO sq1 n) x2 x3)
      else
        ((fX5_sideOf sO sq1 x3).bind (fun o23 =>
          (if o23 = 0 then
          (zlet (x2 + 1) (fun v29 =>
            (fX5_tightRows_32 sO sq1 (fX5_tightRows_4 sO sq1 n) v29 x3)))
        else
          (fX5_tightRows_32 sO sq1 (fX5_tightRows_4 sO sq1 n) x2 x3))))))))
def fX5_tightRows (sO : zSt) (sq1 : zSt) : Option (Int32) :=
  (fX5_tightRows_4 sO sq1 6000 (0 : Int32) (0 : Int32))
theorem bX5_tightRows_32 {C : zCtx} (X : zFx C cX5_tightRows 4 RX5 rmX5_tightRows (some .int)) {aO : Nat → Nat} {aq1 : Nat → Nat} {sO : zSt} {sq1 : zSt} {k4 : Int32 → Int32 → Option (Int32)} {x2 : Int32} {x3 : Int32} {out : Int32} (hQ : zHi C out [] 0 0) (hk4 : ∀ (x2 : Int32) (x3 : Int32), k4 x2 x3 = some out → zG C 4 [] 0 0 [wX5 (zcT C) aO sO, wX4 (zcT C) aq1 sq1] 4 [(0, .ref (aO 0)), (1, .ref (aq1 0)), (2, .int x2), (3, .int x3)] []) (h : fX5_tightRows_32 sO sq1 k4 x2 x3 = some out) : zG C 4 [] 0 0 [wX5 (zcT C) aO sO, wX4 (zcT C) aq1 sq1] 32 [(0, .ref (aO 0)), (1, .ref (aq1 0)), (2, .int x2), (3, .int x3)] [] := by
  unfold fX5_tightRows_32 at h
  obtain ⟨v32, ev32, h⟩ := zlet_of h
  refine z_iinc (v := v32) (lv2 := [(3, .int v32), (0, .ref (aO 0)), (1, .ref (aq1 0)), (2, .int x2)]) X dX5_tightRows_32 (k := 3) rfl (by rw [ev32]; rfl) (by decide) rfl ?_
  refine z_goto (tgt := 4) X dX5_tightRows_35 (by decide) ?_
  exact z_at (pc2 := 4) (lv2 := [(0, .ref (aO 0)), (1, .ref (aq1 0)), (2, .int x2), (3, .int v32)]) (st2 := []) (ws2 := [wX5 (zcT C) aO sO, wX4 (zcT C) aq1 sq1]) rfl rfl rfl [1, 2, 3, 0] rfl (hk4 x2 v32 h)
theorem bX5_tightRows_4 {C : zCtx} (X : zFx C cX5_tightRows 4 RX5 rmX5_tightRows (some .int)) {aO : Nat → Nat} {aq1 : Nat → Nat} {sO : zSt} {sq1 : zSt} {out : Int32} (hQ : zHi C out [] 0 0) : ∀ (n : Nat) (x2 : Int32) (x3 : Int32), fX5_tightRows_4 sO sq1 n x2 x3 = some out → zG C 4 [] 0 0 [wX5 (zcT C) aO sO, wX4 (zcT C) aq1 sq1] 4 [(0, .ref (aO 0)), (1, .ref (aq1 0)), (2, .int x2), (3, .int x3)] [] := by
  intro n
  induction n with
  | zero =>
    intro x2 x3 h
    rw [fX5_tightRows_4] at h
    exact zno h
  | succ n ih =>
    intro x2 x3 h
    rw [fX5_tightRows_4] at h
    refine z_iload_n X dX5_tightRows_4 3 rfl ?_
    refine z_aload_n X dX5_tightRows_5 0 rfl ?_
    refine z_get (v := .int (zgi sO 9)) X 0 0 6 9 ziX5 rfl (by decide) zw65 rfl dX5_tightRows_6 rfl rfl rfl ?_
    refine z_icmp_ge (tgt := 38) X dX5_tightRows_9 (by decide) (fun c9 => ?_) (fun c9 => ?_)
    · replace h := zif_t h c9
      refine z_iload_n X dX5_tightRows_38 2 rfl ?_
      cases h
      exact z_iret X hQ dX5_tightRows_39 rfl [] rfl (by decide) (by decide)
    · replace h := zif_f h c9
      refine z_aload_n X dX5_tightRows_12 0 rfl ?_
      refine z_iload_n X dX5_tightRows_13 3 rfl ?_
      obtain ⟨o14, ho14, h⟩ := zbind_of h
      refine z_callVi (st := []) (ws2 := [wX5 (zcT C) aO sO, wX4 (zcT C) aq1 sq1]) X (metX5_isLive (zcl C) (zcD C) (zcT C) aO ho14) zmX5_isLive zw701 dX5_tightRows_14 0 0 6 rfl rfl rfl rfl [0] rfl rfl [] rfl (by decide) trivial rfl rfl rfl (Nat.le_of_ble_eq_true rfl) rfl rfl ⟨Nat.le_of_ble_eq_true rfl, Nat.le_of_ble_eq_true rfl⟩ ⟨Nat.le_of_ble_eq_true rfl, Nat.le_of_ble_eq_true rfl⟩ ?_
      refine z_if_eq (tgt := 32) X dX5_tightRows_17 (by decide) (fun c17 => ?_) (fun c17 => ?_)
      · replace h := zif_t h c17
        exact z_at (pc2 := 32) (lv2 := [(0, .ref (aO 0)), (1, .ref (aq1 0)), (2, .int x2), (3, .int x3)]) (st2 := []) (ws2 := [wX5 (zcT C) aO sO, wX4 (zcT C) aq1 sq1]) rfl rfl rfl [0, 1, 2, 3] rfl (bX5_tightRows_32 X hQ ih h)
      · replace h := zif_f h c17
        refine z_aload_n X dX5_tightRows_20 0 rfl ?_
        refine z_iload_n X dX5_tightRows_21 3 rfl ?_
        refine z_aload_n X dX5_tightRows_22 1 rfl ?_
        obtain ⟨o23, ho23, h⟩ := zbind_of h
        refine z_callVi (st := []) (ws2 := [wX5 (zcT C) aO sO, wX4 (zcT C) aq1 sq1]) X (metX5_sideOf (zcl C) (zcD C) (zcT C) aO aq1 ho23) zmX5_sideOf zw703 dX5_tightRows_23 0 0 6 rfl rfl rfl rfl [0, 1] rfl rfl [] rfl (by decide) trivial rfl rfl rfl (Nat.le_of_ble_eq_true rfl) rfl rfl ⟨Nat.le_of_ble_eq_true rfl, Nat.le_of_ble_eq_true rfl⟩ ⟨Nat.le_of_ble_eq_true rfl, Nat.le_of_ble_eq_true rfl⟩ ?_
        refine z_if_ne (tgt := 32) X dX5_tightRows_26 (by decide) (fun c26 => ?_) (fun c26 => ?_)
        · replace h := zif_f h c26
          exact z_at (pc2 := 32) (lv2 := [(0, .ref (aO 0)), (1, .ref (aq1 0)), (2, .int x2), (3, .int x3)]) (st2 := []) (ws2 := [wX5 (zcT C) aO sO, wX4 (zcT C) aq1 sq1]) rfl rfl rfl [0, 1, 2, 3] rfl (bX5_tightRows_32 X hQ ih h)
        · replace h := zif_t h c26
          obtain ⟨v29, ev29, h⟩ := zlet_of h
          refine z_iinc (v := v29) (lv2 := [(2, .int v29), (0, .ref (aO 0)), (1, .ref (aq1 0)), (3, .int x3)]) X dX5_tightRows_29 (k := 2) rfl (by rw [ev29]; rfl) (by decide) rfl ?_
          exact z_at (pc2 := 32) (lv2 := [(0, .ref (aO 0)), (1, .ref (aq1 0)), (2, .int v29), (3, .int x3)]) (st2 := []) (ws2 := [wX5 (zcT C) aO sO, wX4 (zcT C) aq1 sq1]) rfl rfl rfl [1, 2, 0, 3] rfl (bX5_tightRows_32 X hQ ih h)
theorem bX5_tightRows_0 {C : zCtx} (X : zFx C cX5_tightRows 4 RX5 rmX5_tightRows (some .int)) {aO : Nat → Nat} {aq1 : Nat → Nat} {sO : zSt} {sq1 : zSt} {out : Int32} (hQ : zHi C out [] 0 0) (h : fX5_tightRows sO sq1 = some out) : zG C 4 [] 0 0 [wX5 (zcT C) aO sO, wX4 (zcT C) aq1 sq1] 0 [(0, .ref (aO 0)), (1, .ref (aq1 0))] [] := by
  unfold fX5_tightRows at h
  refine z_iconst (v := (0 : Int32)) X dX5_tightRows_0 rfl ?_
  refine z_istore_n (lv2 := [(2, .int (0 : Int32)), (0, .ref (aO 0)), (1, .ref (aq1 0))]) X dX5_tightRows_1 rfl (by decide) rfl ?_
  refine z_iconst (v := (0 : Int32)) X dX5_tightRows_2 rfl ?_
  refine z_istore_n (lv2 := [(3, .int (0 : Int32)), (2, .int (0 : Int32)), (0, .ref (aO 0)), (1, .ref (aq1 0))]) X dX5_tightRows_3 rfl (by decide) rfl ?_
  exact z_at (pc2 := 4) (lv2 := [(0, .ref (aO 0)), (1, .ref (aq1 0)), (2, .int (0 : Int32)), (3, .int (0 : Int32))]) (st2 := []) (ws2 := [wX5 (zcT C) aO sO, wX4 (zcT C) aq1 sq1]) rfl rfl rfl [2, 3, 1, 0] rfl (bX5_tightRows_4 X hQ  6000 (0 : Int32) (0 : Int32) h)
theorem metX5_tightRows (l : Launch) (D : va_G) (T : Nat → ClassId) (aO : Nat → Nat) (aq1 : Nat → Nat) {sO : zSt} {sq1 : zSt} {out : Int32} (hf : fX5_tightRows sO sq1 = some out) (sz : Nat) : Met l yX5_tightRows (zws yX5_tightRows cX5_tightRows 4 (some .int)) rmX5_tightRows (zPc D T [.ref (aO 0), .ref (aq1 0)] [wX5 T aO sO, wX4 T aq1 sq1] sz) (zQi D out [] (zA [] sz)) 0 0 (zA [] sz) :=
  zMet (D := D) (T := T) (av := [.ref (aO 0), .ref (aq1 0)]) (ws := fun T => [wX5 T aO sO, wX4 T aq1 sq1]) (wm := fun T => []) (lv0 := [(0, .ref (aO 0)), (1, .ref (aq1 0))]) [] (Qc := fun D T A => zQi D out [] A) (by decide +kernel) rfl (Nat.le_of_ble_eq_true rfl) rfl (fun C X hQ => bX5_tightRows_0 X hQ hf) sz
/-- int tightBounds(Tableaufloor$Point); of Tableaufloor$Program -/
abbrev rmX5_tightBounds : Room := { frames := 2, cells := 0, slots := 0, locals := 42 }
def fX5_tightBounds_67 (sO : zSt) (sq1 : zSt) (k4 : Int32 → Int32 → Option (Int32)) (x2 : Int32) (x3 : Int32) : Option (Int32) :=
  (zlet (x3 + 1) (fun v67 =>
    (k4 x2 v67)))
def fX5_tightBounds_39 (sO : zSt) (sq1 : zSt) (k4 : Int32 → Int32 → Option (Int32)) (x2 : Int32) (x3 : Int32) (x4 : Int64) : Option (Int32) :=
  ((fX5_hasGreatest sO x3).bind (fun o41 =>
    (if o41 = 0 then
    (fX5_tightBounds_67 sO sq1 k4 x2 x3)
  else
    ((fX5_greatestOf sO x3).bind (fun o51 =>
      (if x4 = (((o51).toInt64) * (zgl sq1 1)) then
      (zlet (x2 + 1) (fun v64 =>
        (fX5_tightBounds_67 sO sq1 k4 v64 x3)))
    else
      (fX5_tightBounds_67 sO sq1 k4 x2 x3)))))))
def fX5_tightBounds_4 (sO : zSt) (sq1 : zSt) : Nat → Int32 → Int32 → Option (Int32)
  | 0, _, _ => none
  | n + 1, x2, x3 =>
    (if (zgi sO 8) ≤ x3 then
      some (x2)
    else
      ((fX4_topOf sq1 x3).bind (fun o14 =>
        ((fX5_leastOf sO x3).bind (fun o23 =>
        (if o14 = (((o23).toInt64) * (zgl sq1 1)) then
        (zlet (x2 + 1) (fun v36 =>
          (fX5_tightBounds_39 sO sq1 (fX5_tightBounds_4 sO sq1 n) v36 x3 o14)))
      else
        (fX5_tightBounds_39 sO sq1 (fX5_tightBounds_4 sO sq1 n) x2 x3 o14)))))))
def fX5_tightBounds (sO : zSt) (sq1 : zSt) : Option (Int32) :=
  (fX5_tightBounds_4 sO sq1 6000 (0 : Int32) (0 : Int32))
theorem bX5_tightBounds_67 {C : zCtx} (X : zFx C cX5_tightBounds 6 RX5 rmX5_tightBounds (some .int)) {aO : Nat → Nat} {aq1 : Nat → Nat} {sO : zSt} {sq1 : zSt} {k4 : Int32 → Int32 → Option (Int32)} {x2 : Int32} {x3 : Int32} {out : Int32} (hQ : zHi C out [] 0 0) (hk4 : ∀ (x2 : Int32) (x3 : Int32), k4 x2 x3 = some out → zG C 6 [] 0 0 [wX5 (zcT C) aO sO, wX4 (zcT C) aq1 sq1] 4 [(0, .ref (aO 0)), (1, .ref (aq1 0)), (2, .int x2), (3, .int x3)] []) (h : fX5_tightBounds_67 sO sq1 k4 x2 x3 = some out) : zG C 6 [] 0 0 [wX5 (zcT C) aO sO, wX4 (zcT C) aq1 sq1] 67 [(0, .ref (aO 0)), (1, .ref (aq1 0)), (2, .int x2), (3, .int x3)] [] := by
  unfold fX5_tightBounds_67 at h
  obtain ⟨v67, ev67, h⟩ := zlet_of h
  refine z_iinc (v := v67) (lv2 := [(3, .int v67), (0, .ref (aO 0)), (1, .ref (aq1 0)), (2, .int x2)]) X dX5_tightBounds_67 (k := 3) rfl (by rw [ev67]; rfl) (by decide) rfl ?_
  refine z_goto (tgt := 4) X dX5_tightBounds_70 (by decide) ?_
  exact z_at (pc2 := 4) (lv2 := [(0, .ref (aO 0)), (1, .ref (aq1 0)), (2, .int x2), (3, .int v67)]) (st2 := []) (ws2 := [wX5 (zcT C) aO sO, wX4 (zcT C) aq1 sq1]) rfl rfl rfl [1, 2, 3, 0] rfl (hk4 x2 v67 h)
theorem bX5_tightBounds_39 {C : zCtx} (X : zFx C cX5_tightBounds 6 RX5 rmX5_tightBounds (some .int)) {aO : Nat → Nat} {aq1 : Nat → Nat} {sO : zSt} {sq1 : zSt} {k4 : Int32 → Int32 → Option (Int32)} {x2 : Int32} {x3 : Int32} {x4 : Int64} {out : Int32} (hQ : zHi C out [] 0 0) (hk4 : ∀ (x2 : Int32) (x3 : Int32), k4 x2 x3 = some out → zG C 6 [] 0 0 [wX5 (zcT C) aO sO, wX4 (zcT C) aq1 sq1] 4 [(0, .ref (aO 0)), (1, .ref (aq1 0)), (2, .int x2), (3, .int x3)] []) (h : fX5_tightBounds_39 sO sq1 k4 x2 x3 x4 = some out) : zG C 6 [] 0 0 [wX5 (zcT C) aO sO, wX4 (zcT C) aq1 sq1] 39 [(0, .ref (aO 0)), (1, .ref (aq1 0)), (2, .int x2), (3, .int x3), (4, .long x4)] [] := by
  unfold fX5_tightBounds_39 at h
  refine z_aload_n X dX5_tightBounds_39 0 rfl ?_
  refine z_iload_n X dX5_tightBounds_40 3 rfl ?_
  obtain ⟨o41, ho41, h⟩ := zbind_of h
  refine z_callVi (st := []) (ws2 := [wX5 (zcT C) aO sO, wX4 (zcT C) aq1 sq1]) X (metX5_hasGreatest (zcl C) (zcD C) (zcT C) aO ho41) zmX5_hasGreatest zw700 dX5_tightBounds_41 0 0 6 rfl rfl rfl rfl [0] rfl rfl [] rfl (by decide) trivial rfl rfl rfl (Nat.le_of_ble_eq_true rfl) rfl rfl ⟨Nat.le_of_ble_eq_true rfl, Nat.le_of_ble_eq_true rfl⟩ ⟨Nat.le_of_ble_eq_true rfl, Nat.le_of_ble_eq_true rfl⟩ ?_
  refine z_if_eq (tgt := 67) X dX5_tightBounds_44 (by decide) (fun c44 => ?_) (fun c44 => ?_)
  · replace h := zif_t h c44
    exact z_at (pc2 := 67) (lv2 := [(0, .ref (aO 0)), (1, .ref (aq1 0)), (2, .int x2), (3, .int x3)]) (st2 := []) (ws2 := [wX5 (zcT C) aO sO, wX4 (zcT C) aq1 sq1]) rfl rfl rfl [0, 1, 2, 3] rfl (bX5_tightBounds_67 X hQ hk4 h)
  · replace h := zif_f h c44
    refine z_lload X dX5_tightBounds_47 4 rfl ?_
    refine z_aload_n X dX5_tightBounds_49 0 rfl ?_
    refine z_iload_n X dX5_tightBounds_50 3 rfl ?_
    obtain ⟨o51, ho51, h⟩ := zbind_of h
    refine z_callVi (st := [.long x4]) (ws2 := [wX5 (zcT C) aO sO, wX4 (zcT C) aq1 sq1]) X (metX5_greatestOf (zcl C) (zcD C) (zcT C) aO ho51) zmX5_greatestOf zw540 dX5_tightBounds_51 0 0 6 rfl rfl rfl rfl [0] rfl rfl [] rfl (by decide) trivial rfl rfl rfl (Nat.le_of_ble_eq_true rfl) rfl rfl ⟨Nat.le_of_ble_eq_true rfl, Nat.le_of_ble_eq_true rfl⟩ ⟨Nat.le_of_ble_eq_true rfl, Nat.le_of_ble_eq_true rfl⟩ ?_
    refine z_i2l X dX5_tightBounds_54 ?_
    refine z_aload_n X dX5_tightBounds_55 1 rfl ?_
    refine z_getN (v := .long (zgl sq1 1)) X 1 0 5 1 ziX4 rfl (by decide) zw224 rfl dX5_tightBounds_56 rfl rfl rfl ?_
    refine z_lmul X dX5_tightBounds_59 ?_
    refine z_lcmp_ne (tgt := 67) X dX5_tightBounds_60 dX5_tightBounds_61 (by decide) (fun c60 => ?_) (fun c60 => ?_)
    · replace h := zif_f h c60
      exact z_at (pc2 := 67) (lv2 := [(0, .ref (aO 0)), (1, .ref (aq1 0)), (2, .int x2), (3, .int x3)]) (st2 := []) (ws2 := [wX5 (zcT C) aO sO, wX4 (zcT C) aq1 sq1]) rfl rfl rfl [0, 1, 2, 3] rfl (bX5_tightBounds_67 X hQ hk4 h)
    · replace h := zif_t h c60
      obtain ⟨v64, ev64, h⟩ := zlet_of h
      refine z_iinc (v := v64) (lv2 := [(2, .int v64), (0, .ref (aO 0)), (1, .ref (aq1 0)), (3, .int x3), (4, .long x4)]) X dX5_tightBounds_64 (k := 2) rfl (by rw [ev64]; rfl) (by decide) rfl ?_
      exact z_at (pc2 := 67) (lv2 := [(0, .ref (aO 0)), (1, .ref (aq1 0)), (2, .int v64), (3, .int x3)]) (st2 := []) (ws2 := [wX5 (zcT C) aO sO, wX4 (zcT C) aq1 sq1]) rfl rfl rfl [1, 2, 0, 3] rfl (bX5_tightBounds_67 X hQ hk4 h)
theorem bX5_tightBounds_4 {C : zCtx} (X : zFx C cX5_tightBounds 6 RX5 rmX5_tightBounds (some .int)) {aO : Nat → Nat} {aq1 : Nat → Nat} {sO : zSt} {sq1 : zSt} {out : Int32} (hQ : zHi C out [] 0 0) : ∀ (n : Nat) (x2 : Int32) (x3 : Int32), fX5_tightBounds_4 sO sq1 n x2 x3 = some out → zG C 6 [] 0 0 [wX5 (zcT C) aO sO, wX4 (zcT C) aq1 sq1] 4 [(0, .ref (aO 0)), (1, .ref (aq1 0)), (2, .int x2), (3, .int x3)] [] := by
  intro n
  induction n with
  | zero =>
    intro x2 x3 h
    rw [fX5_tightBounds_4] at h
    exact zno h
  | succ n ih =>
    intro x2 x3 h
    rw [fX5_tightBounds_4] at h
    refine z_iload_n X dX5_tightBounds_4 3 rfl ?_
    refine z_aload_n X dX5_tightBounds_5 0 rfl ?_
    refine z_get (v := .int (zgi sO 8)) X 0 0 6 8 ziX5 rfl (by decide) zw62 rfl dX5_tightBounds_6 rfl rfl rfl ?_
    refine z_icmp_ge (tgt := 73) X dX5_tightBounds_9 (by decide) (fun c9 => ?_) (fun c9 => ?_)
    · replace h := zif_t h c9
      refine z_iload_n X dX5_tightBounds_73 2 rfl ?_
      cases h
      exact z_iret X hQ dX5_tightBounds_74 rfl [] rfl (by decide) (by decide)
    · replace h := zif_f h c9
      refine z_aload_n X dX5_tightBounds_12 1 rfl ?_
      refine z_iload_n X dX5_tightBounds_13 3 rfl ?_
      obtain ⟨o14, ho14, h⟩ := zbind_of h
      refine z_callVl (st := []) (ws2 := [wX5 (zcT C) aO sO, wX4 (zcT C) aq1 sq1]) X (metX4_topOf (zcl C) (zcD C) (zcT C) aq1 ho14) zmX4_topOf zw695 dX5_tightBounds_14 1 0 5 rfl rfl rfl rfl [1] rfl rfl [] rfl (by decide) trivial rfl rfl rfl (Nat.le_of_ble_eq_true rfl) rfl rfl ⟨Nat.le_of_ble_eq_true rfl, Nat.le_of_ble_eq_true rfl⟩ ⟨Nat.le_of_ble_eq_true rfl, Nat.le_of_ble_eq_true rfl⟩ ?_
      refine z_lstore (lv2 := [(4, .long o14), (0, .ref (aO 0)), (1, .ref (aq1 0)), (2, .int x2), (3, .int x3)]) X dX5_tightBounds_17 (by decide) rfl ?_
      refine z_lload X dX5_tightBounds_19 0 rfl ?_
      refine z_aload_n X dX5_tightBounds_21 1 rfl ?_
      refine z_iload_n X dX5_tightBounds_22 4 rfl ?_
      obtain ⟨o23, ho23, h⟩ := zbind_of h
      refine z_callVi (st := [.long o14]) (ws2 := [wX5 (zcT C) aO sO, wX4 (zcT C) aq1 sq1]) X (metX5_leastOf (zcl C) (zcD C) (zcT C) aO ho23) zmX5_leastOf zw699 dX5_tightBounds_23 0 0 6 rfl rfl rfl rfl [0] rfl rfl [] rfl (by decide) trivial rfl rfl rfl (Nat.le_of_ble_eq_true rfl) rfl rfl ⟨Nat.le_of_ble_eq_true rfl, Nat.le_of_ble_eq_true rfl⟩ ⟨Nat.le_of_ble_eq_true rfl, Nat.le_of_ble_eq_true rfl⟩ ?_
      refine z_i2l X dX5_tightBounds_26 ?_
      refine z_aload_n X dX5_tightBounds_27 2 rfl ?_
      refine z_getN (v := .long (zgl sq1 1)) X 1 0 5 1 ziX4 rfl (by decide) zw224 rfl dX5_tightBounds_28 rfl rfl rfl ?_
      refine z_lmul X dX5_tightBounds_31 ?_
      refine z_lcmp_ne (tgt := 39) X dX5_tightBounds_32 dX5_tightBounds_33 (by decide) (fun c32 => ?_) (fun c32 => ?_)
      · replace h := zif_f h c32
        exact z_at (pc2 := 39) (lv2 := [(0, .ref (aO 0)), (1, .ref (aq1 0)), (2, .int x2), (3, .int x3), (4, .long o14)]) (st2 := []) (ws2 := [wX5 (zcT C) aO sO, wX4 (zcT C) aq1 sq1]) rfl rfl rfl [1, 2, 3, 4, 0] rfl (bX5_tightBounds_39 X hQ ih h)
      · replace h := zif_t h c32
        obtain ⟨v36, ev36, h⟩ := zlet_of h
        refine z_iinc (v := v36) (lv2 := [(2, .int v36), (4, .long o14), (0, .ref (aO 0)), (1, .ref (aq1 0)), (3, .int x3)]) X dX5_tightBounds_36 (k := 3) rfl (by rw [ev36]; rfl) (by decide) rfl ?_
        exact z_at (pc2 := 39) (lv2 := [(0, .ref (aO 0)), (1, .ref (aq1 0)), (2, .int v36), (3, .int x3), (4, .long o14)]) (st2 := []) (ws2 := [wX5 (zcT C) aO sO, wX4 (zcT C) aq1 sq1]) rfl rfl rfl [2, 3, 0, 4, 1] rfl (bX5_tightBounds_39 X hQ ih h)
theorem bX5_tightBounds_0 {C : zCtx} (X : zFx C cX5_tightBounds 6 RX5 rmX5_tightBounds (some .int)) {aO : Nat → Nat} {aq1 : Nat → Nat} {sO : zSt} {sq1 : zSt} {out : Int32} (hQ : zHi C out [] 0 0) (h : fX5_tightBounds sO sq1 = some out) : zG C 6 [] 0 0 [wX5 (zcT C) aO sO, wX4 (zcT C) aq1 sq1] 0 [(0, .ref (aO 0)), (1, .ref (aq1 0))] [] := by
  unfold fX5_tightBounds at h
  refine z_iconst (v := (0 : Int32)) X dX5_tightBounds_0 rfl ?_
  refine z_istore_n (lv2 := [(2, .int (0 : Int32)), (0, .ref (aO 0)), (1, .ref (aq1 0))]) X dX5_tightBounds_1 rfl (by decide) rfl ?_
  refine z_iconst (v := (0 : Int32)) X dX5_tightBounds_2 rfl ?_
  refine z_istore_n (lv2 := [(3, .int (0 : Int32)), (2, .int (0 : Int32)), (0, .ref (aO 0)), (1, .ref (aq1 0))]) X dX5_tightBounds_3 rfl (by decide) rfl ?_
  exact z_at (pc2 := 4) (lv2 := [(0, .ref (aO 0)), (1, .ref (aq1 0)), (2, .int (0 : Int32)), (3, .int (0 : Int32))]) (st2 := []) (ws2 := [wX5 (zcT C) aO sO, wX4 (zcT C) aq1 sq1]) rfl rfl rfl [2, 3, 1, 0] rfl (bX5_tightBounds_4 X hQ  6000 (0 : Int32) (0 : Int32) h)
theorem metX5_tightBounds (l : Launch) (D : va_G) (T : Nat → ClassId) (aO : Nat → Nat) (aq1 : Nat → Nat) {sO : zSt} {sq1 : zSt} {out : Int32} (hf : fX5_tightBounds sO sq1 = some out) (sz : Nat) : Met l yX5_tightBounds (zws yX5_tightBounds cX5_tightBounds 6 (some .int)) rmX5_tightBounds (zPc D T [.ref (aO 0), .ref (aq1 0)] [wX5 T aO sO, wX4 T aq1 sq1] sz) (zQi D out [] (zA [] sz)) 0 0 (zA [] sz) :=
  zMet (D := D) (T := T) (av := [.ref (aO 0), .ref (aq1 0)]) (ws := fun T => [wX5 T aO sO, wX4 T aq1 sq1]) (wm := fun T => []) (lv0 := [(0, .ref (aO 0)), (1, .ref (aq1 0))]) [] (Qc := fun D T A => zQi D out [] A) (by decide +kernel) rfl (Nat.le_of_ble_eq_true rfl) rfl (fun C X hQ => bX5_tightBounds_0 X hQ hf) sz
/-- int compareByAims(Tableaufloor$Point, Tableaufloor$Point); of Tableaufloor$Program -/
abbrev rmX5_compareByAims : Room := { frames := 2, cells := 0, slots := 0, locals := 48 }
def fX5_compareByAims_66 (sO : zSt) (sq1 : zSt) (sq2 : zSt) (y0 : Int32) : Option (Int32) :=
  some (y0)
def fX5_compareByAims_2 (sO : zSt) (sq1 : zSt) (sq2 : zSt) : Nat → Int32 → Option (Int32)
  | 0, _ => none
  | n + 1, x3 =>
    (if (zgi sO 11) ≤ x3 then
      some ((0 : Int32))
    else
      ((fX5_aimSum sO sq1 x3).bind (fun o13 =>
        (zlet (o13 * (zgl sq2 1)) (fun v21 =>
        ((fX5_aimSum sO sq2 x3).bind (fun o26 =>
        (zlet (o26 * (zgl sq1 1)) (fun v34 =>
        (if v21 = v34 then
        (zlet (x3 + 1) (fun v67 =>
          (fX5_compareByAims_2 sO sq1 sq2 n v67)))
      else
        (if v21 ≤ v34 then
          ((fX5_directionOf sO x3).bind (fun o62 =>
            (fX5_compareByAims_66 sO sq1 sq2 (-o62))))
        else
          ((fX5_directionOf sO x3).bind (fun o54 =>
            (fX5_compareByAims_66 sO sq1 sq2 o54))))))))))))))
def fX5_compareByAims (sO : zSt) (sq1 : zSt) (sq2 : zSt) : Option (Int32) :=
  (fX5_compareByAims_2 sO sq1 sq2 6000 (0 : Int32))
theorem bX5_compareByAims_66 {C : zCtx} (X : zFx C cX5_compareByAims 8 RX5 rmX5_compareByAims (some .int)) {aO : Nat → Nat} {aq1 : Nat → Nat} {aq2 : Nat → Nat} {sO : zSt} {sq1 : zSt} {sq2 : zSt} {y0 : Int32} {out : Int32} (hQ : zHi C out [] 0 0) (h : fX5_compareByAims_66 sO sq1 sq2 y0 = some out) : zG C 8 [] 0 0 [wX5 (zcT C) aO sO, wX4 (zcT C) aq1 sq1, wX4 (zcT C) aq2 sq2] 66 [] [.int y0] := by
  unfold fX5_compareByAims_66 at h
  cases h
  exact z_iret X hQ dX5_compareByAims_66 rfl [] rfl (by decide) (by decide)
theorem bX5_compareByAims_2 {C : zCtx} (X : zFx C cX5_compareByAims 8 RX5 rmX5_compareByAims (some .int)) {aO : Nat → Nat} {aq1 : Nat → Nat} {aq2 : Nat → Nat} {sO : zSt} {sq1 : zSt} {sq2 : zSt} {out : Int32} (hQ : zHi C out [] 0 0) : ∀ (n : Nat) (x3 : Int32), fX5_compareByAims_2 sO sq1 sq2 n x3 = some out → zG C 8 [] 0 0 [wX5 (zcT C) aO sO, wX4 (zcT C) aq1 sq1, wX4 (zcT C) aq2 sq2] 2 [(0, .ref (aO 0)), (1, .ref (aq1 0)), (2, .ref (aq2 0)), (3, .int x3)] [] := by
  intro n
  induction n with
  | zero =>
    intro x3 h
    rw [fX5_compareByAims_2] at h
    exact zno h
  | succ n ih =>
    intro x3 h
    rw [fX5_compareByAims_2] at h
    refine z_iload_n X dX5_compareByAims_2 3 rfl ?_
    refine z_aload_n X dX5_compareByAims_3 0 rfl ?_
    refine z_get (v := .int (zgi sO 11)) X 0 0 6 11 ziX5 rfl (by decide) zw71 rfl dX5_compareByAims_4 rfl rfl rfl ?_
    refine z_icmp_ge (tgt := 73) X dX5_compareByAims_7 (by decide) (fun c7 => ?_) (fun c7 => ?_)
    · replace h := zif_t h c7
      refine z_iconst (v := (0 : Int32)) X dX5_compareByAims_73 rfl ?_
      cases h
      exact z_iret X hQ dX5_compareByAims_74 rfl [] rfl (by decide) (by decide)
    · replace h := zif_f h c7
      refine z_aload_n X dX5_compareByAims_10 0 rfl ?_
      refine z_iload_n X dX5_compareByAims_11 3 rfl ?_
      refine z_aload_n X dX5_compareByAims_12 1 rfl ?_
      obtain ⟨o13, ho13, h⟩ := zbind_of h
      refine z_callVl (st := []) (ws2 := [wX5 (zcT C) aO sO, wX4 (zcT C) aq1 sq1, wX4 (zcT C) aq2 sq2]) X (metX5_aimSum (zcl C) (zcD C) (zcT C) aO aq1 ho13) zmX5_aimSum zw1157 dX5_compareByAims_13 0 0 6 rfl rfl rfl rfl [0, 1] rfl rfl [] rfl (by decide) trivial rfl rfl rfl (Nat.le_of_ble_eq_true rfl) rfl rfl ⟨Nat.le_of_ble_eq_true rfl, Nat.le_of_ble_eq_true rfl⟩ ⟨Nat.le_of_ble_eq_true rfl, Nat.le_of_ble_eq_true rfl⟩ ?_
      refine z_aload_n X dX5_compareByAims_16 2 rfl ?_
      refine z_getN (v := .long (zgl sq2 1)) X 2 0 5 1 ziX4 rfl (by decide) zw224 rfl dX5_compareByAims_17 rfl rfl rfl ?_
      refine z_lmul X dX5_compareByAims_20 ?_
      obtain ⟨v21, ev21, h⟩ := zlet_of h
      refine z_topl ev21 ?_
      refine z_lstore (lv2 := [(4, .long v21), (0, .ref (aO 0)), (1, .ref (aq1 0)), (2, .ref (aq2 0)), (3, .int x3)]) X dX5_compareByAims_21 (by decide) rfl ?_
      refine z_aload_n X dX5_compareByAims_23 1 rfl ?_
      refine z_iload_n X dX5_compareByAims_24 4 rfl ?_
      refine z_aload_n X dX5_compareByAims_25 3 rfl ?_
      obtain ⟨o26, ho26, h⟩ := zbind_of h
      refine z_callVl (st := []) (ws2 := [wX5 (zcT C) aO sO, wX4 (zcT C) aq1 sq1, wX4 (zcT C) aq2 sq2]) X (metX5_aimSum (zcl C) (zcD C) (zcT C) aO aq2 ho26) zmX5_aimSum zw1157 dX5_compareByAims_26 0 0 6 rfl rfl rfl rfl [0, 2] rfl rfl [] rfl (by decide) trivial rfl rfl rfl (Nat.le_of_ble_eq_true rfl) rfl rfl ⟨Nat.le_of_ble_eq_true rfl, Nat.le_of_ble_eq_true rfl⟩ ⟨Nat.le_of_ble_eq_true rfl, Nat.le_of_ble_eq_true rfl⟩ ?_
      refine z_aload_n X dX5_compareByAims_29 2 rfl ?_
      refine z_getN (v := .long (zgl sq1 1)) X 1 0 5 1 ziX4 rfl (by decide) zw224 rfl dX5_compareByAims_30 rfl rfl rfl ?_
      refine z_lmul X dX5_compareByAims_33 ?_
      obtain ⟨v34, ev34, h⟩ := zlet_of h
      refine z_topl ev34 ?_
      refine z_lstore (lv2 := [(6, .long v34), (4, .long v21), (0, .ref (aO 0)), (1, .ref (aq1 0)), (2, .ref (aq2 0)), (3, .int x3)]) X dX5_compareByAims_34 (by decide) rfl ?_
      refine z_lload X dX5_compareByAims_36 1 rfl ?_
      refine z_lload X dX5_compareByAims_38 0 rfl ?_
      refine z_lcmp_eq (tgt := 67) X dX5_compareByAims_40 dX5_compareByAims_41 (by decide) (fun c40 => ?_) (fun c40 => ?_)
      · replace h := zif_t h c40
        obtain ⟨v67, ev67, h⟩ := zlet_of h
        refine z_iinc (v := v67) (lv2 := [(3, .int v67), (6, .long v34), (4, .long v21), (0, .ref (aO 0)), (1, .ref (aq1 0)), (2, .ref (aq2 0))]) X dX5_compareByAims_67 (k := 5) rfl (by rw [ev67]; rfl) (by decide) rfl ?_
        refine z_goto (tgt := 2) X dX5_compareByAims_70 (by decide) ?_
        exact z_at (pc2 := 2) (lv2 := [(0, .ref (aO 0)), (1, .ref (aq1 0)), (2, .ref (aq2 0)), (3, .int v67)]) (st2 := []) (ws2 := [wX5 (zcT C) aO sO, wX4 (zcT C) aq1 sq1, wX4 (zcT C) aq2 sq2]) rfl rfl rfl [3, 4, 5, 0] rfl (ih v67 h)
      · replace h := zif_f h c40
        refine z_lload X dX5_compareByAims_44 1 rfl ?_
        refine z_lload X dX5_compareByAims_46 0 rfl ?_
        refine z_lcmp_le (tgt := 60) X dX5_compareByAims_48 dX5_compareByAims_49 (by decide) (fun c48 => ?_) (fun c48 => ?_)
        · replace h := zif_t h c48
          refine z_aload_n X dX5_compareByAims_60 2 rfl ?_
          refine z_iload_n X dX5_compareByAims_61 5 rfl ?_
          obtain ⟨o62, ho62, h⟩ := zbind_of h
          refine z_callVi (st := []) (ws2 := [wX5 (zcT C) aO sO, wX4 (zcT C) aq1 sq1, wX4 (zcT C) aq2 sq2]) X (metX5_directionOf (zcl C) (zcD C) (zcT C) aO ho62) zmX5_directionOf zw1158 dX5_compareByAims_62 0 0 6 rfl rfl rfl rfl [0] rfl rfl [] rfl (by decide) trivial rfl rfl rfl (Nat.le_of_ble_eq_true rfl) rfl rfl ⟨Nat.le_of_ble_eq_true rfl, Nat.le_of_ble_eq_true rfl⟩ ⟨Nat.le_of_ble_eq_true rfl, Nat.le_of_ble_eq_true rfl⟩ ?_
          refine z_ineg X dX5_compareByAims_65 ?_
          exact z_at (pc2 := 66) (lv2 := []) (st2 := [.int (-o62)]) (ws2 := [wX5 (zcT C) aO sO, wX4 (zcT C) aq1 sq1, wX4 (zcT C) aq2 sq2]) rfl rfl rfl [] rfl (bX5_compareByAims_66 X hQ  h)
        · replace h := zif_f h c48
          refine z_aload_n X dX5_compareByAims_52 2 rfl ?_
          refine z_iload_n X dX5_compareByAims_53 5 rfl ?_
          obtain ⟨o54, ho54, h⟩ := zbind_of h
          refine z_callVi (st := []) (ws2 := [wX5 (zcT C) aO sO, wX4 (zcT C) aq1 sq1, wX4 (zcT C) aq2 sq2]) X (metX5_directionOf (zcl C) (zcD C) (zcT C) aO ho54) zmX5_directionOf zw1158 dX5_compareByAims_54 0 0 6 rfl rfl rfl rfl [0] rfl rfl [] rfl (by decide) trivial rfl rfl rfl (Nat.le_of_ble_eq_true rfl) rfl rfl ⟨Nat.le_of_ble_eq_true rfl, Nat.le_of_ble_eq_true rfl⟩ ⟨Nat.le_of_ble_eq_true rfl, Nat.le_of_ble_eq_true rfl⟩ ?_
          refine z_goto (tgt := 66) X dX5_compareByAims_57 (by decide) ?_
          exact z_at (pc2 := 66) (lv2 := []) (st2 := [.int o54]) (ws2 := [wX5 (zcT C) aO sO, wX4 (zcT C) aq1 sq1, wX4 (zcT C) aq2 sq2]) rfl rfl rfl [] rfl (bX5_compareByAims_66 X hQ  h)
theorem bX5_compareByAims_0 {C : zCtx} (X : zFx C cX5_compareByAims 8 RX5 rmX5_compareByAims (some .int)) {aO : Nat → Nat} {aq1 : Nat → Nat} {aq2 : Nat → Nat} {sO : zSt} {sq1 : zSt} {sq2 : zSt} {out : Int32} (hQ : zHi C out [] 0 0) (h : fX5_compareByAims sO sq1 sq2 = some out) : zG C 8 [] 0 0 [wX5 (zcT C) aO sO, wX4 (zcT C) aq1 sq1, wX4 (zcT C) aq2 sq2] 0 [(0, .ref (aO 0)), (1, .ref (aq1 0)), (2, .ref (aq2 0))] [] := by
  unfold fX5_compareByAims at h
  refine z_iconst (v := (0 : Int32)) X dX5_compareByAims_0 rfl ?_
  refine z_istore_n (lv2 := [(3, .int (0 : Int32)), (0, .ref (aO 0)), (1, .ref (aq1 0)), (2, .ref (aq2 0))]) X dX5_compareByAims_1 rfl (by decide) rfl ?_
  exact z_at (pc2 := 2) (lv2 := [(0, .ref (aO 0)), (1, .ref (aq1 0)), (2, .ref (aq2 0)), (3, .int (0 : Int32))]) (st2 := []) (ws2 := [wX5 (zcT C) aO sO, wX4 (zcT C) aq1 sq1, wX4 (zcT C) aq2 sq2]) rfl rfl rfl [1, 2, 3, 0] rfl (bX5_compareByAims_2 X hQ  6000 (0 : Int32) h)
theorem metX5_compareByAims (l : Launch) (D : va_G) (T : Nat → ClassId) (aO : Nat → Nat) (aq1 : Nat → Nat) (aq2 : Nat → Nat) {sO : zSt} {sq1 : zSt} {sq2 : zSt} {out : Int32} (hf : fX5_compareByAims sO sq1 sq2 = some out) (sz : Nat) : Met l yX5_compareByAims (zws yX5_compareByAims cX5_compareByAims 8 (some .int)) rmX5_compareByAims (zPc D T [.ref (aO 0), .ref (aq1 0), .ref (aq2 0)] [wX5 T aO sO, wX4 T aq1 sq1, wX4 T aq2 sq2] sz) (zQi D out [] (zA [] sz)) 0 0 (zA [] sz) :=
  zMet (D := D) (T := T) (av := [.ref (aO 0), .ref (aq1 0), .ref (aq2 0)]) (ws := fun T => [wX5 T aO sO, wX4 T aq1 sq1, wX4 T aq2 sq2]) (wm := fun T => []) (lv0 := [(0, .ref (aO 0)), (1, .ref (aq1 0)), (2, .ref (aq2 0))]) [] (Qc := fun D T A => zQi D out [] A) (by decide +kernel) rfl (Nat.le_of_ble_eq_true rfl) rfl (fun C X hQ => bX5_compareByAims_0 X hQ hf) sz
