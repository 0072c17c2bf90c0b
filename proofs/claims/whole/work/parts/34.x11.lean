/-- private static boolean areBounds(int, int); of Tableaufloor -/
abbrev rmX11_areBounds : Room := { frames := 0, cells := 0, slots := 0, locals := 0 }
def fX11_areBounds_28 (y0 : Int32) : Option (Int32) :=
  (if znar .boolean y0 = true then
    some (y0) else none)
def fX11_areBounds_27 : Option (Int32) :=
  (fX11_areBounds_28 (0 : Int32))
def fX11_areBounds (x0 : Int32) (x1 : Int32) : Option (Int32) :=
  (if x0 < (-50 : Int32) then
    (fX11_areBounds_27)
  else
    (if (50 : Int32) < x0 then
      (fX11_areBounds_27)
    else
      (if x1 < x0 then
        (fX11_areBounds_27)
      else
        (if (100 : Int32) < x1 then
          (fX11_areBounds_27)
        else
          (fX11_areBounds_28 (1 : Int32))))))
theorem bX11_areBounds_28 {C : zCtx} (X : zFx C cX11_areBounds 2 RX11 rmX11_areBounds (some .boolean)) {y0 : Int32} {out : Int32} (hQ : zHi C out [] 0 0) (h : fX11_areBounds_28 y0 = some out) : zG C 2 [] 0 0 [] 28 [] [.int y0] := by
  unfold fX11_areBounds_28 at h
  obtain ⟨g28, h⟩ := zgd_of h
  cases h
  exact z_nret X hQ g28 dX11_areBounds_28 rfl [] rfl (by decide) (by decide)
theorem bX11_areBounds_27 {C : zCtx} (X : zFx C cX11_areBounds 2 RX11 rmX11_areBounds (some .boolean)) {out : Int32} (hQ : zHi C out [] 0 0) (h : fX11_areBounds_27 = some out) : zG C 2 [] 0 0 [] 27 [] [] := by
  unfold fX11_areBounds_27 at h
  refine z_iconst (v := (0 : Int32)) X dX11_areBounds_27 rfl ?_
  exact z_at (pc2 := 28) (lv2 := []) (st2 := [.int (0 : Int32)]) (ws2 := []) rfl rfl rfl [] rfl (bX11_areBounds_28 X hQ  h)
theorem bX11_areBounds_0 {C : zCtx} (X : zFx C cX11_areBounds 2 RX11 rmX11_areBounds (some .boolean)) {x0 : Int32} {x1 : Int32} {out : Int32} (hQ : zHi C out [] 0 0) (h : fX11_areBounds x0 x1 = some out) : zG C 2 [] 0 0 [] 0 [(0, .int x0), (1, .int x1)] [] := by
  unfold fX11_areBounds at h
  refine z_iload_n X dX11_areBounds_0 0 rfl ?_
  refine z_bipush (v := (-50 : Int32)) X dX11_areBounds_1 rfl ?_
  refine z_icmp_lt (tgt := 27) X dX11_areBounds_3 (by decide) (fun c3 => ?_) (fun c3 => ?_)
  · replace h := zif_t h c3
    exact z_at (pc2 := 27) (lv2 := []) (st2 := []) (ws2 := []) rfl rfl rfl [] rfl (bX11_areBounds_27 X hQ  h)
  · replace h := zif_f h c3
    refine z_iload_n X dX11_areBounds_6 0 rfl ?_
    refine z_bipush (v := (50 : Int32)) X dX11_areBounds_7 rfl ?_
    refine z_icmp_gt (tgt := 27) X dX11_areBounds_9 (by decide) (fun c9 => ?_) (fun c9 => ?_)
    · replace h := zif_t h c9
      exact z_at (pc2 := 27) (lv2 := []) (st2 := []) (ws2 := []) rfl rfl rfl [] rfl (bX11_areBounds_27 X hQ  h)
    · replace h := zif_f h c9
      refine z_iload_n X dX11_areBounds_12 1 rfl ?_
      refine z_iload_n X dX11_areBounds_13 0 rfl ?_
      refine z_icmp_lt (tgt := 27) X dX11_areBounds_14 (by decide) (fun c14 => ?_) (fun c14 => ?_)
      · replace h := zif_t h c14
        exact z_at (pc2 := 27) (lv2 := []) (st2 := []) (ws2 := []) rfl rfl rfl [] rfl (bX11_areBounds_27 X hQ  h)
      · replace h := zif_f h c14
        refine z_iload_n X dX11_areBounds_17 1 rfl ?_
        refine z_bipush (v := (100 : Int32)) X dX11_areBounds_18 rfl ?_
        refine z_icmp_gt (tgt := 27) X dX11_areBounds_20 (by decide) (fun c20 => ?_) (fun c20 => ?_)
        · replace h := zif_t h c20
          exact z_at (pc2 := 27) (lv2 := []) (st2 := []) (ws2 := []) rfl rfl rfl [] rfl (bX11_areBounds_27 X hQ  h)
        · replace h := zif_f h c20
          refine z_iconst (v := (1 : Int32)) X dX11_areBounds_23 rfl ?_
          refine z_goto (tgt := 28) X dX11_areBounds_24 (by decide) ?_
          exact z_at (pc2 := 28) (lv2 := []) (st2 := [.int (1 : Int32)]) (ws2 := []) rfl rfl rfl [] rfl (bX11_areBounds_28 X hQ  h)
theorem metX11_areBounds (l : Launch) (D : va_G) (T : Nat → ClassId) {x0 : Int32} {x1 : Int32} {out : Int32} (hf : fX11_areBounds x0 x1 = some out) (sz : Nat) : Met l yX11_areBounds (zws yX11_areBounds cX11_areBounds 2 (some .boolean)) rmX11_areBounds (zPc D T [.int x0, .int x1] [] sz) (zQi D out [] (zA [] sz)) 0 0 (zA [] sz) :=
  zMet (D := D) (T := T) (av := [.int x0, .int x1]) (ws := fun T => []) (wm := fun T => []) (lv0 := [(0, .int x0), (1, .int x1)]) [] (Qc := fun D T A => zQi D out [] A) (by decide +kernel) rfl (Nat.le_of_ble_eq_true rfl) rfl (fun C X hQ => bX11_areBounds_0 X hQ hf) sz
/-- private void forgetAnswers(); of Tableaufloor -/
abbrev rmX11_forgetAnswers : Room := { frames := 0, cells := 0, slots := 0, locals := 0 }
def fX11_forgetAnswers (sO : zSt) (sW : zSt) (sK : zSt) (sZ : zSt) : Option (zSt × zSt × zSt) :=
  (zlet (zsi sW 9 (0 : Int32)) (fun sW5 =>
    (zlet (zsi sK 5 (0 : Int32)) (fun sK13 =>
    (zlet (zsi sZ 4 (0 : Int32)) (fun sZ21 =>
    some (sW5, sK13, sZ21)))))))
theorem bX11_forgetAnswers_0 {C : zCtx} (X : zFx C cX11_forgetAnswers 1 RX11 rmX11_forgetAnswers none) {aO : Nat → Nat} {aP : Nat → Nat} {aX : Nat → Nat} {aL : Nat → Nat} {aW : Nat → Nat} {aV : Nat → Nat} {aF : Nat → Nat} {aK : Nat → Nat} {aZ : Nat → Nat} {aR : Nat → Nat} {aS : Nat → Nat} {aD : Nat → Nat} {aQ : Nat → Nat} {aB : Nat → Nat} {aC : Nat → Nat} {aE : Nat → Nat} {aH : Nat → Nat} {aN : Nat → Nat} {sO : zSt} {sW : zSt} {sK : zSt} {sZ : zSt} {out : zSt × zSt × zSt} (hQ : zHv C [wX9 (zcT C) aW (aP 0) (aS 0) (aD 0) (aQ 0) out.1, wX0 (zcT C) aK (aP 0) (aS 0) (aB 0) (aC 0) out.2.1, wX10 (zcT C) aZ (aP 0) (aE 0) (aH 0) out.2.2] 0 0) (h : fX11_forgetAnswers sO sW sK sZ = some out) : zG C 1 [1, 2, 3] 0 0 [wX11 (zcT C) aO (aP 0) (aX 0) (aL 0) (aW 0) (aV 0) (aF 0) (aK 0) (aZ 0) (aR 0) aN sO, wX9 (zcT C) aW (aP 0) (aS 0) (aD 0) (aQ 0) sW, wX0 (zcT C) aK (aP 0) (aS 0) (aB 0) (aC 0) sK, wX10 (zcT C) aZ (aP 0) (aE 0) (aH 0) sZ] 0 [(0, .ref (aO 0))] [] := by
  unfold fX11_forgetAnswers at h
  refine z_aload_n X dX11_forgetAnswers_0 0 rfl ?_
  refine z_get (v := .ref (aW 0)) X 0 0 12 3 ziX11 rfl (by decide) zw376 rfl dX11_forgetAnswers_1 rfl rfl rfl ?_
  refine z_iconst (v := (0 : Int32)) X dX11_forgetAnswers_4 rfl ?_
  obtain ⟨sW5, esW5, h⟩ := zlet_of h
  refine z_putN (ws2 := [wX11 (zcT C) aO (aP 0) (aX 0) (aL 0) (aW 0) (aV 0) (aF 0) (aK 0) (aZ 0) (aR 0) aN sO, wX9 (zcT C) aW (aP 0) (aS 0) (aD 0) (aQ 0) sW5, wX0 (zcT C) aK (aP 0) (aS 0) (aB 0) (aC 0) sK, wX10 (zcT C) aZ (aP 0) (aE 0) (aH 0) sZ]) X 1 0 10 9 ziX9 rfl tyX9 tyX9_ok nmX9 (by decide) zw258 rfl rfl (ty := .boolean) (by decide +kernel) rfl rfl (by show 9 < 10; decide) dX11_forgetAnswers_5 rfl rfl (by decide) (w2 := wX9 (zcT C) aW (aP 0) (aS 0) (aD 0) (aQ 0) sW5) (by rw [esW5]; rfl) rfl ?_
  refine z_aload_n X dX11_forgetAnswers_8 0 rfl ?_
  refine z_get (v := .ref (aK 0)) X 0 0 12 6 ziX11 rfl (by decide) zw379 rfl dX11_forgetAnswers_9 rfl rfl rfl ?_
  refine z_iconst (v := (0 : Int32)) X dX11_forgetAnswers_12 rfl ?_
  obtain ⟨sK13, esK13, h⟩ := zlet_of h
  refine z_putN (ws2 := [wX11 (zcT C) aO (aP 0) (aX 0) (aL 0) (aW 0) (aV 0) (aF 0) (aK 0) (aZ 0) (aR 0) aN sO, wX9 (zcT C) aW (aP 0) (aS 0) (aD 0) (aQ 0) sW5, wX0 (zcT C) aK (aP 0) (aS 0) (aB 0) (aC 0) sK13, wX10 (zcT C) aZ (aP 0) (aE 0) (aH 0) sZ]) X 2 0 1 5 ziX0 rfl tyX0 tyX0_ok nmX0 (by decide) zw314 rfl rfl (ty := .boolean) (by decide +kernel) rfl rfl (by show 5 < 6; decide) dX11_forgetAnswers_13 rfl rfl (by decide) (w2 := wX0 (zcT C) aK (aP 0) (aS 0) (aB 0) (aC 0) sK13) (by rw [esK13]; rfl) rfl ?_
  refine z_aload_n X dX11_forgetAnswers_16 0 rfl ?_
  refine z_get (v := .ref (aZ 0)) X 0 0 12 7 ziX11 rfl (by decide) zw380 rfl dX11_forgetAnswers_17 rfl rfl rfl ?_
  refine z_iconst (v := (0 : Int32)) X dX11_forgetAnswers_20 rfl ?_
  obtain ⟨sZ21, esZ21, h⟩ := zlet_of h
  refine z_putN (ws2 := [wX11 (zcT C) aO (aP 0) (aX 0) (aL 0) (aW 0) (aV 0) (aF 0) (aK 0) (aZ 0) (aR 0) aN sO, wX9 (zcT C) aW (aP 0) (aS 0) (aD 0) (aQ 0) sW5, wX0 (zcT C) aK (aP 0) (aS 0) (aB 0) (aC 0) sK13, wX10 (zcT C) aZ (aP 0) (aE 0) (aH 0) sZ21]) X 3 0 11 4 ziX10 rfl tyX10 tyX10_ok nmX10 (by decide) zw343 rfl rfl (ty := .boolean) (by decide +kernel) rfl rfl (by show 4 < 5; decide) dX11_forgetAnswers_21 rfl rfl (by decide) (w2 := wX10 (zcT C) aZ (aP 0) (aE 0) (aH 0) sZ21) (by rw [esZ21]; rfl) rfl ?_
  cases h
  exact z_vret X hQ dX11_forgetAnswers_24 [1, 2, 3] rfl (by decide) (by decide)
theorem metX11_forgetAnswers (l : Launch) (D : va_G) (T : Nat → ClassId) (aO : Nat → Nat) (aP : Nat → Nat) (aX : Nat → Nat) (aL : Nat → Nat) (aW : Nat → Nat) (aV : Nat → Nat) (aF : Nat → Nat) (aK : Nat → Nat) (aZ : Nat → Nat) (aR : Nat → Nat) (aS : Nat → Nat) (aD : Nat → Nat) (aQ : Nat → Nat) (aB : Nat → Nat) (aC : Nat → Nat) (aE : Nat → Nat) (aH : Nat → Nat) (aN : Nat → Nat) {sO : zSt} {sW : zSt} {sK : zSt} {sZ : zSt} {out : zSt × zSt × zSt} (hf : fX11_forgetAnswers sO sW sK sZ = some out) (sz : Nat) : Met l yX11_forgetAnswers (zws yX11_forgetAnswers cX11_forgetAnswers 1 none) rmX11_forgetAnswers (zPc D T [.ref (aO 0)] [wX11 T aO (aP 0) (aX 0) (aL 0) (aW 0) (aV 0) (aF 0) (aK 0) (aZ 0) (aR 0) aN sO, wX9 T aW (aP 0) (aS 0) (aD 0) (aQ 0) sW, wX0 T aK (aP 0) (aS 0) (aB 0) (aC 0) sK, wX10 T aZ (aP 0) (aE 0) (aH 0) sZ] sz) (zQv D [wX9 T aW (aP 0) (aS 0) (aD 0) (aQ 0) out.1, wX0 T aK (aP 0) (aS 0) (aB 0) (aC 0) out.2.1, wX10 T aZ (aP 0) (aE 0) (aH 0) out.2.2] (zA [wX9 T aW (aP 0) (aS 0) (aD 0) (aQ 0) sW, wX0 T aK (aP 0) (aS 0) (aB 0) (aC 0) sK, wX10 T aZ (aP 0) (aE 0) (aH 0) sZ] sz)) 0 0 (zA [wX9 T aW (aP 0) (aS 0) (aD 0) (aQ 0) sW, wX0 T aK (aP 0) (aS 0) (aB 0) (aC 0) sK, wX10 T aZ (aP 0) (aE 0) (aH 0) sZ] sz) :=
  zMet (D := D) (T := T) (av := [.ref (aO 0)]) (ws := fun T => [wX11 T aO (aP 0) (aX 0) (aL 0) (aW 0) (aV 0) (aF 0) (aK 0) (aZ 0) (aR 0) aN sO, wX9 T aW (aP 0) (aS 0) (aD 0) (aQ 0) sW, wX0 T aK (aP 0) (aS 0) (aB 0) (aC 0) sK, wX10 T aZ (aP 0) (aE 0) (aH 0) sZ]) (wm := fun T => [wX9 T aW (aP 0) (aS 0) (aD 0) (aQ 0) sW, wX0 T aK (aP 0) (aS 0) (aB 0) (aC 0) sK, wX10 T aZ (aP 0) (aE 0) (aH 0) sZ]) (lv0 := [(0, .ref (aO 0))]) [1, 2, 3] (Qc := fun D T A => zQv D [wX9 T aW (aP 0) (aS 0) (aD 0) (aQ 0) out.1, wX0 T aK (aP 0) (aS 0) (aB 0) (aC 0) out.2.1, wX10 T aZ (aP 0) (aE 0) (aH 0) out.2.2] A) (by decide +kernel) rfl (Nat.le_of_ble_eq_true rfl) rfl (fun C X hQ => bX11_forgetAnswers_0 X hQ hf) sz
/-- public int addVariable(int, int) throws java.lang.IllegalArgumentException, java.lang.IllegalStateException; of Tableaufloor -/
abbrev rmX11_addVariable : Room := { frames := 6, cells := 1, slots := 6, locals := 82 }
def fX11_addVariable (sO : zSt) (sP : zSt) (sW : zSt) (sK : zSt) (sZ : zSt) (x1 : Int32) (x2 : Int32) : Option ((String ⊕ Int32) × zSt × zSt × zSt × zSt) :=
  ((fX11_areBounds x1 x2).bind (fun o2 =>
    (if o2 = 0 then
    some (.inl "java/lang/IllegalArgumentException", sP, sW, sK, sZ)
  else
    (if (zgi sP 8) < (3 : Int32) then
      ((fX11_forgetAnswers sO sW sK sZ).bind (fun o40 =>
        ((fX5_putVariable sP x1 x2).bind (fun o49 =>
        some (.inr o49.1, o49.2, o40.1, o40.2.1, o40.2.2)))))
    else
      some (.inl "java/lang/IllegalStateException", sP, sW, sK, sZ)))))
theorem bX11_addVariable_0 {C : zCtx} (X : zFx C cX11_addVariable 3 RX11 rmX11_addVariable (some .int)) {base : Nat} (Y : zFy C base) {aO : Nat → Nat} {aP : Nat → Nat} {aX : Nat → Nat} {aL : Nat → Nat} {aW : Nat → Nat} {aV : Nat → Nat} {aF : Nat → Nat} {aK : Nat → Nat} {aZ : Nat → Nat} {aR : Nat → Nat} {aS : Nat → Nat} {aD : Nat → Nat} {aQ : Nat → Nat} {aB : Nat → Nat} {aC : Nat → Nat} {aE : Nat → Nat} {aH : Nat → Nat} {aN : Nat → Nat} {sO : zSt} {sP : zSt} {sW : zSt} {sK : zSt} {sZ : zSt} {x1 : Int32} {x2 : Int32} {out : (String ⊕ Int32) × zSt × zSt × zSt × zSt} (hQ : zXi C out.1 [wX5 (zcT C) aP out.2.1, wX9 (zcT C) aW (aP 0) (aS 0) (aD 0) (aQ 0) out.2.2.1, wX0 (zcT C) aK (aP 0) (aS 0) (aB 0) (aC 0) out.2.2.2.1, wX10 (zcT C) aZ (aP 0) (aE 0) (aH 0) out.2.2.2.2] 1 6) (h : fX11_addVariable sO sP sW sK sZ x1 x2 = some out) : zG C 3 [1, 2, 3, 4] 0 0 [wX11 (zcT C) aO (aP 0) (aX 0) (aL 0) (aW 0) (aV 0) (aF 0) (aK 0) (aZ 0) (aR 0) aN sO, wX5 (zcT C) aP sP, wX9 (zcT C) aW (aP 0) (aS 0) (aD 0) (aQ 0) sW, wX0 (zcT C) aK (aP 0) (aS 0) (aB 0) (aC 0) sK, wX10 (zcT C) aZ (aP 0) (aE 0) (aH 0) sZ] 0 [(0, .ref (aO 0)), (1, .int x1), (2, .int x2)] [] := by
  unfold fX11_addVariable at h
  refine z_iload_n X dX11_addVariable_0 1 rfl ?_
  refine z_iload_n X dX11_addVariable_1 2 rfl ?_
  obtain ⟨o2, ho2, h⟩ := zbind_of h
  refine z_callSi (st := []) (ws2 := [wX11 (zcT C) aO (aP 0) (aX 0) (aL 0) (aW 0) (aV 0) (aF 0) (aK 0) (aZ 0) (aR 0) aN sO, wX5 (zcT C) aP sP, wX9 (zcT C) aW (aP 0) (aS 0) (aD 0) (aQ 0) sW, wX0 (zcT C) aK (aP 0) (aS 0) (aB 0) (aC 0) sK, wX10 (zcT C) aZ (aP 0) (aE 0) (aH 0) sZ]) X (metX11_areBounds (zcl C) (zcD C) (zcT C)  ho2) zmX11_areBounds zw753 dX11_addVariable_2 [] rfl rfl [] rfl (by decide) trivial rfl rfl rfl (Nat.le_of_ble_eq_true rfl) rfl rfl ⟨Nat.le_of_ble_eq_true rfl, Nat.le_of_ble_eq_true rfl⟩ ⟨Nat.le_of_ble_eq_true rfl, Nat.le_of_ble_eq_true rfl⟩ ?_
  refine z_if_ne (tgt := 18) X dX11_addVariable_5 (by decide) (fun c5 => ?_) (fun c5 => ?_)
  · replace h := zif_f h c5
    refine z_aload_n X dX11_addVariable_18 0 rfl ?_
    refine z_get (v := .ref (aP 0)) X 0 0 12 0 ziX11 rfl (by decide) zw373 rfl dX11_addVariable_19 rfl rfl rfl ?_
    refine z_getN (v := .int (zgi sP 8)) X 1 0 6 8 ziX5 rfl (by decide) zw57 rfl dX11_addVariable_22 rfl rfl rfl ?_
    refine z_iconst (v := (3 : Int32)) X dX11_addVariable_25 rfl ?_
    refine z_icmp_lt (tgt := 39) X dX11_addVariable_26 (by decide) (fun c26 => ?_) (fun c26 => ?_)
    · replace h := zif_t h c26
      refine z_aload_n X dX11_addVariable_39 0 rfl ?_
      obtain ⟨o40, ho40, h⟩ := zbind_of h
      refine z_callVv (st := []) (ws2 := [wX11 (zcT C) aO (aP 0) (aX 0) (aL 0) (aW 0) (aV 0) (aF 0) (aK 0) (aZ 0) (aR 0) aN sO, wX5 (zcT C) aP sP, wX9 (zcT C) aW (aP 0) (aS 0) (aD 0) (aQ 0) o40.1, wX0 (zcT C) aK (aP 0) (aS 0) (aB 0) (aC 0) o40.2.1, wX10 (zcT C) aZ (aP 0) (aE 0) (aH 0) o40.2.2]) X (metX11_forgetAnswers (zcl C) (zcD C) (zcT C) aO aP aX aL aW aV aF aK aZ aR aS aD aQ aB aC aE aH aN ho40) zmX11_forgetAnswers zw480 dX11_addVariable_40 0 0 12 rfl rfl rfl rfl [0, 2, 3, 4] rfl rfl [2, 3, 4] rfl (by decide) ⟨zsX9 , ⟨zsX0 , ⟨zsX10 , trivial⟩⟩⟩ rfl rfl rfl (Nat.le_of_ble_eq_true rfl) rfl rfl ⟨Nat.le_of_ble_eq_true rfl, Nat.le_of_ble_eq_true rfl⟩ ⟨Nat.le_of_ble_eq_true rfl, Nat.le_of_ble_eq_true rfl⟩ ?_
      refine z_aload_n X dX11_addVariable_43 0 rfl ?_
      refine z_get (v := .ref (aP 0)) X 0 0 12 0 ziX11 rfl (by decide) zw373 rfl dX11_addVariable_44 rfl rfl rfl ?_
      refine z_iload_n X dX11_addVariable_47 1 rfl ?_
      refine z_iload_n X dX11_addVariable_48 2 rfl ?_
      obtain ⟨o49, ho49, h⟩ := zbind_of h
      refine z_callVi (st := []) (ws2 := [wX11 (zcT C) aO (aP 0) (aX 0) (aL 0) (aW 0) (aV 0) (aF 0) (aK 0) (aZ 0) (aR 0) aN sO, wX5 (zcT C) aP o49.2, wX9 (zcT C) aW (aP 0) (aS 0) (aD 0) (aQ 0) o40.1, wX0 (zcT C) aK (aP 0) (aS 0) (aB 0) (aC 0) o40.2.1, wX10 (zcT C) aZ (aP 0) (aE 0) (aH 0) o40.2.2]) X (metX5_putVariable (zcl C) (zcD C) (zcT C) aP ho49) zmX5_putVariable zw842 dX11_addVariable_49 1 0 6 rfl rfl rfl rfl [1] rfl rfl [1] rfl (by decide) ⟨zsX5 , trivial⟩ rfl rfl rfl (Nat.le_of_ble_eq_true rfl) rfl rfl ⟨Nat.le_of_ble_eq_true rfl, Nat.le_of_ble_eq_true rfl⟩ ⟨Nat.le_of_ble_eq_true rfl, Nat.le_of_ble_eq_true rfl⟩ ?_
      cases h
      exact z_xiret X hQ dX11_addVariable_52 rfl [1, 2, 3, 4] rfl (by decide) (by decide)
    · replace h := zif_f h c26
      cases h
      exact z_throwi X Y hQ rfl zt_RX11_98 zs_835 dX11_addVariable_29 dX11_addVariable_32 dX11_addVariable_33 dX11_addVariable_35 dX11_addVariable_38 [1, 2, 3, 4] rfl (by decide) (by decide) (by decide) (by decide) (by decide) (by decide)
  · replace h := zif_t h c5
    cases h
    exact z_throwi X Y hQ rfl zt_RX11_87 zs_799 dX11_addVariable_8 dX11_addVariable_11 dX11_addVariable_12 dX11_addVariable_14 dX11_addVariable_17 [1, 2, 3, 4] rfl (by decide) (by decide) (by decide) (by decide) (by decide) (by decide)
theorem metX11_addVariable (l : Launch) (hst : l.stackTraces = false) (D : va_G) (T : Nat → ClassId) (aO : Nat → Nat) (aP : Nat → Nat) (aX : Nat → Nat) (aL : Nat → Nat) (aW : Nat → Nat) (aV : Nat → Nat) (aF : Nat → Nat) (aK : Nat → Nat) (aZ : Nat → Nat) (aR : Nat → Nat) (aS : Nat → Nat) (aD : Nat → Nat) (aQ : Nat → Nat) (aB : Nat → Nat) (aC : Nat → Nat) (aE : Nat → Nat) (aH : Nat → Nat) (aN : Nat → Nat) {sO : zSt} {sP : zSt} {sW : zSt} {sK : zSt} {sZ : zSt} {x1 : Int32} {x2 : Int32} {out : (String ⊕ Int32) × zSt × zSt × zSt × zSt} (hf : fX11_addVariable sO sP sW sK sZ x1 x2 = some out) (base sz : Nat) : vx_Met l yX11_addVariable (zws yX11_addVariable cX11_addVariable 3 (some .int)) rmX11_addVariable (zPx D T [.ref (aO 0), .int x1, .int x2] [wX11 T aO (aP 0) (aX 0) (aL 0) (aW 0) (aV 0) (aF 0) (aK 0) (aZ 0) (aR 0) aN sO, wX5 T aP sP, wX9 T aW (aP 0) (aS 0) (aD 0) (aQ 0) sW, wX0 T aK (aP 0) (aS 0) (aB 0) (aC 0) sK, wX10 T aZ (aP 0) (aE 0) (aH 0) sZ] [wX5 T aP sP, wX9 T aW (aP 0) (aS 0) (aD 0) (aQ 0) sW, wX0 T aK (aP 0) (aS 0) (aB 0) (aC 0) sK, wX10 T aZ (aP 0) (aE 0) (aH 0) sZ] base sz) (zQxi D out.1 [wX5 T aP out.2.1, wX9 T aW (aP 0) (aS 0) (aD 0) (aQ 0) out.2.2.1, wX0 T aK (aP 0) (aS 0) (aB 0) (aC 0) out.2.2.2.1, wX10 T aZ (aP 0) (aE 0) (aH 0) out.2.2.2.2] (zA [wX5 T aP sP, wX9 T aW (aP 0) (aS 0) (aD 0) (aQ 0) sW, wX0 T aK (aP 0) (aS 0) (aB 0) (aC 0) sK, wX10 T aZ (aP 0) (aE 0) (aH 0) sZ] sz)) (zXxi D out.1 [wX5 T aP out.2.1, wX9 T aW (aP 0) (aS 0) (aD 0) (aQ 0) out.2.2.1, wX0 T aK (aP 0) (aS 0) (aB 0) (aC 0) out.2.2.2.1, wX10 T aZ (aP 0) (aE 0) (aH 0) out.2.2.2.2] (zA [wX5 T aP sP, wX9 T aW (aP 0) (aS 0) (aD 0) (aQ 0) sW, wX0 T aK (aP 0) (aS 0) (aB 0) (aC 0) sK, wX10 T aZ (aP 0) (aE 0) (aH 0) sZ] sz)) 1 6 (zA [wX5 T aP sP, wX9 T aW (aP 0) (aS 0) (aD 0) (aQ 0) sW, wX0 T aK (aP 0) (aS 0) (aB 0) (aC 0) sK, wX10 T aZ (aP 0) (aE 0) (aH 0) sZ] sz) :=
  zMetXi hst (D := D) (T := T) (av := [.ref (aO 0), .int x1, .int x2]) (ws := fun T => [wX11 T aO (aP 0) (aX 0) (aL 0) (aW 0) (aV 0) (aF 0) (aK 0) (aZ 0) (aR 0) aN sO, wX5 T aP sP, wX9 T aW (aP 0) (aS 0) (aD 0) (aQ 0) sW, wX0 T aK (aP 0) (aS 0) (aB 0) (aC 0) sK, wX10 T aZ (aP 0) (aE 0) (aH 0) sZ]) (wm := fun T => [wX5 T aP sP, wX9 T aW (aP 0) (aS 0) (aD 0) (aQ 0) sW, wX0 T aK (aP 0) (aS 0) (aB 0) (aC 0) sK, wX10 T aZ (aP 0) (aE 0) (aH 0) sZ]) (gm1 := fun T => [wX5 T aP out.2.1, wX9 T aW (aP 0) (aS 0) (aD 0) (aQ 0) out.2.2.1, wX0 T aK (aP 0) (aS 0) (aB 0) (aC 0) out.2.2.2.1, wX10 T aZ (aP 0) (aE 0) (aH 0) out.2.2.2.2]) (o := out.1) (lv0 := [(0, .ref (aO 0)), (1, .int x1), (2, .int x2)]) [1, 2, 3, 4] (by decide +kernel) rfl (Nat.le_of_ble_eq_true rfl) rfl (fun C base X Y hQ => bX11_addVariable_0 X Y hQ hf) base sz
/-- private void demandVariable(int); of Tableaufloor -/
abbrev rmX11_demandVariable : Room := { frames := 6, cells := 1, slots := 6, locals := 82 }
def fX11_demandVariable_15 (sO : zSt) (sP : zSt) : Option ((String ⊕ Unit)) :=
  some (.inl "java/lang/IndexOutOfBoundsException")
def fX11_demandVariable (sO : zSt) (sP : zSt) (x1 : Int32) : Option ((String ⊕ Unit)) :=
  (if x1 < 0 then
    (fX11_demandVariable_15 sO sP)
  else
    (if x1 < (zgi sP 8) then
      some (.inr ())
    else
      (fX11_demandVariable_15 sO sP)))
theorem bX11_demandVariable_15 {C : zCtx} (X : zFx C cX11_demandVariable 2 RX11 rmX11_demandVariable none) {base : Nat} (Y : zFy C base) {aO : Nat → Nat} {aP : Nat → Nat} {aX : Nat → Nat} {aL : Nat → Nat} {aW : Nat → Nat} {aV : Nat → Nat} {aF : Nat → Nat} {aK : Nat → Nat} {aZ : Nat → Nat} {aR : Nat → Nat} {aN : Nat → Nat} {sO : zSt} {sP : zSt} {out : (String ⊕ Unit)} (hQ : zXv C out [] 1 6) (h : fX11_demandVariable_15 sO sP = some out) : zG C 2 [] 0 0 [wX11 (zcT C) aO (aP 0) (aX 0) (aL 0) (aW 0) (aV 0) (aF 0) (aK 0) (aZ 0) (aR 0) aN sO, wX5 (zcT C) aP sP] 15 [] [] := by
  unfold fX11_demandVariable_15 at h
  cases h
  exact z_throwWv X Y hQ rfl zt_RX11_219 zs_871 dX11_demandVariable_15 dX11_demandVariable_18 dX11_demandVariable_19 dX11_demandVariable_22 dX11_demandVariable_25 [] rfl (by decide) (by decide) (by decide) (by decide) (by decide) (by decide)
theorem bX11_demandVariable_0 {C : zCtx} (X : zFx C cX11_demandVariable 2 RX11 rmX11_demandVariable none) {base : Nat} (Y : zFy C base) {aO : Nat → Nat} {aP : Nat → Nat} {aX : Nat → Nat} {aL : Nat → Nat} {aW : Nat → Nat} {aV : Nat → Nat} {aF : Nat → Nat} {aK : Nat → Nat} {aZ : Nat → Nat} {aR : Nat → Nat} {aN : Nat → Nat} {sO : zSt} {sP : zSt} {x1 : Int32} {out : (String ⊕ Unit)} (hQ : zXv C out [] 1 6) (h : fX11_demandVariable sO sP x1 = some out) : zG C 2 [] 0 0 [wX11 (zcT C) aO (aP 0) (aX 0) (aL 0) (aW 0) (aV 0) (aF 0) (aK 0) (aZ 0) (aR 0) aN sO, wX5 (zcT C) aP sP] 0 [(0, .ref (aO 0)), (1, .int x1)] [] := by
  unfold fX11_demandVariable at h
  refine z_iload_n X dX11_demandVariable_0 1 rfl ?_
  refine z_if_lt (tgt := 15) X dX11_demandVariable_1 (by decide) (fun c1 => ?_) (fun c1 => ?_)
  · replace h := zif_t h c1
    exact z_wid (c2 := 0) (s2 := 0) (by decide) (by decide) <| z_at (pc2 := 15) (lv2 := []) (st2 := []) (ws2 := [wX11 (zcT C) aO (aP 0) (aX 0) (aL 0) (aW 0) (aV 0) (aF 0) (aK 0) (aZ 0) (aR 0) aN sO, wX5 (zcT C) aP sP]) rfl rfl rfl [] rfl (bX11_demandVariable_15 X Y hQ  h)
  · replace h := zif_f h c1
    refine z_iload_n X dX11_demandVariable_4 1 rfl ?_
    refine z_aload_n X dX11_demandVariable_5 0 rfl ?_
    refine z_get (v := .ref (aP 0)) X 0 0 12 0 ziX11 rfl (by decide) zw373 rfl dX11_demandVariable_6 rfl rfl rfl ?_
    refine z_getN (v := .int (zgi sP 8)) X 1 0 6 8 ziX5 rfl (by decide) zw57 rfl dX11_demandVariable_9 rfl rfl rfl ?_
    refine z_icmp_lt (tgt := 26) X dX11_demandVariable_12 (by decide) (fun c12 => ?_) (fun c12 => ?_)
    · replace h := zif_t h c12
      cases h
      exact z_xvret X hQ dX11_demandVariable_26 rfl [] rfl (by decide) (by decide)
    · replace h := zif_f h c12
      exact z_wid (c2 := 0) (s2 := 0) (by decide) (by decide) <| z_at (pc2 := 15) (lv2 := []) (st2 := []) (ws2 := [wX11 (zcT C) aO (aP 0) (aX 0) (aL 0) (aW 0) (aV 0) (aF 0) (aK 0) (aZ 0) (aR 0) aN sO, wX5 (zcT C) aP sP]) rfl rfl rfl [] rfl (bX11_demandVariable_15 X Y hQ  h)
theorem metX11_demandVariable (l : Launch) (hst : l.stackTraces = false) (D : va_G) (T : Nat → ClassId) (aO : Nat → Nat) (aP : Nat → Nat) (aX : Nat → Nat) (aL : Nat → Nat) (aW : Nat → Nat) (aV : Nat → Nat) (aF : Nat → Nat) (aK : Nat → Nat) (aZ : Nat → Nat) (aR : Nat → Nat) (aN : Nat → Nat) {sO : zSt} {sP : zSt} {x1 : Int32} {out : (String ⊕ Unit)} (hf : fX11_demandVariable sO sP x1 = some out) (base sz : Nat) : vx_Met l yX11_demandVariable (zws yX11_demandVariable cX11_demandVariable 2 none) rmX11_demandVariable (zPx D T [.ref (aO 0), .int x1] [wX11 T aO (aP 0) (aX 0) (aL 0) (aW 0) (aV 0) (aF 0) (aK 0) (aZ 0) (aR 0) aN sO, wX5 T aP sP] [] base sz) (zQxv D out [] (zA [] sz)) (zXxv D out [] (zA [] sz)) 1 6 (zA [] sz) :=
  zMetXv hst (D := D) (T := T) (av := [.ref (aO 0), .int x1]) (ws := fun T => [wX11 T aO (aP 0) (aX 0) (aL 0) (aW 0) (aV 0) (aF 0) (aK 0) (aZ 0) (aR 0) aN sO, wX5 T aP sP]) (wm := fun T => []) (gm1 := fun T => []) (o := out) (lv0 := [(0, .ref (aO 0)), (1, .int x1)]) [] (by decide +kernel) rfl (Nat.le_of_ble_eq_true rfl) rfl (fun C base X Y hQ => bX11_demandVariable_0 X Y hQ hf) base sz
/-- public int setLeast(int, int) throws java.lang.IndexOutOfBoundsException, java.lang.IllegalArgumentException; of Tableaufloor -/
abbrev rmX11_setLeast : Room := { frames := 7, cells := 2, slots := 12, locals := 103 }
def fX11_setLeast (sO : zSt) (sP : zSt) (sW : zSt) (sK : zSt) (sZ : zSt) (x1 : Int32) (x2 : Int32) : Option ((String ⊕ Int32) × zSt × zSt × zSt × zSt) :=
  ((fX11_demandVariable sO sP x1).bind (fun o2 =>
    (Sum.elim (fun E2 => some (.inl E2, sP, sW, sK, sZ)) (fun r2 =>
    ((fX5_greatestOf sP x1).bind (fun o11 =>
    ((fX11_areBounds x2 o11).bind (fun o14 =>
    (if o14 = 0 then
    some (.inl "java/lang/IllegalArgumentException", sP, sW, sK, sZ)
  else
    ((fX5_leastOf sP x1).bind (fun o35 =>
      ((fX5_greatestOf sP x1).bind (fun o50 =>
      ((fX5_putBounds sP x1 x2 o50).bind (fun o53 =>
      ((fX11_forgetAnswers sO sW sK sZ).bind (fun o57 =>
      some (.inr o35, o53, o57.1, o57.2.1, o57.2.2))))))))))))))) o2)))
theorem bX11_setLeast_0 {C : zCtx} (X : zFx C cX11_setLeast 4 RX11 rmX11_setLeast (some .int)) {base : Nat} (Y : zFy C base) {aO : Nat → Nat} {aP : Nat → Nat} {aX : Nat → Nat} {aL : Nat → Nat} {aW : Nat → Nat} {aV : Nat → Nat} {aF : Nat → Nat} {aK : Nat → Nat} {aZ : Nat → Nat} {aR : Nat → Nat} {aS : Nat → Nat} {aD : Nat → Nat} {aQ : Nat → Nat} {aB : Nat → Nat} {aC : Nat → Nat} {aE : Nat → Nat} {aH : Nat → Nat} {aN : Nat → Nat} {sO : zSt} {sP : zSt} {sW : zSt} {sK : zSt} {sZ : zSt} {x1 : Int32} {x2 : Int32} {out : (String ⊕ Int32) × zSt × zSt × zSt × zSt} (hQ : zXi C out.1 [wX5 (zcT C) aP out.2.1, wX9 (zcT C) aW (aP 0) (aS 0) (aD 0) (aQ 0) out.2.2.1, wX0 (zcT C) aK (aP 0) (aS 0) (aB 0) (aC 0) out.2.2.2.1, wX10 (zcT C) aZ (aP 0) (aE 0) (aH 0) out.2.2.2.2] 2 12) (h : fX11_setLeast sO sP sW sK sZ x1 x2 = some out) : zG C 4 [1, 2, 3, 4] 0 0 [wX11 (zcT C) aO (aP 0) (aX 0) (aL 0) (aW 0) (aV 0) (aF 0) (aK 0) (aZ 0) (aR 0) aN sO, wX5 (zcT C) aP sP, wX9 (zcT C) aW (aP 0) (aS 0) (aD 0) (aQ 0) sW, wX0 (zcT C) aK (aP 0) (aS 0) (aB 0) (aC 0) sK, wX10 (zcT C) aZ (aP 0) (aE 0) (aH 0) sZ] 0 [(0, .ref (aO 0)), (1, .int x1), (2, .int x2)] [] := by
  unfold fX11_setLeast at h
  refine z_aload_n X dX11_setLeast_0 0 rfl ?_
  refine z_iload_n X dX11_setLeast_1 1 rfl ?_
  obtain ⟨o2, ho2, h⟩ := zbind_of h
  refine z_xcallVv (st := []) (ws2 := [wX11 (zcT C) aO (aP 0) (aX 0) (aL 0) (aW 0) (aV 0) (aF 0) (aK 0) (aZ 0) (aR 0) aN sO, wX5 (zcT C) aP sP, wX9 (zcT C) aW (aP 0) (aS 0) (aD 0) (aQ 0) sW, wX0 (zcT C) aK (aP 0) (aS 0) (aB 0) (aC 0) sK, wX10 (zcT C) aZ (aP 0) (aE 0) (aH 0) sZ]) X Y (metX11_demandVariable (zcl C) Y.2.2.2.2.1 (zcD C) (zcT C) aO aP aX aL aW aV aF aK aZ aR aN ho2) zmX11_demandVariable zw858 dX11_setLeast_2 0 0 12 rfl rfl rfl rfl [0, 1] rfl rfl [] rfl (by decide) trivial rfl rfl rfl (Nat.le_of_ble_eq_true rfl) rfl rfl ⟨Nat.le_of_ble_eq_true rfl, Nat.le_of_ble_eq_true rfl⟩ ⟨Nat.le_of_ble_eq_true rfl, Nat.le_of_ble_eq_true rfl⟩ (fun E2 hE2 => ?_) (fun r2 hr2 => ?_)
  · replace h := zsum_l h hE2
    cases h
    exact z_xouti X Y hQ rfl [1, 2, 3, 4] rfl (by decide) (by decide)
  replace h := zsum_r h hr2
  refine z_iload_n X dX11_setLeast_5 2 rfl ?_
  refine z_aload_n X dX11_setLeast_6 0 rfl ?_
  refine z_get (v := .ref (aP 0)) X 0 0 12 0 ziX11 rfl (by decide) zw373 rfl dX11_setLeast_7 rfl rfl rfl ?_
  refine z_iload_n X dX11_setLeast_10 1 rfl ?_
  obtain ⟨o11, ho11, h⟩ := zbind_of h
  refine z_callVi (st := [.int x2]) (ws2 := [wX11 (zcT C) aO (aP 0) (aX 0) (aL 0) (aW 0) (aV 0) (aF 0) (aK 0) (aZ 0) (aR 0) aN sO, wX5 (zcT C) aP sP, wX9 (zcT C) aW (aP 0) (aS 0) (aD 0) (aQ 0) sW, wX0 (zcT C) aK (aP 0) (aS 0) (aB 0) (aC 0) sK, wX10 (zcT C) aZ (aP 0) (aE 0) (aH 0) sZ]) X (metX5_greatestOf (zcl C) (zcD C) (zcT C) aP ho11) zmX5_greatestOf zw878 dX11_setLeast_11 1 0 6 rfl rfl rfl rfl [1] rfl rfl [] rfl (by decide) trivial rfl rfl rfl (Nat.le_of_ble_eq_true rfl) rfl rfl ⟨Nat.le_of_ble_eq_true rfl, Nat.le_of_ble_eq_true rfl⟩ ⟨Nat.le_of_ble_eq_true rfl, Nat.le_of_ble_eq_true rfl⟩ ?_
  obtain ⟨o14, ho14, h⟩ := zbind_of h
  refine z_callSi (st := []) (ws2 := [wX11 (zcT C) aO (aP 0) (aX 0) (aL 0) (aW 0) (aV 0) (aF 0) (aK 0) (aZ 0) (aR 0) aN sO, wX5 (zcT C) aP sP, wX9 (zcT C) aW (aP 0) (aS 0) (aD 0) (aQ 0) sW, wX0 (zcT C) aK (aP 0) (aS 0) (aB 0) (aC 0) sK, wX10 (zcT C) aZ (aP 0) (aE 0) (aH 0) sZ]) X (metX11_areBounds (zcl C) (zcD C) (zcT C)  ho14) zmX11_areBounds zw753 dX11_setLeast_14 [] rfl rfl [] rfl (by decide) trivial rfl rfl rfl (Nat.le_of_ble_eq_true rfl) rfl rfl ⟨Nat.le_of_ble_eq_true rfl, Nat.le_of_ble_eq_true rfl⟩ ⟨Nat.le_of_ble_eq_true rfl, Nat.le_of_ble_eq_true rfl⟩ ?_
  refine z_if_ne (tgt := 30) X dX11_setLeast_17 (by decide) (fun c17 => ?_) (fun c17 => ?_)
  · replace h := zif_f h c17
    refine z_aload_n X dX11_setLeast_30 0 rfl ?_
    refine z_get (v := .ref (aP 0)) X 0 0 12 0 ziX11 rfl (by decide) zw373 rfl dX11_setLeast_31 rfl rfl rfl ?_
    refine z_iload_n X dX11_setLeast_34 1 rfl ?_
    obtain ⟨o35, ho35, h⟩ := zbind_of h
    refine z_callVi (st := []) (ws2 := [wX11 (zcT C) aO (aP 0) (aX 0) (aL 0) (aW 0) (aV 0) (aF 0) (aK 0) (aZ 0) (aR 0) aN sO, wX5 (zcT C) aP sP, wX9 (zcT C) aW (aP 0) (aS 0) (aD 0) (aQ 0) sW, wX0 (zcT C) aK (aP 0) (aS 0) (aB 0) (aC 0) sK, wX10 (zcT C) aZ (aP 0) (aE 0) (aH 0) sZ]) X (metX5_leastOf (zcl C) (zcD C) (zcT C) aP ho35) zmX5_leastOf zw880 dX11_setLeast_35 1 0 6 rfl rfl rfl rfl [1] rfl rfl [] rfl (by decide) trivial rfl rfl rfl (Nat.le_of_ble_eq_true rfl) rfl rfl ⟨Nat.le_of_ble_eq_true rfl, Nat.le_of_ble_eq_true rfl⟩ ⟨Nat.le_of_ble_eq_true rfl, Nat.le_of_ble_eq_true rfl⟩ ?_
    refine z_istore_n (lv2 := [(3, .int o35), (0, .ref (aO 0)), (1, .int x1), (2, .int x2)]) X dX11_setLeast_38 rfl (by decide) rfl ?_
    refine z_aload_n X dX11_setLeast_39 1 rfl ?_
    refine z_get (v := .ref (aP 0)) X 0 0 12 0 ziX11 rfl (by decide) zw373 rfl dX11_setLeast_40 rfl rfl rfl ?_
    refine z_iload_n X dX11_setLeast_43 2 rfl ?_
    refine z_iload_n X dX11_setLeast_44 3 rfl ?_
    refine z_aload_n X dX11_setLeast_45 1 rfl ?_
    refine z_get (v := .ref (aP 0)) X 0 0 12 0 ziX11 rfl (by decide) zw373 rfl dX11_setLeast_46 rfl rfl rfl ?_
    refine z_iload_n X dX11_setLeast_49 2 rfl ?_
    obtain ⟨o50, ho50, h⟩ := zbind_of h
    refine z_callVi (st := [.int x2, .int x1, .ref (aP 0)]) (ws2 := [wX11 (zcT C) aO (aP 0) (aX 0) (aL 0) (aW 0) (aV 0) (aF 0) (aK 0) (aZ 0) (aR 0) aN sO, wX5 (zcT C) aP sP, wX9 (zcT C) aW (aP 0) (aS 0) (aD 0) (aQ 0) sW, wX0 (zcT C) aK (aP 0) (aS 0) (aB 0) (aC 0) sK, wX10 (zcT C) aZ (aP 0) (aE 0) (aH 0) sZ]) X (metX5_greatestOf (zcl C) (zcD C) (zcT C) aP ho50) zmX5_greatestOf zw878 dX11_setLeast_50 1 0 6 rfl rfl rfl rfl [1] rfl rfl [] rfl (by decide) trivial rfl rfl rfl (Nat.le_of_ble_eq_true rfl) rfl rfl ⟨Nat.le_of_ble_eq_true rfl, Nat.le_of_ble_eq_true rfl⟩ ⟨Nat.le_of_ble_eq_true rfl, Nat.le_of_ble_eq_true rfl⟩ ?_
    obtain ⟨o53, ho53, h⟩ := zbind_of h
    refine z_callVv (st := []) (ws2 := [wX11 (zcT C) aO (aP 0) (aX 0) (aL 0) (aW 0) (aV 0) (aF 0) (aK 0) (aZ 0) (aR 0) aN sO, wX5 (zcT C) aP o53, wX9 (zcT C) aW (aP 0) (aS 0) (aD 0) (aQ 0) sW, wX0 (zcT C) aK (aP 0) (aS 0) (aB 0) (aC 0) sK, wX10 (zcT C) aZ (aP 0) (aE 0) (aH 0) sZ]) X (metX5_putBounds (zcl C) (zcD C) (zcT C) aP ho53) zmX5_putBounds zw881 dX11_setLeast_53 1 0 6 rfl rfl rfl rfl [1] rfl rfl [1] rfl (by decide) ⟨zsX5 , trivial⟩ rfl rfl rfl (Nat.le_of_ble_eq_true rfl) rfl rfl ⟨Nat.le_of_ble_eq_true rfl, Nat.le_of_ble_eq_true rfl⟩ ⟨Nat.le_of_ble_eq_true rfl, Nat.le_of_ble_eq_true rfl⟩ ?_
    refine z_aload_n X dX11_setLeast_56 1 rfl ?_
    obtain ⟨o57, ho57, h⟩ := zbind_of h
    refine z_callVv (st := []) (ws2 := [wX11 (zcT C) aO (aP 0) (aX 0) (aL 0) (aW 0) (aV 0) (aF 0) (aK 0) (aZ 0) (aR 0) aN sO, wX5 (zcT C) aP o53, wX9 (zcT C) aW (aP 0) (aS 0) (aD 0) (aQ 0) o57.1, wX0 (zcT C) aK (aP 0) (aS 0) (aB 0) (aC 0) o57.2.1, wX10 (zcT C) aZ (aP 0) (aE 0) (aH 0) o57.2.2]) X (metX11_forgetAnswers (zcl C) (zcD C) (zcT C) aO aP aX aL aW aV aF aK aZ aR aS aD aQ aB aC aE aH aN ho57) zmX11_forgetAnswers zw480 dX11_setLeast_57 0 0 12 rfl rfl rfl rfl [0, 2, 3, 4] rfl rfl [2, 3, 4] rfl (by decide) ⟨zsX9 , ⟨zsX0 , ⟨zsX10 , trivial⟩⟩⟩ rfl rfl rfl (Nat.le_of_ble_eq_true rfl) rfl rfl ⟨Nat.le_of_ble_eq_true rfl, Nat.le_of_ble_eq_true rfl⟩ ⟨Nat.le_of_ble_eq_true rfl, Nat.le_of_ble_eq_true rfl⟩ ?_
    refine z_iload_n X dX11_setLeast_60 0 rfl ?_
    cases h
    exact z_xiret X hQ dX11_setLeast_61 rfl [1, 2, 3, 4] rfl (by decide) (by decide)
  · replace h := zif_t h c17
    cases h
    exact z_throwi X Y hQ rfl zt_RX11_87 zs_879 dX11_setLeast_20 dX11_setLeast_23 dX11_setLeast_24 dX11_setLeast_26 dX11_setLeast_29 [1, 2, 3, 4] rfl (by decide) (by decide) (by decide) (by decide) (by decide) (by decide)
theorem metX11_setLeast (l : Launch) (hst : l.stackTraces = false) (D : va_G) (T : Nat → ClassId) (aO : Nat → Nat) (aP : Nat → Nat) (aX : Nat → Nat) (aL : Nat → Nat) (aW : Nat → Nat) (aV : Nat → Nat) (aF : Nat → Nat) (aK : Nat → Nat) (aZ : Nat → Nat) (aR : Nat → Nat) (aS : Nat → Nat) (aD : Nat → Nat) (aQ : Nat → Nat) (aB : Nat → Nat) (aC : Nat → Nat) (aE : Nat → Nat) (aH : Nat → Nat) (aN : Nat → Nat) {sO : zSt} {sP : zSt} {sW : zSt} {sK : zSt} {sZ : zSt} {x1 : Int32} {x2 : Int32} {out : (String ⊕ Int32) × zSt × zSt × zSt × zSt} (hf : fX11_setLeast sO sP sW sK sZ x1 x2 = some out) (base sz : Nat) : vx_Met l yX11_setLeast (zws yX11_setLeast cX11_setLeast 4 (some .int)) rmX11_setLeast (zPx D T [.ref (aO 0), .int x1, .int x2] [wX11 T aO (aP 0) (aX 0) (aL 0) (aW 0) (aV 0) (aF 0) (aK 0) (aZ 0) (aR 0) aN sO, wX5 T aP sP, wX9 T aW (aP 0) (aS 0) (aD 0) (aQ 0) sW, wX0 T aK (aP 0) (aS 0) (aB 0) (aC 0) sK, wX10 T aZ (aP 0) (aE 0) (aH 0) sZ] [wX5 T aP sP, wX9 T aW (aP 0) (aS 0) (aD 0) (aQ 0) sW, wX0 T aK (aP 0) (aS 0) (aB 0) (aC 0) sK, wX10 T aZ (aP 0) (aE 0) (aH 0) sZ] base sz) (zQxi D out.1 [wX5 T aP out.2.1, wX9 T aW (aP 0) (aS 0) (aD 0) (aQ 0) out.2.2.1, wX0 T aK (aP 0) (aS 0) (aB 0) (aC 0) out.2.2.2.1, wX10 T aZ (aP 0) (aE 0) (aH 0) out.2.2.2.2] (zA [wX5 T aP sP, wX9 T aW (aP 0) (aS 0) (aD 0) (aQ 0) sW, wX0 T aK (aP 0) (aS 0) (aB 0) (aC 0) sK, wX10 T aZ (aP 0) (aE 0) (aH 0) sZ] sz)) (zXxi D out.1 [wX5 T aP out.2.1, wX9 T aW (aP 0) (aS 0) (aD 0) (aQ 0) out.2.2.1, wX0 T aK (aP 0) (aS 0) (aB 0) (aC 0) out.2.2.2.1, wX10 T aZ (aP 0) (aE 0) (aH 0) out.2.2.2.2] (zA [wX5 T aP sP, wX9 T aW (aP 0) (aS 0) (aD 0) (aQ 0) sW, wX0 T aK (aP 0) (aS 0) (aB 0) (aC 0) sK, wX10 T aZ (aP 0) (aE 0) (aH 0) sZ] sz)) 2 12 (zA [wX5 T aP sP, wX9 T aW (aP 0) (aS 0) (aD 0) (aQ 0) sW, wX0 T aK (aP 0) (aS 0) (aB 0) (aC 0) sK, wX10 T aZ (aP 0) (aE 0) (aH 0) sZ] sz) :=
  zMetXi hst (D := D) (T := T) (av := [.ref (aO 0), .int x1, .int x2]) (ws := fun T => [wX11 T aO (aP 0) (aX 0) (aL 0) (aW 0) (aV 0) (aF 0) (aK 0) (aZ 0) (aR 0) aN sO, wX5 T aP sP, wX9 T aW (aP 0) (aS 0) (aD 0) (aQ 0) sW, wX0 T aK (aP 0) (aS 0) (aB 0) (aC 0) sK, wX10 T aZ (aP 0) (aE 0) (aH 0) sZ]) (wm := fun T => [wX5 T aP sP, wX9 T aW (aP 0) (aS 0) (aD 0) (aQ 0) sW, wX0 T aK (aP 0) (aS 0) (aB 0) (aC 0) sK, wX10 T aZ (aP 0) (aE 0) (aH 0) sZ]) (gm1 := fun T => [wX5 T aP out.2.1, wX9 T aW (aP 0) (aS 0) (aD 0) (aQ 0) out.2.2.1, wX0 T aK (aP 0) (aS 0) (aB 0) (aC 0) out.2.2.2.1, wX10 T aZ (aP 0) (aE 0) (aH 0) out.2.2.2.2]) (o := out.1) (lv0 := [(0, .ref (aO 0)), (1, .int x1), (2, .int x2)]) [1, 2, 3, 4] (by decide +kernel) rfl (Nat.le_of_ble_eq_true rfl) rfl (fun C base X Y hQ => bX11_setLeast_0 X Y hQ hf) base sz
/-- public int setGreatest(int, int) throws java.lang.IndexOutOfBoundsException, java.lang.IllegalArgumentException; of Tableaufloor -/
abbrev rmX11_setGreatest : Room := { frames := 7, cells := 2, slots := 12, locals := 103 }
def fX11_setGreatest (sO : zSt) (sP : zSt) (sW : zSt) (sK : zSt) (sZ : zSt) (x1 : Int32) (x2 : Int32) : Option ((String ⊕ Int32) × zSt × zSt × zSt × zSt) :=
  ((fX11_demandVariable sO sP x1).bind (fun o2 =>
    (Sum.elim (fun E2 => some (.inl E2, sP, sW, sK, sZ)) (fun r2 =>
    ((fX5_leastOf sP x1).bind (fun o10 =>
    ((fX11_areBounds o10 x2).bind (fun o14 =>
    (if o14 = 0 then
    some (.inl "java/lang/IllegalArgumentException", sP, sW, sK, sZ)
  else
    ((fX5_greatestOf sP x1).bind (fun o35 =>
      ((fX5_leastOf sP x1).bind (fun o49 =>
      ((fX5_putBounds sP x1 o49 x2).bind (fun o53 =>
      ((fX11_forgetAnswers sO sW sK sZ).bind (fun o57 =>
      some (.inr o35, o53, o57.1, o57.2.1, o57.2.2))))))))))))))) o2)))
theorem bX11_setGreatest_0 {C : zCtx} (X : zFx C cX11_setGreatest 4 RX11 rmX11_setGreatest (some .int)) {base : Nat} (Y : zFy C base) {aO : Nat → Nat} {aP : Nat → Nat} {aX : Nat → Nat} {aL : Nat → Nat} {aW : Nat → Nat} {aV : Nat → Nat} {aF : Nat → Nat} {aK : Nat → Nat} {aZ : Nat → Nat} {aR : Nat → Nat} {aS : Nat → Nat} {aD : Nat → Nat} {aQ : Nat → Nat} {aB : Nat → Nat} {aC : Nat → Nat} {aE : Nat → Nat} {aH : Nat → Nat} {aN : Nat → Nat} {sO : zSt} {sP : zSt} {sW : zSt} {sK : zSt} {sZ : zSt} {x1 : Int32} {x2 : Int32} {out : (String ⊕ Int32) × zSt × zSt × zSt × zSt} (hQ : zXi C out.1 [wX5 (zcT C) aP out.2.1, wX9 (zcT C) aW (aP 0) (aS 0) (aD 0) (aQ 0) out.2.2.1, wX0 (zcT C) aK (aP 0) (aS 0) (aB 0) (aC 0) out.2.2.2.1, wX10 (zcT C) aZ (aP 0) (aE 0) (aH 0) out.2.2.2.2] 2 12) (h : fX11_setGreatest sO sP sW sK sZ x1 x2 = some out) : zG C 4 [1, 2, 3, 4] 0 0 [wX11 (zcT C) aO (aP 0) (aX 0) (aL 0) (aW 0) (aV 0) (aF 0) (aK 0) (aZ 0) (aR 0) aN sO, wX5 (zcT C) aP sP, wX9 (zcT C) aW (aP 0) (aS 0) (aD 0) (aQ 0) sW, wX0 (zcT C) aK (aP 0) (aS 0) (aB 0) (aC 0) sK, wX10 (zcT C) aZ (aP 0) (aE 0) (aH 0) sZ] 0 [(0, .ref (aO 0)), (1, .int x1), (2, .int x2)] [] := by
  unfold fX11_setGreatest at h
  refine z_aload_n X dX11_setGreatest_0 0 rfl ?_
  refine z_iload_n X dX11_setGreatest_1 1 rfl ?_
  obtain ⟨o2, ho2, h⟩ := zbind_of h
  refine z_xcallVv (st := []) (ws2 := [wX11 (zcT C) aO (aP 0) (aX 0) (aL 0) (aW 0) (aV 0) (aF 0) (aK 0) (aZ 0) (aR 0) aN sO, wX5 (zcT C) aP sP, wX9 (zcT C) aW (aP 0) (aS 0) (aD 0) (aQ 0) sW, wX0 (zcT C) aK (aP 0) (aS 0) (aB 0) (aC 0) sK, wX10 (zcT C) aZ (aP 0) (aE 0) (aH 0) sZ]) X Y (metX11_demandVariable (zcl C) Y.2.2.2.2.1 (zcD C) (zcT C) aO aP aX aL aW aV aF aK aZ aR aN ho2) zmX11_demandVariable zw858 dX11_setGreatest_2 0 0 12 rfl rfl rfl rfl [0, 1] rfl rfl [] rfl (by decide) trivial rfl rfl rfl (Nat.le_of_ble_eq_true rfl) rfl rfl ⟨Nat.le_of_ble_eq_true rfl, Nat.le_of_ble_eq_true rfl⟩ ⟨Nat.le_of_ble_eq_true rfl, Nat.le_of_ble_eq_true rfl⟩ (fun E2 hE2 => ?_) (fun r2 hr2 => ?_)
  · replace h := zsum_l h hE2
    cases h
    exact z_xouti X Y hQ rfl [1, 2, 3, 4] rfl (by decide) (by decide)
  replace h := zsum_r h hr2
  refine z_aload_n X dX11_setGreatest_5 0 rfl ?_
  refine z_get (v := .ref (aP 0)) X 0 0 12 0 ziX11 rfl (by decide) zw373 rfl dX11_setGreatest_6 rfl rfl rfl ?_
  refine z_iload_n X dX11_setGreatest_9 1 rfl ?_
  obtain ⟨o10, ho10, h⟩ := zbind_of h
  refine z_callVi (st := []) (ws2 := [wX11 (zcT C) aO (aP 0) (aX 0) (aL 0) (aW 0) (aV 0) (aF 0) (aK 0) (aZ 0) (aR 0) aN sO, wX5 (zcT C) aP sP, wX9 (zcT C) aW (aP 0) (aS 0) (aD 0) (aQ 0) sW, wX0 (zcT C) aK (aP 0) (aS 0) (aB 0) (aC 0) sK, wX10 (zcT C) aZ (aP 0) (aE 0) (aH 0) sZ]) X (metX5_leastOf (zcl C) (zcD C) (zcT C) aP ho10) zmX5_leastOf zw880 dX11_setGreatest_10 1 0 6 rfl rfl rfl rfl [1] rfl rfl [] rfl (by decide) trivial rfl rfl rfl (Nat.le_of_ble_eq_true rfl) rfl rfl ⟨Nat.le_of_ble_eq_true rfl, Nat.le_of_ble_eq_true rfl⟩ ⟨Nat.le_of_ble_eq_true rfl, Nat.le_of_ble_eq_true rfl⟩ ?_
  refine z_iload_n X dX11_setGreatest_13 2 rfl ?_
  obtain ⟨o14, ho14, h⟩ := zbind_of h
  refine z_callSi (st := []) (ws2 := [wX11 (zcT C) aO (aP 0) (aX 0) (aL 0) (aW 0) (aV 0) (aF 0) (aK 0) (aZ 0) (aR 0) aN sO, wX5 (zcT C) aP sP, wX9 (zcT C) aW (aP 0) (aS 0) (aD 0) (aQ 0) sW, wX0 (zcT C) aK (aP 0) (aS 0) (aB 0) (aC 0) sK, wX10 (zcT C) aZ (aP 0) (aE 0) (aH 0) sZ]) X (metX11_areBounds (zcl C) (zcD C) (zcT C)  ho14) zmX11_areBounds zw753 dX11_setGreatest_14 [] rfl rfl [] rfl (by decide) trivial rfl rfl rfl (Nat.le_of_ble_eq_true rfl) rfl rfl ⟨Nat.le_of_ble_eq_true rfl, Nat.le_of_ble_eq_true rfl⟩ ⟨Nat.le_of_ble_eq_true rfl, Nat.le_of_ble_eq_true rfl⟩ ?_
  refine z_if_ne (tgt := 30) X dX11_setGreatest_17 (by decide) (fun c17 => ?_) (fun c17 => ?_)
  · replace h := zif_f h c17
    refine z_aload_n X dX11_setGreatest_30 0 rfl ?_
    refine z_get (v := .ref (aP 0)) X 0 0 12 0 ziX11 rfl (by decide) zw373 rfl dX11_setGreatest_31 rfl rfl rfl ?_
    refine z_iload_n X dX11_setGreatest_34 1 rfl ?_
    obtain ⟨o35, ho35, h⟩ := zbind_of h
    refine z_callVi (st := []) (ws2 := [wX11 (zcT C) aO (aP 0) (aX 0) (aL 0) (aW 0) (aV 0) (aF 0) (aK 0) (aZ 0) (aR 0) aN sO, wX5 (zcT C) aP sP, wX9 (zcT C) aW (aP 0) (aS 0) (aD 0) (aQ 0) sW, wX0 (zcT C) aK (aP 0) (aS 0) (aB 0) (aC 0) sK, wX10 (zcT C) aZ (aP 0) (aE 0) (aH 0) sZ]) X (metX5_greatestOf (zcl C) (zcD C) (zcT C) aP ho35) zmX5_greatestOf zw878 dX11_setGreatest_35 1 0 6 rfl rfl rfl rfl [1] rfl rfl [] rfl (by decide) trivial rfl rfl rfl (Nat.le_of_ble_eq_true rfl) rfl rfl ⟨Nat.le_of_ble_eq_true rfl, Nat.le_of_ble_eq_true rfl⟩ ⟨Nat.le_of_ble_eq_true rfl, Nat.le_of_ble_eq_true rfl⟩ ?_
    refine z_istore_n (lv2 := [(3, .int o35), (0, .ref (aO 0)), (1, .int x1), (2, .int x2)]) X dX11_setGreatest_38 rfl (by decide) rfl ?_
    refine z_aload_n X dX11_setGreatest_39 1 rfl ?_
    refine z_get (v := .ref (aP 0)) X 0 0 12 0 ziX11 rfl (by decide) zw373 rfl dX11_setGreatest_40 rfl rfl rfl ?_
    refine z_iload_n X dX11_setGreatest_43 2 rfl ?_
    refine z_aload_n X dX11_setGreatest_44 1 rfl ?_
    refine z_get (v := .ref (aP 0)) X 0 0 12 0 ziX11 rfl (by decide) zw373 rfl dX11_setGreatest_45 rfl rfl rfl ?_
    refine z_iload_n X dX11_setGreatest_48 2 rfl ?_
    obtain ⟨o49, ho49, h⟩ := zbind_of h
    refine z_callVi (st := [.int x1, .ref (aP 0)]) (ws2 := [wX11 (zcT C) aO (aP 0) (aX 0) (aL 0) (aW 0) (aV 0) (aF 0) (aK 0) (aZ 0) (aR 0) aN sO, wX5 (zcT C) aP sP, wX9 (zcT C) aW (aP 0) (aS 0) (aD 0) (aQ 0) sW, wX0 (zcT C) aK (aP 0) (aS 0) (aB 0) (aC 0) sK, wX10 (zcT C) aZ (aP 0) (aE 0) (aH 0) sZ]) X (metX5_leastOf (zcl C) (zcD C) (zcT C) aP ho49) zmX5_leastOf zw880 dX11_setGreatest_49 1 0 6 rfl rfl rfl rfl [1] rfl rfl [] rfl (by decide) trivial rfl rfl rfl (Nat.le_of_ble_eq_true rfl) rfl rfl ⟨Nat.le_of_ble_eq_true rfl, Nat.le_of_ble_eq_true rfl⟩ ⟨Nat.le_of_ble_eq_true rfl, Nat.le_of_ble_eq_true rfl⟩ ?_
    refine z_iload_n X dX11_setGreatest_52 3 rfl ?_
    obtain ⟨o53, ho53, h⟩ := zbind_of h
    refine z_callVv (st := []) (ws2 := [wX11 (zcT C) aO (aP 0) (aX 0) (aL 0) (aW 0) (aV 0) (aF 0) (aK 0) (aZ 0) (aR 0) aN sO, wX5 (zcT C) aP o53, wX9 (zcT C) aW (aP 0) (aS 0) (aD 0) (aQ 0) sW, wX0 (zcT C) aK (aP 0) (aS 0) (aB 0) (aC 0) sK, wX10 (zcT C) aZ (aP 0) (aE 0) (aH 0) sZ]) X (metX5_putBounds (zcl C) (zcD C) (zcT C) aP ho53) zmX5_putBounds zw881 dX11_setGreatest_53 1 0 6 rfl rfl rfl rfl [1] rfl rfl [1] rfl (by decide) ⟨zsX5 , trivial⟩ rfl rfl rfl (Nat.le_of_ble_eq_true rfl) rfl rfl ⟨Nat.le_of_ble_eq_true rfl, Nat.le_of_ble_eq_true rfl⟩ ⟨Nat.le_of_ble_eq_true rfl, Nat.le_of_ble_eq_true rfl⟩ ?_
    refine z_aload_n X dX11_setGreatest_56 1 rfl ?_
    obtain ⟨o57, ho57, h⟩ := zbind_of h
    refine z_callVv (st := []) (ws2 := [wX11 (zcT C) aO (aP 0) (aX 0) (aL 0) (aW 0) (aV 0) (aF 0) (aK 0) (aZ 0) (aR 0) aN sO, wX5 (zcT C) aP o53, wX9 (zcT C) aW (aP 0) (aS 0) (aD 0) (aQ 0) o57.1, wX0 (zcT C) aK (aP 0) (aS 0) (aB 0) (aC 0) o57.2.1, wX10 (zcT C) aZ (aP 0) (aE 0) (aH 0) o57.2.2]) X (metX11_forgetAnswers (zcl C) (zcD C) (zcT C) aO aP aX aL aW aV aF aK aZ aR aS aD aQ aB aC aE aH aN ho57) zmX11_forgetAnswers zw480 dX11_setGreatest_57 0 0 12 rfl rfl rfl rfl [0, 2, 3, 4] rfl rfl [2, 3, 4] rfl (by decide) ⟨zsX9 , ⟨zsX0 , ⟨zsX10 , trivial⟩⟩⟩ rfl rfl rfl (Nat.le_of_ble_eq_true rfl) rfl rfl ⟨Nat.le_of_ble_eq_true rfl, Nat.le_of_ble_eq_true rfl⟩ ⟨Nat.le_of_ble_eq_true rfl, Nat.le_of_ble_eq_true rfl⟩ ?_
    refine z_iload_n X dX11_setGreatest_60 0 rfl ?_
    cases h
    exact z_xiret X hQ dX11_setGreatest_61 rfl [1, 2, 3, 4] rfl (by decide) (by decide)
  · replace h := zif_t h c17
    cases h
    exact z_throwi X Y hQ rfl zt_RX11_87 zs_889 dX11_setGreatest_20 dX11_setGreatest_23 dX11_setGreatest_24 dX11_setGreatest_26 dX11_setGreatest_29 [1, 2, 3, 4] rfl (by decide) (by decide) (by decide) (by decide) (by decide) (by decide)
theorem metX11_setGreatest (l : Launch) (hst : l.stackTraces = false) (D : va_G) (T : Nat → ClassId) (aO : Nat → Nat) (aP : Nat → Nat) (aX : Nat → Nat) (aL : Nat → Nat) (aW : Nat → Nat) (aV : Nat → Nat) (aF : Nat → Nat) (aK : Nat → Nat) (aZ : Nat → Nat) (aR : Nat → Nat) (aS : Nat → Nat) (aD : Nat → Nat) (aQ : Nat → Nat) (aB : Nat → Nat) (aC : Nat → Nat) (aE : Nat → Nat) (aH : Nat → Nat) (aN : Nat → Nat) {sO : zSt} {sP : zSt} {sW : zSt} {sK : zSt} {sZ : zSt} {x1 : Int32} {x2 : Int32} {out : (String ⊕ Int32) × zSt × zSt × zSt × zSt} (hf : fX11_setGreatest sO sP sW sK sZ x1 x2 = some out) (base sz : Nat) : vx_Met l yX11_setGreatest (zws yX11_setGreatest cX11_setGreatest 4 (some .int)) rmX11_setGreatest (zPx D T [.ref (aO 0), .int x1, .int x2] [wX11 T aO (aP 0) (aX 0) (aL 0) (aW 0) (aV 0) (aF 0) (aK 0) (aZ 0) (aR 0) aN sO, wX5 T aP sP, wX9 T aW (aP 0) (aS 0) (aD 0) (aQ 0) sW, wX0 T aK (aP 0) (aS 0) (aB 0) (aC 0) sK, wX10 T aZ (aP 0) (aE 0) (aH 0) sZ] [wX5 T aP sP, wX9 T aW (aP 0) (aS 0) (aD 0) (aQ 0) sW, wX0 T aK (aP 0) (aS 0) (aB 0) (aC 0) sK, wX10 T aZ (aP 0) (aE 0) (aH 0) sZ] base sz) (zQxi D out.1 [wX5 T aP out.2.1, wX9 T aW (aP 0) (aS 0) (aD 0) (aQ 0) out.2.2.1, wX0 T aK (aP 0) (aS 0) (aB 0) (aC 0) out.2.2.2.1, wX10 T aZ (aP 0) (aE 0) (aH 0) out.2.2.2.2] (zA [wX5 T aP sP, wX9 T aW (aP 0) (aS 0) (aD 0) (aQ 0) sW, wX0 T aK (aP 0) (aS 0) (aB 0) (aC 0) sK, wX10 T aZ (aP 0) (aE 0) (aH 0) sZ] sz)) (zXxi D out.1 [wX5 T aP out.2.1, wX9 T aW (aP 0) (aS 0) (aD 0) (aQ 0) out.2.2.1, wX0 T aK (aP 0) (aS 0) (aB 0) (aC 0) out.2.2.2.1, wX10 T aZ (aP 0) (aE 0) (aH 0) out.2.2.2.2] (zA [wX5 T aP sP, wX9 T aW (aP 0) (aS 0) (aD 0) (aQ 0) sW, wX0 T aK (aP 0) (aS 0) (aB 0) (aC 0) sK, wX10 T aZ (aP 0) (aE 0) (aH 0) sZ] sz)) 2 12 (zA [wX5 T aP sP, wX9 T aW (aP 0) (aS 0) (aD 0) (aQ 0) sW, wX0 T aK (aP 0) (aS 0) (aB 0) (aC 0) sK, wX10 T aZ (aP 0) (aE 0) (aH 0) sZ] sz) :=
  zMetXi hst (D := D) (T := T) (av := [.ref (aO 0), .int x1, .int x2]) (ws := fun T => [wX11 T aO (aP 0) (aX 0) (aL 0) (aW 0) (aV 0) (aF 0) (aK 0) (aZ 0) (aR 0) aN sO, wX5 T aP sP, wX9 T aW (aP 0) (aS 0) (aD 0) (aQ 0) sW, wX0 T aK (aP 0) (aS 0) (aB 0) (aC 0) sK, wX10 T aZ (aP 0) (aE 0) (aH 0) sZ]) (wm := fun T => [wX5 T aP sP, wX9 T aW (aP 0) (aS 0) (aD 0) (aQ 0) sW, wX0 T aK (aP 0) (aS 0) (aB 0) (aC 0) sK, wX10 T aZ (aP 0) (aE 0) (aH 0) sZ]) (gm1 := fun T => [wX5 T aP out.2.1, wX9 T aW (aP 0) (aS 0) (aD 0) (aQ 0) out.2.2.1, wX0 T aK (aP 0) (aS 0) (aB 0) (aC 0) out.2.2.2.1, wX10 T aZ (aP 0) (aE 0) (aH 0) out.2.2.2.2]) (o := out.1) (lv0 := [(0, .ref (aO 0)), (1, .int x1), (2, .int x2)]) [1, 2, 3, 4] (by decide +kernel) rfl (Nat.le_of_ble_eq_true rfl) rfl (fun C base X Y hQ => bX11_setGreatest_0 X Y hQ hf) base sz
/-- public int type(char) throws java.lang.IllegalArgumentException, java.lang.IllegalStateException; of Tableaufloor -/
abbrev rmX11_type : Room := { frames := 6, cells := 1, slots := 6, locals := 82 }
def fX11_type (sO : zSt) (sX : zSt) (x1 : Int32) : Option ((String ⊕ Int32) × zSt) :=
  ((fX8_canBeTyped x1).bind (fun o1 =>
    (if o1 = 0 then
    some (.inl "java/lang/IllegalArgumentException", sX)
  else
    (if (zgi sX 2) < (30 : Int32) then
      ((fX8_append sX x1).bind (fun o44 =>
        some (.inr o44.1, o44.2)))
    else
      some (.inl "java/lang/IllegalStateException", sX)))))
theorem bX11_type_0 {C : zCtx} (X : zFx C cX11_type 2 RX11 rmX11_type (some .int)) {base : Nat} (Y : zFy C base) {aO : Nat → Nat} {aP : Nat → Nat} {aX : Nat → Nat} {aL : Nat → Nat} {aW : Nat → Nat} {aV : Nat → Nat} {aF : Nat → Nat} {aK : Nat → Nat} {aZ : Nat → Nat} {aR : Nat → Nat} {aN : Nat → Nat} {sO : zSt} {sX : zSt} {x1 : Int32} {out : (String ⊕ Int32) × zSt} (hQ : zXi C out.1 [wX8 (zcT C) aX out.2] 1 6) (h : fX11_type sO sX x1 = some out) : zG C 2 [1] 0 0 [wX11 (zcT C) aO (aP 0) (aX 0) (aL 0) (aW 0) (aV 0) (aF 0) (aK 0) (aZ 0) (aR 0) aN sO, wX8 (zcT C) aX sX] 0 [(0, .ref (aO 0)), (1, .int x1)] [] := by
  unfold fX11_type at h
  refine z_iload_n X dX11_type_0 1 rfl ?_
  obtain ⟨o1, ho1, h⟩ := zbind_of h
  refine z_callSi (st := []) (ws2 := [wX11 (zcT C) aO (aP 0) (aX 0) (aL 0) (aW 0) (aV 0) (aF 0) (aK 0) (aZ 0) (aR 0) aN sO, wX8 (zcT C) aX sX]) X (metX8_canBeTyped (zcl C) (zcD C) (zcT C)  ho1) zmX8_canBeTyped zw897 dX11_type_1 [] rfl rfl [] rfl (by decide) trivial rfl rfl rfl (Nat.le_of_ble_eq_true rfl) rfl rfl ⟨Nat.le_of_ble_eq_true rfl, Nat.le_of_ble_eq_true rfl⟩ ⟨Nat.le_of_ble_eq_true rfl, Nat.le_of_ble_eq_true rfl⟩ ?_
  refine z_if_ne (tgt := 17) X dX11_type_4 (by decide) (fun c4 => ?_) (fun c4 => ?_)
  · replace h := zif_f h c4
    refine z_aload_n X dX11_type_17 0 rfl ?_
    refine z_get (v := .ref (aX 0)) X 0 0 12 1 ziX11 rfl (by decide) zw374 rfl dX11_type_18 rfl rfl rfl ?_
    refine z_getN (v := .int (zgi sX 2)) X 1 0 9 2 ziX8 rfl (by decide) zw110 rfl dX11_type_21 rfl rfl rfl ?_
    refine z_bipush (v := (30 : Int32)) X dX11_type_24 rfl ?_
    refine z_icmp_lt (tgt := 39) X dX11_type_26 (by decide) (fun c26 => ?_) (fun c26 => ?_)
    · replace h := zif_t h c26
      refine z_aload_n X dX11_type_39 0 rfl ?_
      refine z_get (v := .ref (aX 0)) X 0 0 12 1 ziX11 rfl (by decide) zw374 rfl dX11_type_40 rfl rfl rfl ?_
      refine z_iload_n X dX11_type_43 1 rfl ?_
      obtain ⟨o44, ho44, h⟩ := zbind_of h
      refine z_callVi (st := []) (ws2 := [wX11 (zcT C) aO (aP 0) (aX 0) (aL 0) (aW 0) (aV 0) (aF 0) (aK 0) (aZ 0) (aR 0) aN sO, wX8 (zcT C) aX o44.2]) X (metX8_append (zcl C) (zcD C) (zcT C) aX ho44) zmX8_append zw902 dX11_type_44 1 0 9 rfl rfl rfl rfl [1] rfl rfl [1] rfl (by decide) ⟨zsX8 , trivial⟩ rfl rfl rfl (Nat.le_of_ble_eq_true rfl) rfl rfl ⟨Nat.le_of_ble_eq_true rfl, Nat.le_of_ble_eq_true rfl⟩ ⟨Nat.le_of_ble_eq_true rfl, Nat.le_of_ble_eq_true rfl⟩ ?_
      cases h
      exact z_xiret X hQ dX11_type_47 rfl [1] rfl (by decide) (by decide)
    · replace h := zif_f h c26
      cases h
      exact z_throwi X Y hQ rfl zt_RX11_98 zs_901 dX11_type_29 dX11_type_32 dX11_type_33 dX11_type_35 dX11_type_38 [1] rfl (by decide) (by decide) (by decide) (by decide) (by decide) (by decide)
  · replace h := zif_t h c4
    cases h
    exact z_throwi X Y hQ rfl zt_RX11_87 zs_900 dX11_type_7 dX11_type_10 dX11_type_11 dX11_type_13 dX11_type_16 [1] rfl (by decide) (by decide) (by decide) (by decide) (by decide) (by decide)
theorem metX11_type (l : Launch) (hst : l.stackTraces = false) (D : va_G) (T : Nat → ClassId) (aO : Nat → Nat) (aP : Nat → Nat) (aX : Nat → Nat) (aL : Nat → Nat) (aW : Nat → Nat) (aV : Nat → Nat) (aF : Nat → Nat) (aK : Nat → Nat) (aZ : Nat → Nat) (aR : Nat → Nat) (aN : Nat → Nat) {sO : zSt} {sX : zSt} {x1 : Int32} {out : (String ⊕ Int32) × zSt} (hf : fX11_type sO sX x1 = some out) (base sz : Nat) : vx_Met l yX11_type (zws yX11_type cX11_type 2 (some .int)) rmX11_type (zPx D T [.ref (aO 0), .int x1] [wX11 T aO (aP 0) (aX 0) (aL 0) (aW 0) (aV 0) (aF 0) (aK 0) (aZ 0) (aR 0) aN sO, wX8 T aX sX] [wX8 T aX sX] base sz) (zQxi D out.1 [wX8 T aX out.2] (zA [wX8 T aX sX] sz)) (zXxi D out.1 [wX8 T aX out.2] (zA [wX8 T aX sX] sz)) 1 6 (zA [wX8 T aX sX] sz) :=
  zMetXi hst (D := D) (T := T) (av := [.ref (aO 0), .int x1]) (ws := fun T => [wX11 T aO (aP 0) (aX 0) (aL 0) (aW 0) (aV 0) (aF 0) (aK 0) (aZ 0) (aR 0) aN sO, wX8 T aX sX]) (wm := fun T => [wX8 T aX sX]) (gm1 := fun T => [wX8 T aX out.2]) (o := out.1) (lv0 := [(0, .ref (aO 0)), (1, .int x1)]) [1] (by decide +kernel) rfl (Nat.le_of_ble_eq_true rfl) rfl (fun C base X Y hQ => bX11_type_0 X Y hQ hf) base sz
/-- public int erase(); of Tableaufloor -/
abbrev rmX11_erase : Room := { frames := 0, cells := 0, slots := 0, locals := 0 }
def fX11_erase (sO : zSt) (sX : zSt) : Option (Int32 × zSt) :=
  (zlet (zgi sX 2) (fun v7 =>
    (zlet (zsi sX 2 (0 : Int32)) (fun sX13 =>
    some (v7, sX13)))))
theorem bX11_erase_0 {C : zCtx} (X : zFx C cX11_erase 2 RX11 rmX11_erase (some .int)) {aO : Nat → Nat} {aP : Nat → Nat} {aX : Nat → Nat} {aL : Nat → Nat} {aW : Nat → Nat} {aV : Nat → Nat} {aF : Nat → Nat} {aK : Nat → Nat} {aZ : Nat → Nat} {aR : Nat → Nat} {aN : Nat → Nat} {sO : zSt} {sX : zSt} {out : Int32 × zSt} (hQ : zHi C out.1 [wX8 (zcT C) aX out.2] 0 0) (h : fX11_erase sO sX = some out) : zG C 2 [1] 0 0 [wX11 (zcT C) aO (aP 0) (aX 0) (aL 0) (aW 0) (aV 0) (aF 0) (aK 0) (aZ 0) (aR 0) aN sO, wX8 (zcT C) aX sX] 0 [(0, .ref (aO 0))] [] := by
  unfold fX11_erase at h
  refine z_aload_n X dX11_erase_0 0 rfl ?_
  refine z_get (v := .ref (aX 0)) X 0 0 12 1 ziX11 rfl (by decide) zw374 rfl dX11_erase_1 rfl rfl rfl ?_
  refine z_getN (v := .int (zgi sX 2)) X 1 0 9 2 ziX8 rfl (by decide) zw110 rfl dX11_erase_4 rfl rfl rfl ?_
  obtain ⟨v7, ev7, h⟩ := zlet_of h
  refine z_topi ev7 ?_
  refine z_istore_n (lv2 := [(1, .int v7), (0, .ref (aO 0))]) X dX11_erase_7 rfl (by decide) rfl ?_
  refine z_aload_n X dX11_erase_8 1 rfl ?_
  refine z_get (v := .ref (aX 0)) X 0 0 12 1 ziX11 rfl (by decide) zw374 rfl dX11_erase_9 rfl rfl rfl ?_
  refine z_iconst (v := (0 : Int32)) X dX11_erase_12 rfl ?_
  obtain ⟨sX13, esX13, h⟩ := zlet_of h
  refine z_putN (ws2 := [wX11 (zcT C) aO (aP 0) (aX 0) (aL 0) (aW 0) (aV 0) (aF 0) (aK 0) (aZ 0) (aR 0) aN sO, wX8 (zcT C) aX sX13]) X 1 0 9 2 ziX8 rfl tyX8 tyX8_ok nmX8 (by decide) zw110 rfl rfl (ty := .int) (by decide +kernel) rfl rfl (by show 2 < 10; decide) dX11_erase_13 rfl rfl (by decide) (w2 := wX8 (zcT C) aX sX13) (by rw [esX13]; rfl) rfl ?_
  refine z_iload_n X dX11_erase_16 0 rfl ?_
  cases h
  exact z_iret X hQ dX11_erase_17 rfl [1] rfl (by decide) (by decide)
theorem metX11_erase (l : Launch) (D : va_G) (T : Nat → ClassId) (aO : Nat → Nat) (aP : Nat → Nat) (aX : Nat → Nat) (aL : Nat → Nat) (aW : Nat → Nat) (aV : Nat → Nat) (aF : Nat → Nat) (aK : Nat → Nat) (aZ : Nat → Nat) (aR : Nat → Nat) (aN : Nat → Nat) {sO : zSt} {sX : zSt} {out : Int32 × zSt} (hf : fX11_erase sO sX = some out) (sz : Nat) : Met l yX11_erase (zws yX11_erase cX11_erase 2 (some .int)) rmX11_erase (zPc D T [.ref (aO 0)] [wX11 T aO (aP 0) (aX 0) (aL 0) (aW 0) (aV 0) (aF 0) (aK 0) (aZ 0) (aR 0) aN sO, wX8 T aX sX] sz) (zQi D out.1 [wX8 T aX out.2] (zA [wX8 T aX sX] sz)) 0 0 (zA [wX8 T aX sX] sz) :=
  zMet (D := D) (T := T) (av := [.ref (aO 0)]) (ws := fun T => [wX11 T aO (aP 0) (aX 0) (aL 0) (aW 0) (aV 0) (aF 0) (aK 0) (aZ 0) (aR 0) aN sO, wX8 T aX sX]) (wm := fun T => [wX8 T aX sX]) (lv0 := [(0, .ref (aO 0))]) [1] (Qc := fun D T A => zQi D out.1 [wX8 T aX out.2] A) (by decide +kernel) rfl (Nat.le_of_ble_eq_true rfl) rfl (fun C X hQ => bX11_erase_0 X hQ hf) sz
/-- public char fault(); of Tableaufloor -/
abbrev rmX11_fault : Room := { frames := 6, cells := 0, slots := 0, locals := 125 }
def fX11_fault (sO : zSt) (sP : zSt) (sX : zSt) : Option (Int32 × zSt) :=
  ((fX8_read sX (zgi sP 8)).bind (fun o11 =>
    (if znar .char (zgi o11 5) = true then
    some ((zgi o11 5), o11) else none)))
theorem bX11_fault_0 {C : zCtx} (X : zFx C cX11_fault 1 RX11 rmX11_fault (some .char)) {aO : Nat → Nat} {aP : Nat → Nat} {aX : Nat → Nat} {aL : Nat → Nat} {aW : Nat → Nat} {aV : Nat → Nat} {aF : Nat → Nat} {aK : Nat → Nat} {aZ : Nat → Nat} {aR : Nat → Nat} {aN : Nat → Nat} {sO : zSt} {sP : zSt} {sX : zSt} {out : Int32 × zSt} (hQ : zHi C out.1 [wX8 (zcT C) aX out.2] 0 0) (h : fX11_fault sO sP sX = some out) : zG C 1 [2] 0 0 [wX11 (zcT C) aO (aP 0) (aX 0) (aL 0) (aW 0) (aV 0) (aF 0) (aK 0) (aZ 0) (aR 0) aN sO, wX5 (zcT C) aP sP, wX8 (zcT C) aX sX] 0 [(0, .ref (aO 0))] [] := by
  unfold fX11_fault at h
  refine z_aload_n X dX11_fault_0 0 rfl ?_
  refine z_get (v := .ref (aX 0)) X 0 0 12 1 ziX11 rfl (by decide) zw374 rfl dX11_fault_1 rfl rfl rfl ?_
  refine z_aload_n X dX11_fault_4 0 rfl ?_
  refine z_get (v := .ref (aP 0)) X 0 0 12 0 ziX11 rfl (by decide) zw373 rfl dX11_fault_5 rfl rfl rfl ?_
  refine z_getN (v := .int (zgi sP 8)) X 1 0 6 8 ziX5 rfl (by decide) zw57 rfl dX11_fault_8 rfl rfl rfl ?_
  obtain ⟨o11, ho11, h⟩ := zbind_of h
  refine z_callVv (st := []) (ws2 := [wX11 (zcT C) aO (aP 0) (aX 0) (aL 0) (aW 0) (aV 0) (aF 0) (aK 0) (aZ 0) (aR 0) aN sO, wX5 (zcT C) aP sP, wX8 (zcT C) aX o11]) X (metX8_read (zcl C) (zcD C) (zcT C) aX ho11) zmX8_read zw412 dX11_fault_11 2 0 9 rfl rfl rfl rfl [2] rfl rfl [2] rfl (by decide) ⟨zsX8 , trivial⟩ rfl rfl rfl (Nat.le_of_ble_eq_true rfl) rfl rfl ⟨Nat.le_of_ble_eq_true rfl, Nat.le_of_ble_eq_true rfl⟩ ⟨Nat.le_of_ble_eq_true rfl, Nat.le_of_ble_eq_true rfl⟩ ?_
  refine z_aload_n X dX11_fault_14 0 rfl ?_
  refine z_get (v := .ref (aX 0)) X 0 0 12 1 ziX11 rfl (by decide) zw374 rfl dX11_fault_15 rfl rfl rfl ?_
  refine z_getN (v := .int (zgi o11 5)) X 2 0 9 5 ziX8 rfl (by decide) zw114 rfl dX11_fault_18 rfl rfl rfl ?_
  obtain ⟨g21, h⟩ := zgd_of h
  cases h
  exact z_nret X hQ g21 dX11_fault_21 rfl [2] rfl (by decide) (by decide)
theorem metX11_fault (l : Launch) (D : va_G) (T : Nat → ClassId) (aO : Nat → Nat) (aP : Nat → Nat) (aX : Nat → Nat) (aL : Nat → Nat) (aW : Nat → Nat) (aV : Nat → Nat) (aF : Nat → Nat) (aK : Nat → Nat) (aZ : Nat → Nat) (aR : Nat → Nat) (aN : Nat → Nat) {sO : zSt} {sP : zSt} {sX : zSt} {out : Int32 × zSt} (hf : fX11_fault sO sP sX = some out) (sz : Nat) : Met l yX11_fault (zws yX11_fault cX11_fault 1 (some .char)) rmX11_fault (zPc D T [.ref (aO 0)] [wX11 T aO (aP 0) (aX 0) (aL 0) (aW 0) (aV 0) (aF 0) (aK 0) (aZ 0) (aR 0) aN sO, wX5 T aP sP, wX8 T aX sX] sz) (zQi D out.1 [wX8 T aX out.2] (zA [wX8 T aX sX] sz)) 0 0 (zA [wX8 T aX sX] sz) :=
  zMet (D := D) (T := T) (av := [.ref (aO 0)]) (ws := fun T => [wX11 T aO (aP 0) (aX 0) (aL 0) (aW 0) (aV 0) (aF 0) (aK 0) (aZ 0) (aR 0) aN sO, wX5 T aP sP, wX8 T aX sX]) (wm := fun T => [wX8 T aX sX]) (lv0 := [(0, .ref (aO 0))]) [2] (Qc := fun D T A => zQi D out.1 [wX8 T aX out.2] A) (by decide +kernel) rfl (Nat.le_of_ble_eq_true rfl) rfl (fun C X hQ => bX11_fault_0 X hQ hf) sz
/-- public int faultAt() throws java.util.NoSuchElementException; of Tableaufloor -/
abbrev rmX11_faultAt : Room := { frames := 6, cells := 1, slots := 6, locals := 125 }
def fX11_faultAt (sO : zSt) (sP : zSt) (sX : zSt) : Option ((String ⊕ Int32) × zSt) :=
  ((fX8_read sX (zgi sP 8)).bind (fun o11 =>
    ((fX8_hasFault o11).bind (fun o18 =>
    (if o18 = 0 then
    some (.inl "java/util/NoSuchElementException", o11)
  else
    some (.inr (zgi o11 6), o11))))))
theorem bX11_faultAt_0 {C : zCtx} (X : zFx C cX11_faultAt 1 RX11 rmX11_faultAt (some .int)) {base : Nat} (Y : zFy C base) {aO : Nat → Nat} {aP : Nat → Nat} {aX : Nat → Nat} {aL : Nat → Nat} {aW : Nat → Nat} {aV : Nat → Nat} {aF : Nat → Nat} {aK : Nat → Nat} {aZ : Nat → Nat} {aR : Nat → Nat} {aN : Nat → Nat} {sO : zSt} {sP : zSt} {sX : zSt} {out : (String ⊕ Int32) × zSt} (hQ : zXi C out.1 [wX8 (zcT C) aX out.2] 1 6) (h : fX11_faultAt sO sP sX = some out) : zG C 1 [2] 0 0 [wX11 (zcT C) aO (aP 0) (aX 0) (aL 0) (aW 0) (aV 0) (aF 0) (aK 0) (aZ 0) (aR 0) aN sO, wX5 (zcT C) aP sP, wX8 (zcT C) aX sX] 0 [(0, .ref (aO 0))] [] := by
  unfold fX11_faultAt at h
  refine z_aload_n X dX11_faultAt_0 0 rfl ?_
  refine z_get (v := .ref (aX 0)) X 0 0 12 1 ziX11 rfl (by decide) zw374 rfl dX11_faultAt_1 rfl rfl rfl ?_
  refine z_aload_n X dX11_faultAt_4 0 rfl ?_
  refine z_get (v := .ref (aP 0)) X 0 0 12 0 ziX11 rfl (by decide) zw373 rfl dX11_faultAt_5 rfl rfl rfl ?_
  refine z_getN (v := .int (zgi sP 8)) X 1 0 6 8 ziX5 rfl (by decide) zw57 rfl dX11_faultAt_8 rfl rfl rfl ?_
  obtain ⟨o11, ho11, h⟩ := zbind_of h
  refine z_callVv (st := []) (ws2 := [wX11 (zcT C) aO (aP 0) (aX 0) (aL 0) (aW 0) (aV 0) (aF 0) (aK 0) (aZ 0) (aR 0) aN sO, wX5 (zcT C) aP sP, wX8 (zcT C) aX o11]) X (metX8_read (zcl C) (zcD C) (zcT C) aX ho11) zmX8_read zw412 dX11_faultAt_11 2 0 9 rfl rfl rfl rfl [2] rfl rfl [2] rfl (by decide) ⟨zsX8 , trivial⟩ rfl rfl rfl (Nat.le_of_ble_eq_true rfl) rfl rfl ⟨Nat.le_of_ble_eq_true rfl, Nat.le_of_ble_eq_true rfl⟩ ⟨Nat.le_of_ble_eq_true rfl, Nat.le_of_ble_eq_true rfl⟩ ?_
  refine z_aload_n X dX11_faultAt_14 0 rfl ?_
  refine z_get (v := .ref (aX 0)) X 0 0 12 1 ziX11 rfl (by decide) zw374 rfl dX11_faultAt_15 rfl rfl rfl ?_
  obtain ⟨o18, ho18, h⟩ := zbind_of h
  refine z_callVi (st := []) (ws2 := [wX11 (zcT C) aO (aP 0) (aX 0) (aL 0) (aW 0) (aV 0) (aF 0) (aK 0) (aZ 0) (aR 0) aN sO, wX5 (zcT C) aP sP, wX8 (zcT C) aX o11]) X (metX8_hasFault (zcl C) (zcD C) (zcT C) aX ho18) zmX8_hasFault zw914 dX11_faultAt_18 2 0 9 rfl rfl rfl rfl [2] rfl rfl [] rfl (by decide) trivial rfl rfl rfl (Nat.le_of_ble_eq_true rfl) rfl rfl ⟨Nat.le_of_ble_eq_true rfl, Nat.le_of_ble_eq_true rfl⟩ ⟨Nat.le_of_ble_eq_true rfl, Nat.le_of_ble_eq_true rfl⟩ ?_
  refine z_if_ne (tgt := 34) X dX11_faultAt_21 (by decide) (fun c21 => ?_) (fun c21 => ?_)
  · replace h := zif_f h c21
    refine z_aload_n X dX11_faultAt_34 0 rfl ?_
    refine z_get (v := .ref (aX 0)) X 0 0 12 1 ziX11 rfl (by decide) zw374 rfl dX11_faultAt_35 rfl rfl rfl ?_
    refine z_getN (v := .int (zgi o11 6)) X 2 0 9 6 ziX8 rfl (by decide) zw116 rfl dX11_faultAt_38 rfl rfl rfl ?_
    cases h
    exact z_xiret X hQ dX11_faultAt_41 rfl [2] rfl (by decide) (by decide)
  · replace h := zif_t h c21
    cases h
    exact z_throwNi X Y hQ rfl zt_RX11_155 zs_924 dX11_faultAt_24 dX11_faultAt_27 dX11_faultAt_28 dX11_faultAt_30 dX11_faultAt_33 [2] rfl (by decide) (by decide) (by decide) (by decide) (by decide) (by decide)
theorem metX11_faultAt (l : Launch) (hst : l.stackTraces = false) (D : va_G) (T : Nat → ClassId) (aO : Nat → Nat) (aP : Nat → Nat) (aX : Nat → Nat) (aL : Nat → Nat) (aW : Nat → Nat) (aV : Nat → Nat) (aF : Nat → Nat) (aK : Nat → Nat) (aZ : Nat → Nat) (aR : Nat → Nat) (aN : Nat → Nat) {sO : zSt} {sP : zSt} {sX : zSt} {out : (String ⊕ Int32) × zSt} (hf : fX11_faultAt sO sP sX = some out) (base sz : Nat) : vx_Met l yX11_faultAt (zws yX11_faultAt cX11_faultAt 1 (some .int)) rmX11_faultAt (zPx D T [.ref (aO 0)] [wX11 T aO (aP 0) (aX 0) (aL 0) (aW 0) (aV 0) (aF 0) (aK 0) (aZ 0) (aR 0) aN sO, wX5 T aP sP, wX8 T aX sX] [wX8 T aX sX] base sz) (zQxi D out.1 [wX8 T aX out.2] (zA [wX8 T aX sX] sz)) (zXxi D out.1 [wX8 T aX out.2] (zA [wX8 T aX sX] sz)) 1 6 (zA [wX8 T aX sX] sz) :=
  zMetXi hst (D := D) (T := T) (av := [.ref (aO 0)]) (ws := fun T => [wX11 T aO (aP 0) (aX 0) (aL 0) (aW 0) (aV 0) (aF 0) (aK 0) (aZ 0) (aR 0) aN sO, wX5 T aP sP, wX8 T aX sX]) (wm := fun T => [wX8 T aX sX]) (gm1 := fun T => [wX8 T aX out.2]) (o := out.1) (lv0 := [(0, .ref (aO 0))]) [2] (by decide +kernel) rfl (Nat.le_of_ble_eq_true rfl) rfl (fun C base X Y hQ => bX11_faultAt_0 X Y hQ hf) base sz
/-- public boolean isAim(); of Tableaufloor -/
abbrev rmX11_isAim : Room := { frames := 1, cells := 0, slots := 0, locals := 20 }
def fX11_isAim (sO : zSt) (sX : zSt) : Option (Int32) :=
  ((fX8_beginsAsAim sX).bind (fun o4 =>
    (if znar .boolean o4 = true then
    some (o4) else none)))
theorem bX11_isAim_0 {C : zCtx} (X : zFx C cX11_isAim 1 RX11 rmX11_isAim (some .boolean)) {aO : Nat → Nat} {aP : Nat → Nat} {aX : Nat → Nat} {aL : Nat → Nat} {aW : Nat → Nat} {aV : Nat → Nat} {aF : Nat → Nat} {aK : Nat → Nat} {aZ : Nat → Nat} {aR : Nat → Nat} {aN : Nat → Nat} {sO : zSt} {sX : zSt} {out : Int32} (hQ : zHi C out [] 0 0) (h : fX11_isAim sO sX = some out) : zG C 1 [] 0 0 [wX11 (zcT C) aO (aP 0) (aX 0) (aL 0) (aW 0) (aV 0) (aF 0) (aK 0) (aZ 0) (aR 0) aN sO, wX8 (zcT C) aX sX] 0 [(0, .ref (aO 0))] [] := by
  unfold fX11_isAim at h
  refine z_aload_n X dX11_isAim_0 0 rfl ?_
  refine z_get (v := .ref (aX 0)) X 0 0 12 1 ziX11 rfl (by decide) zw374 rfl dX11_isAim_1 rfl rfl rfl ?_
  obtain ⟨o4, ho4, h⟩ := zbind_of h
  refine z_callVi (st := []) (ws2 := [wX11 (zcT C) aO (aP 0) (aX 0) (aL 0) (aW 0) (aV 0) (aF 0) (aK 0) (aZ 0) (aR 0) aN sO, wX8 (zcT C) aX sX]) X (metX8_beginsAsAim (zcl C) (zcD C) (zcT C) aX ho4) zmX8_beginsAsAim zw475 dX11_isAim_4 1 0 9 rfl rfl rfl rfl [1] rfl rfl [] rfl (by decide) trivial rfl rfl rfl (Nat.le_of_ble_eq_true rfl) rfl rfl ⟨Nat.le_of_ble_eq_true rfl, Nat.le_of_ble_eq_true rfl⟩ ⟨Nat.le_of_ble_eq_true rfl, Nat.le_of_ble_eq_true rfl⟩ ?_
  obtain ⟨g7, h⟩ := zgd_of h
  cases h
  exact z_nret X hQ g7 dX11_isAim_7 rfl [] rfl (by decide) (by decide)
theorem metX11_isAim (l : Launch) (D : va_G) (T : Nat → ClassId) (aO : Nat → Nat) (aP : Nat → Nat) (aX : Nat → Nat) (aL : Nat → Nat) (aW : Nat → Nat) (aV : Nat → Nat) (aF : Nat → Nat) (aK : Nat → Nat) (aZ : Nat → Nat) (aR : Nat → Nat) (aN : Nat → Nat) {sO : zSt} {sX : zSt} {out : Int32} (hf : fX11_isAim sO sX = some out) (sz : Nat) : Met l yX11_isAim (zws yX11_isAim cX11_isAim 1 (some .boolean)) rmX11_isAim (zPc D T [.ref (aO 0)] [wX11 T aO (aP 0) (aX 0) (aL 0) (aW 0) (aV 0) (aF 0) (aK 0) (aZ 0) (aR 0) aN sO, wX8 T aX sX] sz) (zQi D out [] (zA [] sz)) 0 0 (zA [] sz) :=
  zMet (D := D) (T := T) (av := [.ref (aO 0)]) (ws := fun T => [wX11 T aO (aP 0) (aX 0) (aL 0) (aW 0) (aV 0) (aF 0) (aK 0) (aZ 0) (aR 0) aN sO, wX8 T aX sX]) (wm := fun T => []) (lv0 := [(0, .ref (aO 0))]) [] (Qc := fun D T A => zQi D out [] A) (by decide +kernel) rfl (Nat.le_of_ble_eq_true rfl) rfl (fun C X hQ => bX11_isAim_0 X hQ hf) sz
/-- public int tell() throws java.lang.UnsupportedOperationException, java.lang.IllegalStateException; of Tableaufloor -/
abbrev rmX11_tell : Room := { frames := 6, cells := 1, slots := 6, locals := 125 }
def fX11_tell_69 (sO : zSt) (sP : zSt) (sX : zSt) (sW : zSt) (sK : zSt) (sZ : zSt) : Option ((String ⊕ Int32) × zSt × zSt × zSt × zSt × zSt) :=
  some (.inl "java/lang/IllegalStateException", sP, sX, sW, sK, sZ)
def fX11_tell_112 (sO : zSt) (sP : zSt) (sX : zSt) (sW : zSt) (sK : zSt) (sZ : zSt) (y0 : Int32) : Option ((String ⊕ Int32) × zSt × zSt × zSt × zSt × zSt) :=
  (zlet (zsi sX 2 (0 : Int32)) (fun sX118 =>
    some (.inr y0, sP, sX118, sW, sK, sZ)))
def fX11_tell_79 (sO : zSt) (sP : zSt) (sX : zSt) (sW : zSt) (sK : zSt) (sZ : zSt) (x1 : Int32) : Option ((String ⊕ Int32) × zSt × zSt × zSt × zSt × zSt) :=
  ((fX11_forgetAnswers sO sW sK sZ).bind (fun o80 =>
    (if x1 = 0 then
    ((fX5_putRow sP sX).bind (fun o109 =>
      (fX11_tell_112 sO o109.2 sX o80.1 o80.2.1 o80.2.2 o109.1)))
  else
    ((fX5_putAim sP sX).bind (fun o95 =>
      (fX11_tell_112 sO o95.2 sX o80.1 o80.2.1 o80.2.2 o95.1))))))
def fX11_tell (sO : zSt) (sP : zSt) (sX : zSt) (sW : zSt) (sK : zSt) (sZ : zSt) : Option ((String ⊕ Int32) × zSt × zSt × zSt × zSt × zSt) :=
  ((fX8_read sX (zgi sP 8)).bind (fun o11 =>
    ((fX8_hasFault o11).bind (fun o18 =>
    (if o18 = 0 then
    ((fX8_beginsAsAim o11).bind (fun o38 =>
      (if o38 = 0 then
      ((fX5_hasRoomForRow sP).bind (fun o63 =>
        (if o63 = 0 then
        (fX11_tell_69 sO sP o11 sW sK sZ)
      else
        (fX11_tell_79 sO sP o11 sW sK sZ o38))))
    else
      ((fX5_hasRoomForAim sP).bind (fun o50 =>
        (if o50 = 0 then
        (fX11_tell_69 sO sP o11 sW sK sZ)
      else
        (fX11_tell_79 sO sP o11 sW sK sZ o38)))))))
  else
    some (.inl "java/lang/UnsupportedOperationException", sP, o11, sW, sK, sZ))))))
theorem bX11_tell_69 {C : zCtx} (X : zFx C cX11_tell 3 RX11 rmX11_tell (some .int)) {base : Nat} (Y : zFy C base) {aO : Nat → Nat} {aP : Nat → Nat} {aX : Nat → Nat} {aL : Nat → Nat} {aW : Nat → Nat} {aV : Nat → Nat} {aF : Nat → Nat} {aK : Nat → Nat} {aZ : Nat → Nat} {aR : Nat → Nat} {aS : Nat → Nat} {aD : Nat → Nat} {aQ : Nat → Nat} {aB : Nat → Nat} {aC : Nat → Nat} {aE : Nat → Nat} {aH : Nat → Nat} {aN : Nat → Nat} {sO : zSt} {sP : zSt} {sX : zSt} {sW : zSt} {sK : zSt} {sZ : zSt} {out : (String ⊕ Int32) × zSt × zSt × zSt × zSt × zSt} (hQ : zXi C out.1 [wX5 (zcT C) aP out.2.1, wX8 (zcT C) aX out.2.2.1, wX9 (zcT C) aW (aP 0) (aS 0) (aD 0) (aQ 0) out.2.2.2.1, wX0 (zcT C) aK (aP 0) (aS 0) (aB 0) (aC 0) out.2.2.2.2.1, wX10 (zcT C) aZ (aP 0) (aE 0) (aH 0) out.2.2.2.2.2] 1 6) (h : fX11_tell_69 sO sP sX sW sK sZ = some out) : zG C 3 [1, 2, 3, 4, 5] 0 0 [wX11 (zcT C) aO (aP 0) (aX 0) (aL 0) (aW 0) (aV 0) (aF 0) (aK 0) (aZ 0) (aR 0) aN sO, wX5 (zcT C) aP sP, wX8 (zcT C) aX sX, wX9 (zcT C) aW (aP 0) (aS 0) (aD 0) (aQ 0) sW, wX0 (zcT C) aK (aP 0) (aS 0) (aB 0) (aC 0) sK, wX10 (zcT C) aZ (aP 0) (aE 0) (aH 0) sZ] 69 [] [] := by
  unfold fX11_tell_69 at h
  cases h
  exact z_throwi X Y hQ rfl zt_RX11_98 zs_963 dX11_tell_69 dX11_tell_72 dX11_tell_73 dX11_tell_75 dX11_tell_78 [1, 2, 3, 4, 5] rfl (by decide) (by decide) (by decide) (by decide) (by decide) (by decide)
theorem bX11_tell_112 {C : zCtx} (X : zFx C cX11_tell 3 RX11 rmX11_tell (some .int)) {base : Nat} (Y : zFy C base) {aO : Nat → Nat} {aP : Nat → Nat} {aX : Nat → Nat} {aL : Nat → Nat} {aW : Nat → Nat} {aV : Nat → Nat} {aF : Nat → Nat} {aK : Nat → Nat} {aZ : Nat → Nat} {aR : Nat → Nat} {aS : Nat → Nat} {aD : Nat → Nat} {aQ : Nat → Nat} {aB : Nat → Nat} {aC : Nat → Nat} {aE : Nat → Nat} {aH : Nat → Nat} {aN : Nat → Nat} {sO : zSt} {sP : zSt} {sX : zSt} {sW : zSt} {sK : zSt} {sZ : zSt} {y0 : Int32} {out : (String ⊕ Int32) × zSt × zSt × zSt × zSt × zSt} (hQ : zXi C out.1 [wX5 (zcT C) aP out.2.1, wX8 (zcT C) aX out.2.2.1, wX9 (zcT C) aW (aP 0) (aS 0) (aD 0) (aQ 0) out.2.2.2.1, wX0 (zcT C) aK (aP 0) (aS 0) (aB 0) (aC 0) out.2.2.2.2.1, wX10 (zcT C) aZ (aP 0) (aE 0) (aH 0) out.2.2.2.2.2] 1 6) (h : fX11_tell_112 sO sP sX sW sK sZ y0 = some out) : zG C 3 [1, 2, 3, 4, 5] 0 0 [wX11 (zcT C) aO (aP 0) (aX 0) (aL 0) (aW 0) (aV 0) (aF 0) (aK 0) (aZ 0) (aR 0) aN sO, wX5 (zcT C) aP sP, wX8 (zcT C) aX sX, wX9 (zcT C) aW (aP 0) (aS 0) (aD 0) (aQ 0) sW, wX0 (zcT C) aK (aP 0) (aS 0) (aB 0) (aC 0) sK, wX10 (zcT C) aZ (aP 0) (aE 0) (aH 0) sZ] 112 [(0, .ref (aO 0))] [.int y0] := by
  unfold fX11_tell_112 at h
  refine z_istore_n (lv2 := [(2, .int y0), (0, .ref (aO 0))]) X dX11_tell_112 rfl (by decide) rfl ?_
  refine z_aload_n X dX11_tell_113 1 rfl ?_
  refine z_get (v := .ref (aX 0)) X 0 0 12 1 ziX11 rfl (by decide) zw374 rfl dX11_tell_114 rfl rfl rfl ?_
  refine z_iconst (v := (0 : Int32)) X dX11_tell_117 rfl ?_
  obtain ⟨sX118, esX118, h⟩ := zlet_of h
  refine z_putN (ws2 := [wX11 (zcT C) aO (aP 0) (aX 0) (aL 0) (aW 0) (aV 0) (aF 0) (aK 0) (aZ 0) (aR 0) aN sO, wX5 (zcT C) aP sP, wX8 (zcT C) aX sX118, wX9 (zcT C) aW (aP 0) (aS 0) (aD 0) (aQ 0) sW, wX0 (zcT C) aK (aP 0) (aS 0) (aB 0) (aC 0) sK, wX10 (zcT C) aZ (aP 0) (aE 0) (aH 0) sZ]) X 2 0 9 2 ziX8 rfl tyX8 tyX8_ok nmX8 (by decide) zw110 rfl rfl (ty := .int) (by decide +kernel) rfl rfl (by show 2 < 10; decide) dX11_tell_118 rfl rfl (by decide) (w2 := wX8 (zcT C) aX sX118) (by rw [esX118]; rfl) rfl ?_
  refine z_iload_n X dX11_tell_121 0 rfl ?_
  cases h
  exact z_xiret X hQ dX11_tell_122 rfl [1, 2, 3, 4, 5] rfl (by decide) (by decide)
theorem bX11_tell_79 {C : zCtx} (X : zFx C cX11_tell 3 RX11 rmX11_tell (some .int)) {base : Nat} (Y : zFy C base) {aO : Nat → Nat} {aP : Nat → Nat} {aX : Nat → Nat} {aL : Nat → Nat} {aW : Nat → Nat} {aV : Nat → Nat} {aF : Nat → Nat} {aK : Nat → Nat} {aZ : Nat → Nat} {aR : Nat → Nat} {aS : Nat → Nat} {aD : Nat → Nat} {aQ : Nat → Nat} {aB : Nat → Nat} {aC : Nat → Nat} {aE : Nat → Nat} {aH : Nat → Nat} {aN : Nat → Nat} {sO : zSt} {sP : zSt} {sX : zSt} {sW : zSt} {sK : zSt} {sZ : zSt} {x1 : Int32} {out : (String ⊕ Int32) × zSt × zSt × zSt × zSt × zSt} (hQ : zXi C out.1 [wX5 (zcT C) aP out.2.1, wX8 (zcT C) aX out.2.2.1, wX9 (zcT C) aW (aP 0) (aS 0) (aD 0) (aQ 0) out.2.2.2.1, wX0 (zcT C) aK (aP 0) (aS 0) (aB 0) (aC 0) out.2.2.2.2.1, wX10 (zcT C) aZ (aP 0) (aE 0) (aH 0) out.2.2.2.2.2] 1 6) (h : fX11_tell_79 sO sP sX sW sK sZ x1 = some out) : zG C 3 [1, 2, 3, 4, 5] 0 0 [wX11 (zcT C) aO (aP 0) (aX 0) (aL 0) (aW 0) (aV 0) (aF 0) (aK 0) (aZ 0) (aR 0) aN sO, wX5 (zcT C) aP sP, wX8 (zcT C) aX sX, wX9 (zcT C) aW (aP 0) (aS 0) (aD 0) (aQ 0) sW, wX0 (zcT C) aK (aP 0) (aS 0) (aB 0) (aC 0) sK, wX10 (zcT C) aZ (aP 0) (aE 0) (aH 0) sZ] 79 [(0, .ref (aO 0)), (1, .int x1)] [] := by
  unfold fX11_tell_79 at h
  refine z_aload_n X dX11_tell_79 0 rfl ?_
  obtain ⟨o80, ho80, h⟩ := zbind_of h
  refine z_callVv (st := []) (ws2 := [wX11 (zcT C) aO (aP 0) (aX 0) (aL 0) (aW 0) (aV 0) (aF 0) (aK 0) (aZ 0) (aR 0) aN sO, wX5 (zcT C) aP sP, wX8 (zcT C) aX sX, wX9 (zcT C) aW (aP 0) (aS 0) (aD 0) (aQ 0) o80.1, wX0 (zcT C) aK (aP 0) (aS 0) (aB 0) (aC 0) o80.2.1, wX10 (zcT C) aZ (aP 0) (aE 0) (aH 0) o80.2.2]) X (metX11_forgetAnswers (zcl C) (zcD C) (zcT C) aO aP aX aL aW aV aF aK aZ aR aS aD aQ aB aC aE aH aN ho80) zmX11_forgetAnswers zw480 dX11_tell_80 0 0 12 rfl rfl rfl rfl [0, 3, 4, 5] rfl rfl [3, 4, 5] rfl (by decide) ⟨zsX9 , ⟨zsX0 , ⟨zsX10 , trivial⟩⟩⟩ rfl rfl rfl (Nat.le_of_ble_eq_true rfl) rfl rfl ⟨Nat.le_of_ble_eq_true rfl, Nat.le_of_ble_eq_true rfl⟩ ⟨Nat.le_of_ble_eq_true rfl, Nat.le_of_ble_eq_true rfl⟩ ?_
  refine z_iload_n X dX11_tell_83 1 rfl ?_
  refine z_if_eq (tgt := 101) X dX11_tell_84 (by decide) (fun c84 => ?_) (fun c84 => ?_)
  · replace h := zif_t h c84
    refine z_aload_n X dX11_tell_101 0 rfl ?_
    refine z_get (v := .ref (aP 0)) X 0 0 12 0 ziX11 rfl (by decide) zw373 rfl dX11_tell_102 rfl rfl rfl ?_
    refine z_aload_n X dX11_tell_105 0 rfl ?_
    refine z_get (v := .ref (aX 0)) X 0 0 12 1 ziX11 rfl (by decide) zw374 rfl dX11_tell_106 rfl rfl rfl ?_
    obtain ⟨o109, ho109, h⟩ := zbind_of h
    refine z_callVi (st := []) (ws2 := [wX11 (zcT C) aO (aP 0) (aX 0) (aL 0) (aW 0) (aV 0) (aF 0) (aK 0) (aZ 0) (aR 0) aN sO, wX5 (zcT C) aP o109.2, wX8 (zcT C) aX sX, wX9 (zcT C) aW (aP 0) (aS 0) (aD 0) (aQ 0) o80.1, wX0 (zcT C) aK (aP 0) (aS 0) (aB 0) (aC 0) o80.2.1, wX10 (zcT C) aZ (aP 0) (aE 0) (aH 0) o80.2.2]) X (metX5_putRow (zcl C) (zcD C) (zcT C) aP aX ho109) zmX5_putRow zw975 dX11_tell_109 1 0 6 rfl rfl rfl rfl [1, 2] rfl rfl [1] rfl (by decide) ⟨zsX5 , trivial⟩ rfl rfl rfl (Nat.le_of_ble_eq_true rfl) rfl rfl ⟨Nat.le_of_ble_eq_true rfl, Nat.le_of_ble_eq_true rfl⟩ ⟨Nat.le_of_ble_eq_true rfl, Nat.le_of_ble_eq_true rfl⟩ ?_
    exact z_wid (c2 := 0) (s2 := 0) (by decide) (by decide) <| z_at (pc2 := 112) (lv2 := [(0, .ref (aO 0))]) (st2 := [.int o109.1]) (ws2 := [wX11 (zcT C) aO (aP 0) (aX 0) (aL 0) (aW 0) (aV 0) (aF 0) (aK 0) (aZ 0) (aR 0) aN sO, wX5 (zcT C) aP o109.2, wX8 (zcT C) aX sX, wX9 (zcT C) aW (aP 0) (aS 0) (aD 0) (aQ 0) o80.1, wX0 (zcT C) aK (aP 0) (aS 0) (aB 0) (aC 0) o80.2.1, wX10 (zcT C) aZ (aP 0) (aE 0) (aH 0) o80.2.2]) rfl rfl rfl [0] rfl (bX11_tell_112 X Y hQ  h)
  · replace h := zif_f h c84
    refine z_aload_n X dX11_tell_87 0 rfl ?_
    refine z_get (v := .ref (aP 0)) X 0 0 12 0 ziX11 rfl (by decide) zw373 rfl dX11_tell_88 rfl rfl rfl ?_
    refine z_aload_n X dX11_tell_91 0 rfl ?_
    refine z_get (v := .ref (aX 0)) X 0 0 12 1 ziX11 rfl (by decide) zw374 rfl dX11_tell_92 rfl rfl rfl ?_
    obtain ⟨o95, ho95, h⟩ := zbind_of h
    refine z_callVi (st := []) (ws2 := [wX11 (zcT C) aO (aP 0) (aX 0) (aL 0) (aW 0) (aV 0) (aF 0) (aK 0) (aZ 0) (aR 0) aN sO, wX5 (zcT C) aP o95.2, wX8 (zcT C) aX sX, wX9 (zcT C) aW (aP 0) (aS 0) (aD 0) (aQ 0) o80.1, wX0 (zcT C) aK (aP 0) (aS 0) (aB 0) (aC 0) o80.2.1, wX10 (zcT C) aZ (aP 0) (aE 0) (aH 0) o80.2.2]) X (metX5_putAim (zcl C) (zcD C) (zcT C) aP aX ho95) zmX5_putAim zw964 dX11_tell_95 1 0 6 rfl rfl rfl rfl [1, 2] rfl rfl [1] rfl (by decide) ⟨zsX5 , trivial⟩ rfl rfl rfl (Nat.le_of_ble_eq_true rfl) rfl rfl ⟨Nat.le_of_ble_eq_true rfl, Nat.le_of_ble_eq_true rfl⟩ ⟨Nat.le_of_ble_eq_true rfl, Nat.le_of_ble_eq_true rfl⟩ ?_
    refine z_goto (tgt := 112) X dX11_tell_98 (by decide) ?_
    exact z_wid (c2 := 0) (s2 := 0) (by decide) (by decide) <| z_at (pc2 := 112) (lv2 := [(0, .ref (aO 0))]) (st2 := [.int o95.1]) (ws2 := [wX11 (zcT C) aO (aP 0) (aX 0) (aL 0) (aW 0) (aV 0) (aF 0) (aK 0) (aZ 0) (aR 0) aN sO, wX5 (zcT C) aP o95.2, wX8 (zcT C) aX sX, wX9 (zcT C) aW (aP 0) (aS 0) (aD 0) (aQ 0) o80.1, wX0 (zcT C) aK (aP 0) (aS 0) (aB 0) (aC 0) o80.2.1, wX10 (zcT C) aZ (aP 0) (aE 0) (aH 0) o80.2.2]) rfl rfl rfl [0] rfl (bX11_tell_112 X Y hQ  h)
theorem bX11_tell_0 {C : zCtx} (X : zFx C cX11_tell 3 RX11 rmX11_tell (some .int)) {base : Nat} (Y : zFy C base) {aO : Nat → Nat} {aP : Nat → Nat} {aX : Nat → Nat} {aL : Nat → Nat} {aW : Nat → Nat} {aV : Nat → Nat} {aF : Nat → Nat} {aK : Nat → Nat} {aZ : Nat → Nat} {aR : Nat → Nat} {aS : Nat → Nat} {aD : Nat → Nat} {aQ : Nat → Nat} {aB : Nat → Nat} {aC : Nat → Nat} {aE : Nat → Nat} {aH : Nat → Nat} {aN : Nat → Nat} {sO : zSt} {sP : zSt} {sX : zSt} {sW : zSt} {sK : zSt} {sZ : zSt} {out : (String ⊕ Int32) × zSt × zSt × zSt × zSt × zSt} (hQ : zXi C out.1 [wX5 (zcT C) aP out.2.1, wX8 (zcT C) aX out.2.2.1, wX9 (zcT C) aW (aP 0) (aS 0) (aD 0) (aQ 0) out.2.2.2.1, wX0 (zcT C) aK (aP 0) (aS 0) (aB 0) (aC 0) out.2.2.2.2.1, wX10 (zcT C) aZ (aP 0) (aE 0) (aH 0) out.2.2.2.2.2] 1 6) (h : fX11_tell sO sP sX sW sK sZ = some out) : zG C 3 [1, 2, 3, 4, 5] 0 0 [wX11 (zcT C) aO (aP 0) (aX 0) (aL 0) (aW 0) (aV 0) (aF 0) (aK 0) (aZ 0) (aR 0) aN sO, wX5 (zcT C) aP sP, wX8 (zcT C) aX sX, wX9 (zcT C) aW (aP 0) (aS 0) (aD 0) (aQ 0) sW, wX0 (zcT C) aK (aP 0) (aS 0) (aB 0) (aC 0) sK, wX10 (zcT C) aZ (aP 0) (aE 0) (aH 0) sZ] 0 [(0, .ref (aO 0))] [] := by
  unfold fX11_tell at h
  refine z_aload_n X dX11_tell_0 0 rfl ?_
  refine z_get (v := .ref (aX 0)) X 0 0 12 1 ziX11 rfl (by decide) zw374 rfl dX11_tell_1 rfl rfl rfl ?_
  refine z_aload_n X dX11_tell_4 0 rfl ?_
  refine z_get (v := .ref (aP 0)) X 0 0 12 0 ziX11 rfl (by decide) zw373 rfl dX11_tell_5 rfl rfl rfl ?_
  refine z_getN (v := .int (zgi sP 8)) X 1 0 6 8 ziX5 rfl (by decide) zw57 rfl dX11_tell_8 rfl rfl rfl ?_
  obtain ⟨o11, ho11, h⟩ := zbind_of h
  refine z_callVv (st := []) (ws2 := [wX11 (zcT C) aO (aP 0) (aX 0) (aL 0) (aW 0) (aV 0) (aF 0) (aK 0) (aZ 0) (aR 0) aN sO, wX5 (zcT C) aP sP, wX8 (zcT C) aX o11, wX9 (zcT C) aW (aP 0) (aS 0) (aD 0) (aQ 0) sW, wX0 (zcT C) aK (aP 0) (aS 0) (aB 0) (aC 0) sK, wX10 (zcT C) aZ (aP 0) (aE 0) (aH 0) sZ]) X (metX8_read (zcl C) (zcD C) (zcT C) aX ho11) zmX8_read zw412 dX11_tell_11 2 0 9 rfl rfl rfl rfl [2] rfl rfl [2] rfl (by decide) ⟨zsX8 , trivial⟩ rfl rfl rfl (Nat.le_of_ble_eq_true rfl) rfl rfl ⟨Nat.le_of_ble_eq_true rfl, Nat.le_of_ble_eq_true rfl⟩ ⟨Nat.le_of_ble_eq_true rfl, Nat.le_of_ble_eq_true rfl⟩ ?_
  refine z_aload_n X dX11_tell_14 0 rfl ?_
  refine z_get (v := .ref (aX 0)) X 0 0 12 1 ziX11 rfl (by decide) zw374 rfl dX11_tell_15 rfl rfl rfl ?_
  obtain ⟨o18, ho18, h⟩ := zbind_of h
  refine z_callVi (st := []) (ws2 := [wX11 (zcT C) aO (aP 0) (aX 0) (aL 0) (aW 0) (aV 0) (aF 0) (aK 0) (aZ 0) (aR 0) aN sO, wX5 (zcT C) aP sP, wX8 (zcT C) aX o11, wX9 (zcT C) aW (aP 0) (aS 0) (aD 0) (aQ 0) sW, wX0 (zcT C) aK (aP 0) (aS 0) (aB 0) (aC 0) sK, wX10 (zcT C) aZ (aP 0) (aE 0) (aH 0) sZ]) X (metX8_hasFault (zcl C) (zcD C) (zcT C) aX ho18) zmX8_hasFault zw914 dX11_tell_18 2 0 9 rfl rfl rfl rfl [2] rfl rfl [] rfl (by decide) trivial rfl rfl rfl (Nat.le_of_ble_eq_true rfl) rfl rfl ⟨Nat.le_of_ble_eq_true rfl, Nat.le_of_ble_eq_true rfl⟩ ⟨Nat.le_of_ble_eq_true rfl, Nat.le_of_ble_eq_true rfl⟩ ?_
  refine z_if_eq (tgt := 34) X dX11_tell_21 (by decide) (fun c21 => ?_) (fun c21 => ?_)
  · replace h := zif_t h c21
    refine z_aload_n X dX11_tell_34 0 rfl ?_
    refine z_get (v := .ref (aX 0)) X 0 0 12 1 ziX11 rfl (by decide) zw374 rfl dX11_tell_35 rfl rfl rfl ?_
    obtain ⟨o38, ho38, h⟩ := zbind_of h
    refine z_callVi (st := []) (ws2 := [wX11 (zcT C) aO (aP 0) (aX 0) (aL 0) (aW 0) (aV 0) (aF 0) (aK 0) (aZ 0) (aR 0) aN sO, wX5 (zcT C) aP sP, wX8 (zcT C) aX o11, wX9 (zcT C) aW (aP 0) (aS 0) (aD 0) (aQ 0) sW, wX0 (zcT C) aK (aP 0) (aS 0) (aB 0) (aC 0) sK, wX10 (zcT C) aZ (aP 0) (aE 0) (aH 0) sZ]) X (metX8_beginsAsAim (zcl C) (zcD C) (zcT C) aX ho38) zmX8_beginsAsAim zw475 dX11_tell_38 2 0 9 rfl rfl rfl rfl [2] rfl rfl [] rfl (by decide) trivial rfl rfl rfl (Nat.le_of_ble_eq_true rfl) rfl rfl ⟨Nat.le_of_ble_eq_true rfl, Nat.le_of_ble_eq_true rfl⟩ ⟨Nat.le_of_ble_eq_true rfl, Nat.le_of_ble_eq_true rfl⟩ ?_
    refine z_istore_n (lv2 := [(1, .int o38), (0, .ref (aO 0))]) X dX11_tell_41 rfl (by decide) rfl ?_
    refine z_iload_n X dX11_tell_42 0 rfl ?_
    refine z_if_eq (tgt := 59) X dX11_tell_43 (by decide) (fun c43 => ?_) (fun c43 => ?_)
    · replace h := zif_t h c43
      refine z_aload_n X dX11_tell_59 1 rfl ?_
      refine z_get (v := .ref (aP 0)) X 0 0 12 0 ziX11 rfl (by decide) zw373 rfl dX11_tell_60 rfl rfl rfl ?_
      obtain ⟨o63, ho63, h⟩ := zbind_of h
      refine z_callVi (st := []) (ws2 := [wX11 (zcT C) aO (aP 0) (aX 0) (aL 0) (aW 0) (aV 0) (aF 0) (aK 0) (aZ 0) (aR 0) aN sO, wX5 (zcT C) aP sP, wX8 (zcT C) aX o11, wX9 (zcT C) aW (aP 0) (aS 0) (aD 0) (aQ 0) sW, wX0 (zcT C) aK (aP 0) (aS 0) (aB 0) (aC 0) sK, wX10 (zcT C) aZ (aP 0) (aE 0) (aH 0) sZ]) X (metX5_hasRoomForRow (zcl C) (zcD C) (zcT C) aP ho63) zmX5_hasRoomForRow zw959 dX11_tell_63 1 0 6 rfl rfl rfl rfl [1] rfl rfl [] rfl (by decide) trivial rfl rfl rfl (Nat.le_of_ble_eq_true rfl) rfl rfl ⟨Nat.le_of_ble_eq_true rfl, Nat.le_of_ble_eq_true rfl⟩ ⟨Nat.le_of_ble_eq_true rfl, Nat.le_of_ble_eq_true rfl⟩ ?_
      refine z_if_ne (tgt := 79) X dX11_tell_66 (by decide) (fun c66 => ?_) (fun c66 => ?_)
      · replace h := zif_f h c66
        exact z_wid (c2 := 0) (s2 := 0) (by decide) (by decide) <| z_at (pc2 := 79) (lv2 := [(0, .ref (aO 0)), (1, .int o38)]) (st2 := []) (ws2 := [wX11 (zcT C) aO (aP 0) (aX 0) (aL 0) (aW 0) (aV 0) (aF 0) (aK 0) (aZ 0) (aR 0) aN sO, wX5 (zcT C) aP sP, wX8 (zcT C) aX o11, wX9 (zcT C) aW (aP 0) (aS 0) (aD 0) (aQ 0) sW, wX0 (zcT C) aK (aP 0) (aS 0) (aB 0) (aC 0) sK, wX10 (zcT C) aZ (aP 0) (aE 0) (aH 0) sZ]) rfl rfl rfl [1, 0] rfl (bX11_tell_79 X Y hQ  h)
      · replace h := zif_t h c66
        exact z_wid (c2 := 0) (s2 := 0) (by decide) (by decide) <| z_at (pc2 := 69) (lv2 := []) (st2 := []) (ws2 := [wX11 (zcT C) aO (aP 0) (aX 0) (aL 0) (aW 0) (aV 0) (aF 0) (aK 0) (aZ 0) (aR 0) aN sO, wX5 (zcT C) aP sP, wX8 (zcT C) aX o11, wX9 (zcT C) aW (aP 0) (aS 0) (aD 0) (aQ 0) sW, wX0 (zcT C) aK (aP 0) (aS 0) (aB 0) (aC 0) sK, wX10 (zcT C) aZ (aP 0) (aE 0) (aH 0) sZ]) rfl rfl rfl [] rfl (bX11_tell_69 X Y hQ  h)
    · replace h := zif_f h c43
      refine z_aload_n X dX11_tell_46 1 rfl ?_
      refine z_get (v := .ref (aP 0)) X 0 0 12 0 ziX11 rfl (by decide) zw373 rfl dX11_tell_47 rfl rfl rfl ?_
      obtain ⟨o50, ho50, h⟩ := zbind_of h
      refine z_callVi (st := []) (ws2 := [wX11 (zcT C) aO (aP 0) (aX 0) (aL 0) (aW 0) (aV 0) (aF 0) (aK 0) (aZ 0) (aR 0) aN sO, wX5 (zcT C) aP sP, wX8 (zcT C) aX o11, wX9 (zcT C) aW (aP 0) (aS 0) (aD 0) (aQ 0) sW, wX0 (zcT C) aK (aP 0) (aS 0) (aB 0) (aC 0) sK, wX10 (zcT C) aZ (aP 0) (aE 0) (aH 0) sZ]) X (metX5_hasRoomForAim (zcl C) (zcD C) (zcT C) aP ho50) zmX5_hasRoomForAim zw955 dX11_tell_50 1 0 6 rfl rfl rfl rfl [1] rfl rfl [] rfl (by decide) trivial rfl rfl rfl (Nat.le_of_ble_eq_true rfl) rfl rfl ⟨Nat.le_of_ble_eq_true rfl, Nat.le_of_ble_eq_true rfl⟩ ⟨Nat.le_of_ble_eq_true rfl, Nat.le_of_ble_eq_true rfl⟩ ?_
      refine z_if_eq (tgt := 69) X dX11_tell_53 (by decide) (fun c53 => ?_) (fun c53 => ?_)
      · replace h := zif_t h c53
        exact z_wid (c2 := 0) (s2 := 0) (by decide) (by decide) <| z_at (pc2 := 69) (lv2 := []) (st2 := []) (ws2 := [wX11 (zcT C) aO (aP 0) (aX 0) (aL 0) (aW 0) (aV 0) (aF 0) (aK 0) (aZ 0) (aR 0) aN sO, wX5 (zcT C) aP sP, wX8 (zcT C) aX o11, wX9 (zcT C) aW (aP 0) (aS 0) (aD 0) (aQ 0) sW, wX0 (zcT C) aK (aP 0) (aS 0) (aB 0) (aC 0) sK, wX10 (zcT C) aZ (aP 0) (aE 0) (aH 0) sZ]) rfl rfl rfl [] rfl (bX11_tell_69 X Y hQ  h)
      · replace h := zif_f h c53
        refine z_goto (tgt := 79) X dX11_tell_56 (by decide) ?_
        exact z_wid (c2 := 0) (s2 := 0) (by decide) (by decide) <| z_at (pc2 := 79) (lv2 := [(0, .ref (aO 0)), (1, .int o38)]) (st2 := []) (ws2 := [wX11 (zcT C) aO (aP 0) (aX 0) (aL 0) (aW 0) (aV 0) (aF 0) (aK 0) (aZ 0) (aR 0) aN sO, wX5 (zcT C) aP sP, wX8 (zcT C) aX o11, wX9 (zcT C) aW (aP 0) (aS 0) (aD 0) (aQ 0) sW, wX0 (zcT C) aK (aP 0) (aS 0) (aB 0) (aC 0) sK, wX10 (zcT C) aZ (aP 0) (aE 0) (aH 0) sZ]) rfl rfl rfl [1, 0] rfl (bX11_tell_79 X Y hQ  h)
  · replace h := zif_f h c21
    cases h
    exact z_throwi X Y hQ rfl zt_RX11_166 zs_948 dX11_tell_24 dX11_tell_27 dX11_tell_28 dX11_tell_30 dX11_tell_33 [1, 2, 3, 4, 5] rfl (by decide) (by decide) (by decide) (by decide) (by decide) (by decide)
theorem metX11_tell (l : Launch) (hst : l.stackTraces = false) (D : va_G) (T : Nat → ClassId) (aO : Nat → Nat) (aP : Nat → Nat) (aX : Nat → Nat) (aL : Nat → Nat) (aW : Nat → Nat) (aV : Nat → Nat) (aF : Nat → Nat) (aK : Nat → Nat) (aZ : Nat → Nat) (aR : Nat → Nat) (aS : Nat → Nat) (aD : Nat → Nat) (aQ : Nat → Nat) (aB : Nat → Nat) (aC : Nat → Nat) (aE : Nat → Nat) (aH : Nat → Nat) (aN : Nat → Nat) {sO : zSt} {sP : zSt} {sX : zSt} {sW : zSt} {sK : zSt} {sZ : zSt} {out : (String ⊕ Int32) × zSt × zSt × zSt × zSt × zSt} (hf : fX11_tell sO sP sX sW sK sZ = some out) (base sz : Nat) : vx_Met l yX11_tell (zws yX11_tell cX11_tell 3 (some .int)) rmX11_tell (zPx D T [.ref (aO 0)] [wX11 T aO (aP 0) (aX 0) (aL 0) (aW 0) (aV 0) (aF 0) (aK 0) (aZ 0) (aR 0) aN sO, wX5 T aP sP, wX8 T aX sX, wX9 T aW (aP 0) (aS 0) (aD 0) (aQ 0) sW, wX0 T aK (aP 0) (aS 0) (aB 0) (aC 0) sK, wX10 T aZ (aP 0) (aE 0) (aH 0) sZ] [wX5 T aP sP, wX8 T aX sX, wX9 T aW (aP 0) (aS 0) (aD 0) (aQ 0) sW, wX0 T aK (aP 0) (aS 0) (aB 0) (aC 0) sK, wX10 T aZ (aP 0) (aE 0) (aH 0) sZ] base sz) (zQxi D out.1 [wX5 T aP out.2.1, wX8 T aX out.2.2.1, wX9 T aW (aP 0) (aS 0) (aD 0) (aQ 0) out.2.2.2.1, wX0 T aK (aP 0) (aS 0) (aB 0) (aC 0) out.2.2.2.2.1, wX10 T aZ (aP 0) (aE 0) (aH 0) out.2.2.2.2.2] (zA [wX5 T aP sP, wX8 T aX sX, wX9 T aW (aP 0) (aS 0) (aD 0) (aQ 0) sW, wX0 T aK (aP 0) (aS 0) (aB 0) (aC 0) sK, wX10 T aZ (aP 0) (aE 0) (aH 0) sZ] sz)) (zXxi D out.1 [wX5 T aP out.2.1, wX8 T aX out.2.2.1, wX9 T aW (aP 0) (aS 0) (aD 0) (aQ 0) out.2.2.2.1, wX0 T aK (aP 0) (aS 0) (aB 0) (aC 0) out.2.2.2.2.1, wX10 T aZ (aP 0) (aE 0) (aH 0) out.2.2.2.2.2] (zA [wX5 T aP sP, wX8 T aX sX, wX9 T aW (aP 0) (aS 0) (aD 0) (aQ 0) sW, wX0 T aK (aP 0) (aS 0) (aB 0) (aC 0) sK, wX10 T aZ (aP 0) (aE 0) (aH 0) sZ] sz)) 1 6 (zA [wX5 T aP sP, wX8 T aX sX, wX9 T aW (aP 0) (aS 0) (aD 0) (aQ 0) sW, wX0 T aK (aP 0) (aS 0) (aB 0) (aC 0) sK, wX10 T aZ (aP 0) (aE 0) (aH 0) sZ] sz) :=
  zMetXi hst (D := D) (T := T) (av := [.ref (aO 0)]) (ws := fun T => [wX11 T aO (aP 0) (aX 0) (aL 0) (aW 0) (aV 0) (aF 0) (aK 0) (aZ 0) (aR 0) aN sO, wX5 T aP sP, wX8 T aX sX, wX9 T aW (aP 0) (aS 0) (aD 0) (aQ 0) sW, wX0 T aK (aP 0) (aS 0) (aB 0) (aC 0) sK, wX10 T aZ (aP 0) (aE 0) (aH 0) sZ]) (wm := fun T => [wX5 T aP sP, wX8 T aX sX, wX9 T aW (aP 0) (aS 0) (aD 0) (aQ 0) sW, wX0 T aK (aP 0) (aS 0) (aB 0) (aC 0) sK, wX10 T aZ (aP 0) (aE 0) (aH 0) sZ]) (gm1 := fun T => [wX5 T aP out.2.1, wX8 T aX out.2.2.1, wX9 T aW (aP 0) (aS 0) (aD 0) (aQ 0) out.2.2.2.1, wX0 T aK (aP 0) (aS 0) (aB 0) (aC 0) out.2.2.2.2.1, wX10 T aZ (aP 0) (aE 0) (aH 0) out.2.2.2.2.2]) (o := out.1) (lv0 := [(0, .ref (aO 0))]) [1, 2, 3, 4, 5] (by decide +kernel) rfl (Nat.le_of_ble_eq_true rfl) rfl (fun C base X Y hQ => bX11_tell_0 X Y hQ hf) base sz
/-- private void demandRow(int); of Tableaufloor -/
abbrev rmX11_demandRow : Room := { frames := 6, cells := 1, slots := 6, locals := 82 }
def fX11_demandRow_15 (sO : zSt) (sP : zSt) : Option ((String ⊕ Unit)) :=
  some (.inl "java/lang/IndexOutOfBoundsException")
def fX11_demandRow (sO : zSt) (sP : zSt) (x1 : Int32) : Option ((String ⊕ Unit)) :=
  (if x1 < 0 then
    (fX11_demandRow_15 sO sP)
  else
    (if x1 < (zgi sP 9) then
      some (.inr ())
    else
      (fX11_demandRow_15 sO sP)))
theorem bX11_demandRow_15 {C : zCtx} (X : zFx C cX11_demandRow 2 RX11 rmX11_demandRow none) {base : Nat} (Y : zFy C base) {aO : Nat → Nat} {aP : Nat → Nat} {aX : Nat → Nat} {aL : Nat → Nat} {aW : Nat → Nat} {aV : Nat → Nat} {aF : Nat → Nat} {aK : Nat → Nat} {aZ : Nat → Nat} {aR : Nat → Nat} {aN : Nat → Nat} {sO : zSt} {sP : zSt} {out : (String ⊕ Unit)} (hQ : zXv C out [] 1 6) (h : fX11_demandRow_15 sO sP = some out) : zG C 2 [] 0 0 [wX11 (zcT C) aO (aP 0) (aX 0) (aL 0) (aW 0) (aV 0) (aF 0) (aK 0) (aZ 0) (aR 0) aN sO, wX5 (zcT C) aP sP] 15 [] [] := by
  unfold fX11_demandRow_15 at h
  cases h
  exact z_throwWv X Y hQ rfl zt_RX11_219 zs_998 dX11_demandRow_15 dX11_demandRow_18 dX11_demandRow_19 dX11_demandRow_22 dX11_demandRow_25 [] rfl (by decide) (by decide) (by decide) (by decide) (by decide) (by decide)
theorem bX11_demandRow_0 {C : zCtx} (X : zFx C cX11_demandRow 2 RX11 rmX11_demandRow none) {base : Nat} (Y : zFy C base) {aO : Nat → Nat} {aP : Nat → Nat} {aX : Nat → Nat} {aL : Nat → Nat} {aW : Nat → Nat} {aV : Nat → Nat} {aF : Nat → Nat} {aK : Nat → Nat} {aZ : Nat → Nat} {aR : Nat → Nat} {aN : Nat → Nat} {sO : zSt} {sP : zSt} {x1 : Int32} {out : (String ⊕ Unit)} (hQ : zXv C out [] 1 6) (h : fX11_demandRow sO sP x1 = some out) : zG C 2 [] 0 0 [wX11 (zcT C) aO (aP 0) (aX 0) (aL 0) (aW 0) (aV 0) (aF 0) (aK 0) (aZ 0) (aR 0) aN sO, wX5 (zcT C) aP sP] 0 [(0, .ref (aO 0)), (1, .int x1)] [] := by
  unfold fX11_demandRow at h
  refine z_iload_n X dX11_demandRow_0 1 rfl ?_
  refine z_if_lt (tgt := 15) X dX11_demandRow_1 (by decide) (fun c1 => ?_) (fun c1 => ?_)
  · replace h := zif_t h c1
    exact z_wid (c2 := 0) (s2 := 0) (by decide) (by decide) <| z_at (pc2 := 15) (lv2 := []) (st2 := []) (ws2 := [wX11 (zcT C) aO (aP 0) (aX 0) (aL 0) (aW 0) (aV 0) (aF 0) (aK 0) (aZ 0) (aR 0) aN sO, wX5 (zcT C) aP sP]) rfl rfl rfl [] rfl (bX11_demandRow_15 X Y hQ  h)
  · replace h := zif_f h c1
    refine z_iload_n X dX11_demandRow_4 1 rfl ?_
    refine z_aload_n X dX11_demandRow_5 0 rfl ?_
    refine z_get (v := .ref (aP 0)) X 0 0 12 0 ziX11 rfl (by decide) zw373 rfl dX11_demandRow_6 rfl rfl rfl ?_
    refine z_getN (v := .int (zgi sP 9)) X 1 0 6 9 ziX5 rfl (by decide) zw66 rfl dX11_demandRow_9 rfl rfl rfl ?_
    refine z_icmp_lt (tgt := 26) X dX11_demandRow_12 (by decide) (fun c12 => ?_) (fun c12 => ?_)
    · replace h := zif_t h c12
      cases h
      exact z_xvret X hQ dX11_demandRow_26 rfl [] rfl (by decide) (by decide)
    · replace h := zif_f h c12
      exact z_wid (c2 := 0) (s2 := 0) (by decide) (by decide) <| z_at (pc2 := 15) (lv2 := []) (st2 := []) (ws2 := [wX11 (zcT C) aO (aP 0) (aX 0) (aL 0) (aW 0) (aV 0) (aF 0) (aK 0) (aZ 0) (aR 0) aN sO, wX5 (zcT C) aP sP]) rfl rfl rfl [] rfl (bX11_demandRow_15 X Y hQ  h)
theorem metX11_demandRow (l : Launch) (hst : l.stackTraces = false) (D : va_G) (T : Nat → ClassId) (aO : Nat → Nat) (aP : Nat → Nat) (aX : Nat → Nat) (aL : Nat → Nat) (aW : Nat → Nat) (aV : Nat → Nat) (aF : Nat → Nat) (aK : Nat → Nat) (aZ : Nat → Nat) (aR : Nat → Nat) (aN : Nat → Nat) {sO : zSt} {sP : zSt} {x1 : Int32} {out : (String ⊕ Unit)} (hf : fX11_demandRow sO sP x1 = some out) (base sz : Nat) : vx_Met l yX11_demandRow (zws yX11_demandRow cX11_demandRow 2 none) rmX11_demandRow (zPx D T [.ref (aO 0), .int x1] [wX11 T aO (aP 0) (aX 0) (aL 0) (aW 0) (aV 0) (aF 0) (aK 0) (aZ 0) (aR 0) aN sO, wX5 T aP sP] [] base sz) (zQxv D out [] (zA [] sz)) (zXxv D out [] (zA [] sz)) 1 6 (zA [] sz) :=
  zMetXv hst (D := D) (T := T) (av := [.ref (aO 0), .int x1]) (ws := fun T => [wX11 T aO (aP 0) (aX 0) (aL 0) (aW 0) (aV 0) (aF 0) (aK 0) (aZ 0) (aR 0) aN sO, wX5 T aP sP]) (wm := fun T => []) (gm1 := fun T => []) (o := out) (lv0 := [(0, .ref (aO 0)), (1, .int x1)]) [] (by decide +kernel) rfl (Nat.le_of_ble_eq_true rfl) rfl (fun C base X Y hQ => bX11_demandRow_0 X Y hQ hf) base sz
/-- private void demandLiveRow(int); of Tableaufloor -/
abbrev rmX11_demandLiveRow : Room := { frames := 7, cells := 2, slots := 12, locals := 103 }
def fX11_demandLiveRow (sO : zSt) (sP : zSt) (x1 : Int32) : Option ((String ⊕ Unit)) :=
  ((fX11_demandRow sO sP x1).bind (fun o2 =>
    (Sum.elim (fun E2 => some (.inl E2)) (fun r2 =>
    ((fX5_isLive sP x1).bind (fun o10 =>
    (if o10 = 0 then
    some (.inl "java/lang/IllegalStateException")
  else
    some (.inr ()))))) o2)))
theorem bX11_demandLiveRow_0 {C : zCtx} (X : zFx C cX11_demandLiveRow 2 RX11 rmX11_demandLiveRow none) {base : Nat} (Y : zFy C base) {aO : Nat → Nat} {aP : Nat → Nat} {aX : Nat → Nat} {aL : Nat → Nat} {aW : Nat → Nat} {aV : Nat → Nat} {aF : Nat → Nat} {aK : Nat → Nat} {aZ : Nat → Nat} {aR : Nat → Nat} {aN : Nat → Nat} {sO : zSt} {sP : zSt} {x1 : Int32} {out : (String ⊕ Unit)} (hQ : zXv C out [] 2 12) (h : fX11_demandLiveRow sO sP x1 = some out) : zG C 2 [] 0 0 [wX11 (zcT C) aO (aP 0) (aX 0) (aL 0) (aW 0) (aV 0) (aF 0) (aK 0) (aZ 0) (aR 0) aN sO, wX5 (zcT C) aP sP] 0 [(0, .ref (aO 0)), (1, .int x1)] [] := by
  unfold fX11_demandLiveRow at h
  refine z_aload_n X dX11_demandLiveRow_0 0 rfl ?_
  refine z_iload_n X dX11_demandLiveRow_1 1 rfl ?_
  obtain ⟨o2, ho2, h⟩ := zbind_of h
  refine z_xcallVv (st := []) (ws2 := [wX11 (zcT C) aO (aP 0) (aX 0) (aL 0) (aW 0) (aV 0) (aF 0) (aK 0) (aZ 0) (aR 0) aN sO, wX5 (zcT C) aP sP]) X Y (metX11_demandRow (zcl C) Y.2.2.2.2.1 (zcD C) (zcT C) aO aP aX aL aW aV aF aK aZ aR aN ho2) zmX11_demandRow zw994 dX11_demandLiveRow_2 0 0 12 rfl rfl rfl rfl [0, 1] rfl rfl [] rfl (by decide) trivial rfl rfl rfl (Nat.le_of_ble_eq_true rfl) rfl rfl ⟨Nat.le_of_ble_eq_true rfl, Nat.le_of_ble_eq_true rfl⟩ ⟨Nat.le_of_ble_eq_true rfl, Nat.le_of_ble_eq_true rfl⟩ (fun E2 hE2 => ?_) (fun r2 hr2 => ?_)
  · replace h := zsum_l h hE2
    cases h
    exact z_xoutv X Y hQ rfl [] rfl (by decide) (by decide)
  replace h := zsum_r h hr2
  refine z_aload_n X dX11_demandLiveRow_5 0 rfl ?_
  refine z_get (v := .ref (aP 0)) X 0 0 12 0 ziX11 rfl (by decide) zw373 rfl dX11_demandLiveRow_6 rfl rfl rfl ?_
  refine z_iload_n X dX11_demandLiveRow_9 1 rfl ?_
  obtain ⟨o10, ho10, h⟩ := zbind_of h
  refine z_callVi (st := []) (ws2 := [wX11 (zcT C) aO (aP 0) (aX 0) (aL 0) (aW 0) (aV 0) (aF 0) (aK 0) (aZ 0) (aR 0) aN sO, wX5 (zcT C) aP sP]) X (metX5_isLive (zcl C) (zcD C) (zcT C) aP ho10) zmX5_isLive zw999 dX11_demandLiveRow_10 1 0 6 rfl rfl rfl rfl [1] rfl rfl [] rfl (by decide) trivial rfl rfl rfl (Nat.le_of_ble_eq_true rfl) rfl rfl ⟨Nat.le_of_ble_eq_true rfl, Nat.le_of_ble_eq_true rfl⟩ ⟨Nat.le_of_ble_eq_true rfl, Nat.le_of_ble_eq_true rfl⟩ ?_
  refine z_if_ne (tgt := 27) X dX11_demandLiveRow_13 (by decide) (fun c13 => ?_) (fun c13 => ?_)
  · replace h := zif_f h c13
    cases h
    exact z_xvret X hQ dX11_demandLiveRow_27 rfl [] rfl (by decide) (by decide)
  · replace h := zif_t h c13
    cases h
    exact z_throwWv X Y hQ rfl zt_RX11_98 zs_1000 dX11_demandLiveRow_16 dX11_demandLiveRow_19 dX11_demandLiveRow_20 dX11_demandLiveRow_23 dX11_demandLiveRow_26 [] rfl (by decide) (by decide) (by decide) (by decide) (by decide) (by decide)
theorem metX11_demandLiveRow (l : Launch) (hst : l.stackTraces = false) (D : va_G) (T : Nat → ClassId) (aO : Nat → Nat) (aP : Nat → Nat) (aX : Nat → Nat) (aL : Nat → Nat) (aW : Nat → Nat) (aV : Nat → Nat) (aF : Nat → Nat) (aK : Nat → Nat) (aZ : Nat → Nat) (aR : Nat → Nat) (aN : Nat → Nat) {sO : zSt} {sP : zSt} {x1 : Int32} {out : (String ⊕ Unit)} (hf : fX11_demandLiveRow sO sP x1 = some out) (base sz : Nat) : vx_Met l yX11_demandLiveRow (zws yX11_demandLiveRow cX11_demandLiveRow 2 none) rmX11_demandLiveRow (zPx D T [.ref (aO 0), .int x1] [wX11 T aO (aP 0) (aX 0) (aL 0) (aW 0) (aV 0) (aF 0) (aK 0) (aZ 0) (aR 0) aN sO, wX5 T aP sP] [] base sz) (zQxv D out [] (zA [] sz)) (zXxv D out [] (zA [] sz)) 2 12 (zA [] sz) :=
  zMetXv hst (D := D) (T := T) (av := [.ref (aO 0), .int x1]) (ws := fun T => [wX11 T aO (aP 0) (aX 0) (aL 0) (aW 0) (aV 0) (aF 0) (aK 0) (aZ 0) (aR 0) aN sO, wX5 T aP sP]) (wm := fun T => []) (gm1 := fun T => []) (o := out) (lv0 := [(0, .ref (aO 0)), (1, .int x1)]) [] (by decide +kernel) rfl (Nat.le_of_ble_eq_true rfl) rfl (fun C base X Y hQ => bX11_demandLiveRow_0 X Y hQ hf) base sz
/-- public int dropRow(int) throws java.lang.IndexOutOfBoundsException, java.lang.IllegalStateException; of Tableaufloor -/
abbrev rmX11_dropRow : Room := { frames := 8, cells := 2, slots := 12, locals := 124 }
def fX11_dropRow (sO : zSt) (sP : zSt) (sW : zSt) (sK : zSt) (sZ : zSt) (x1 : Int32) : Option ((String ⊕ Int32) × zSt × zSt × zSt × zSt) :=
  ((fX11_demandLiveRow sO sP x1).bind (fun o2 =>
    (Sum.elim (fun E2 => some (.inl E2, sP, sW, sK, sZ)) (fun r2 =>
    ((fX11_forgetAnswers sO sW sK sZ).bind (fun o6 =>
    ((fX5_removeRow sP x1).bind (fun o14 =>
    some (.inr o14.1, o14.2, o6.1, o6.2.1, o6.2.2)))))) o2)))
theorem bX11_dropRow_0 {C : zCtx} (X : zFx C cX11_dropRow 2 RX11 rmX11_dropRow (some .int)) {base : Nat} (Y : zFy C base) {aO : Nat → Nat} {aP : Nat → Nat} {aX : Nat → Nat} {aL : Nat → Nat} {aW : Nat → Nat} {aV : Nat → Nat} {aF : Nat → Nat} {aK : Nat → Nat} {aZ : Nat → Nat} {aR : Nat → Nat} {aS : Nat → Nat} {aD : Nat → Nat} {aQ : Nat → Nat} {aB : Nat → Nat} {aC : Nat → Nat} {aE : Nat → Nat} {aH : Nat → Nat} {aN : Nat → Nat} {sO : zSt} {sP : zSt} {sW : zSt} {sK : zSt} {sZ : zSt} {x1 : Int32} {out : (String ⊕ Int32) × zSt × zSt × zSt × zSt} (hQ : zXi C out.1 [wX5 (zcT C) aP out.2.1, wX9 (zcT C) aW (aP 0) (aS 0) (aD 0) (aQ 0) out.2.2.1, wX0 (zcT C) aK (aP 0) (aS 0) (aB 0) (aC 0) out.2.2.2.1, wX10 (zcT C) aZ (aP 0) (aE 0) (aH 0) out.2.2.2.2] 2 12) (h : fX11_dropRow sO sP sW sK sZ x1 = some out) : zG C 2 [1, 2, 3, 4] 0 0 [wX11 (zcT C) aO (aP 0) (aX 0) (aL 0) (aW 0) (aV 0) (aF 0) (aK 0) (aZ 0) (aR 0) aN sO, wX5 (zcT C) aP sP, wX9 (zcT C) aW (aP 0) (aS 0) (aD 0) (aQ 0) sW, wX0 (zcT C) aK (aP 0) (aS 0) (aB 0) (aC 0) sK, wX10 (zcT C) aZ (aP 0) (aE 0) (aH 0) sZ] 0 [(0, .ref (aO 0)), (1, .int x1)] [] := by
  unfold fX11_dropRow at h
  refine z_aload_n X dX11_dropRow_0 0 rfl ?_
  refine z_iload_n X dX11_dropRow_1 1 rfl ?_
  obtain ⟨o2, ho2, h⟩ := zbind_of h
  refine z_xcallVv (st := []) (ws2 := [wX11 (zcT C) aO (aP 0) (aX 0) (aL 0) (aW 0) (aV 0) (aF 0) (aK 0) (aZ 0) (aR 0) aN sO, wX5 (zcT C) aP sP, wX9 (zcT C) aW (aP 0) (aS 0) (aD 0) (aQ 0) sW, wX0 (zcT C) aK (aP 0) (aS 0) (aB 0) (aC 0) sK, wX10 (zcT C) aZ (aP 0) (aE 0) (aH 0) sZ]) X Y (metX11_demandLiveRow (zcl C) Y.2.2.2.2.1 (zcD C) (zcT C) aO aP aX aL aW aV aF aK aZ aR aN ho2) zmX11_demandLiveRow zw990 dX11_dropRow_2 0 0 12 rfl rfl rfl rfl [0, 1] rfl rfl [] rfl (by decide) trivial rfl rfl rfl (Nat.le_of_ble_eq_true rfl) rfl rfl ⟨Nat.le_of_ble_eq_true rfl, Nat.le_of_ble_eq_true rfl⟩ ⟨Nat.le_of_ble_eq_true rfl, Nat.le_of_ble_eq_true rfl⟩ (fun E2 hE2 => ?_) (fun r2 hr2 => ?_)
  · replace h := zsum_l h hE2
    cases h
    exact z_xouti X Y hQ rfl [1, 2, 3, 4] rfl (by decide) (by decide)
  replace h := zsum_r h hr2
  refine z_aload_n X dX11_dropRow_5 0 rfl ?_
  obtain ⟨o6, ho6, h⟩ := zbind_of h
  refine z_callVv (st := []) (ws2 := [wX11 (zcT C) aO (aP 0) (aX 0) (aL 0) (aW 0) (aV 0) (aF 0) (aK 0) (aZ 0) (aR 0) aN sO, wX5 (zcT C) aP sP, wX9 (zcT C) aW (aP 0) (aS 0) (aD 0) (aQ 0) o6.1, wX0 (zcT C) aK (aP 0) (aS 0) (aB 0) (aC 0) o6.2.1, wX10 (zcT C) aZ (aP 0) (aE 0) (aH 0) o6.2.2]) X (metX11_forgetAnswers (zcl C) (zcD C) (zcT C) aO aP aX aL aW aV aF aK aZ aR aS aD aQ aB aC aE aH aN ho6) zmX11_forgetAnswers zw480 dX11_dropRow_6 0 0 12 rfl rfl rfl rfl [0, 2, 3, 4] rfl rfl [2, 3, 4] rfl (by decide) ⟨zsX9 , ⟨zsX0 , ⟨zsX10 , trivial⟩⟩⟩ rfl rfl rfl (Nat.le_of_ble_eq_true rfl) rfl rfl ⟨Nat.le_of_ble_eq_true rfl, Nat.le_of_ble_eq_true rfl⟩ ⟨Nat.le_of_ble_eq_true rfl, Nat.le_of_ble_eq_true rfl⟩ ?_
  refine z_aload_n X dX11_dropRow_9 0 rfl ?_
  refine z_get (v := .ref (aP 0)) X 0 0 12 0 ziX11 rfl (by decide) zw373 rfl dX11_dropRow_10 rfl rfl rfl ?_
  refine z_iload_n X dX11_dropRow_13 1 rfl ?_
  obtain ⟨o14, ho14, h⟩ := zbind_of h
  refine z_callVi (st := []) (ws2 := [wX11 (zcT C) aO (aP 0) (aX 0) (aL 0) (aW 0) (aV 0) (aF 0) (aK 0) (aZ 0) (aR 0) aN sO, wX5 (zcT C) aP o14.2, wX9 (zcT C) aW (aP 0) (aS 0) (aD 0) (aQ 0) o6.1, wX0 (zcT C) aK (aP 0) (aS 0) (aB 0) (aC 0) o6.2.1, wX10 (zcT C) aZ (aP 0) (aE 0) (aH 0) o6.2.2]) X (metX5_removeRow (zcl C) (zcD C) (zcT C) aP ho14) zmX5_removeRow zw1001 dX11_dropRow_14 1 0 6 rfl rfl rfl rfl [1] rfl rfl [1] rfl (by decide) ⟨zsX5 , trivial⟩ rfl rfl rfl (Nat.le_of_ble_eq_true rfl) rfl rfl ⟨Nat.le_of_ble_eq_true rfl, Nat.le_of_ble_eq_true rfl⟩ ⟨Nat.le_of_ble_eq_true rfl, Nat.le_of_ble_eq_true rfl⟩ ?_
  cases h
  exact z_xiret X hQ dX11_dropRow_17 rfl [1, 2, 3, 4] rfl (by decide) (by decide)
theorem metX11_dropRow (l : Launch) (hst : l.stackTraces = false) (D : va_G) (T : Nat → ClassId) (aO : Nat → Nat) (aP : Nat → Nat) (aX : Nat → Nat) (aL : Nat → Nat) (aW : Nat → Nat) (aV : Nat → Nat) (aF : Nat → Nat) (aK : Nat → Nat) (aZ : Nat → Nat) (aR : Nat → Nat) (aS : Nat → Nat) (aD : Nat → Nat) (aQ : Nat → Nat) (aB : Nat → Nat) (aC : Nat → Nat) (aE : Nat → Nat) (aH : Nat → Nat) (aN : Nat → Nat) {sO : zSt} {sP : zSt} {sW : zSt} {sK : zSt} {sZ : zSt} {x1 : Int32} {out : (String ⊕ Int32) × zSt × zSt × zSt × zSt} (hf : fX11_dropRow sO sP sW sK sZ x1 = some out) (base sz : Nat) : vx_Met l yX11_dropRow (zws yX11_dropRow cX11_dropRow 2 (some .int)) rmX11_dropRow (zPx D T [.ref (aO 0), .int x1] [wX11 T aO (aP 0) (aX 0) (aL 0) (aW 0) (aV 0) (aF 0) (aK 0) (aZ 0) (aR 0) aN sO, wX5 T aP sP, wX9 T aW (aP 0) (aS 0) (aD 0) (aQ 0) sW, wX0 T aK (aP 0) (aS 0) (aB 0) (aC 0) sK, wX10 T aZ (aP 0) (aE 0) (aH 0) sZ] [wX5 T aP sP, wX9 T aW (aP 0) (aS 0) (aD 0) (aQ 0) sW, wX0 T aK (aP 0) (aS 0) (aB 0) (aC 0) sK, wX10 T aZ (aP 0) (aE 0) (aH 0) sZ] base sz) (zQxi D out.1 [wX5 T aP out.2.1, wX9 T aW (aP 0) (aS 0) (aD 0) (aQ 0) out.2.2.1, wX0 T aK (aP 0) (aS 0) (aB 0) (aC 0) out.2.2.2.1, wX10 T aZ (aP 0) (aE 0) (aH 0) out.2.2.2.2] (zA [wX5 T aP sP, wX9 T aW (aP 0) (aS 0) (aD 0) (aQ 0) sW, wX0 T aK (aP 0) (aS 0) (aB 0) (aC 0) sK, wX10 T aZ (aP 0) (aE 0) (aH 0) sZ] sz)) (zXxi D out.1 [wX5 T aP out.2.1, wX9 T aW (aP 0) (aS 0) (aD 0) (aQ 0) out.2.2.1, wX0 T aK (aP 0) (aS 0) (aB 0) (aC 0) out.2.2.2.1, wX10 T aZ (aP 0) (aE 0) (aH 0) out.2.2.2.2] (zA [wX5 T aP sP, wX9 T aW (aP 0) (aS 0) (aD 0) (aQ 0) sW, wX0 T aK (aP 0) (aS 0) (aB 0) (aC 0) sK, wX10 T aZ (aP 0) (aE 0) (aH 0) sZ] sz)) 2 12 (zA [wX5 T aP sP, wX9 T aW (aP 0) (aS 0) (aD 0) (aQ 0) sW, wX0 T aK (aP 0) (aS 0) (aB 0) (aC 0) sK, wX10 T aZ (aP 0) (aE 0) (aH 0) sZ] sz) :=
  zMetXi hst (D := D) (T := T) (av := [.ref (aO 0), .int x1]) (ws := fun T => [wX11 T aO (aP 0) (aX 0) (aL 0) (aW 0) (aV 0) (aF 0) (aK 0) (aZ 0) (aR 0) aN sO, wX5 T aP sP, wX9 T aW (aP 0) (aS 0) (aD 0) (aQ 0) sW, wX0 T aK (aP 0) (aS 0) (aB 0) (aC 0) sK, wX10 T aZ (aP 0) (aE 0) (aH 0) sZ]) (wm := fun T => [wX5 T aP sP, wX9 T aW (aP 0) (aS 0) (aD 0) (aQ 0) sW, wX0 T aK (aP 0) (aS 0) (aB 0) (aC 0) sK, wX10 T aZ (aP 0) (aE 0) (aH 0) sZ]) (gm1 := fun T => [wX5 T aP out.2.1, wX9 T aW (aP 0) (aS 0) (aD 0) (aQ 0) out.2.2.1, wX0 T aK (aP 0) (aS 0) (aB 0) (aC 0) out.2.2.2.1, wX10 T aZ (aP 0) (aE 0) (aH 0) out.2.2.2.2]) (o := out.1) (lv0 := [(0, .ref (aO 0)), (1, .int x1)]) [1, 2, 3, 4] (by decide +kernel) rfl (Nat.le_of_ble_eq_true rfl) rfl (fun C base X Y hQ => bX11_dropRow_0 X Y hQ hf) base sz
/-- public int setNumber(int, int) throws java.lang.IndexOutOfBoundsException, java.lang.IllegalArgumentException, java.lang.IllegalStateException; of Tableaufloor -/
abbrev rmX11_setNumber : Room := { frames := 8, cells := 3, slots := 18, locals := 124 }
def fX11_setNumber_17 (sO : zSt) (sP : zSt) (sW : zSt) (sK : zSt) (sZ : zSt) : Option ((String ⊕ Int32) × zSt × zSt × zSt × zSt) :=
  some (.inl "java/lang/IllegalArgumentException", sP, sW, sK, sZ)
def fX11_setNumber (sO : zSt) (sP : zSt) (sW : zSt) (sK : zSt) (sZ : zSt) (x1 : Int32) (x2 : Int32) : Option ((String ⊕ Int32) × zSt × zSt × zSt × zSt) :=
  ((fX11_demandRow sO sP x1).bind (fun o2 =>
    (Sum.elim (fun E2 => some (.inl E2, sP, sW, sK, sZ)) (fun r2 =>
    (if x2 < (-99 : Int32) then
    (fX11_setNumber_17 sO sP sW sK sZ)
  else
    (if x2 ≤ (99 : Int32) then
      ((fX11_demandLiveRow sO sP x1).bind (fun o29 =>
        (Sum.elim (fun E29 => some (.inl E29, sP, sW, sK, sZ)) (fun r29 =>
        ((fX5_numberOf sP x1).bind (fun o37 =>
        ((fX5_putNumber sP x1 x2).bind (fun o47 =>
        ((fX11_forgetAnswers sO sW sK sZ).bind (fun o51 =>
        some (.inr o37, o47, o51.1, o51.2.1, o51.2.2)))))))) o29)))
    else
      (fX11_setNumber_17 sO sP sW sK sZ)))) o2)))
theorem bX11_setNumber_17 {C : zCtx} (X : zFx C cX11_setNumber 4 RX11 rmX11_setNumber (some .int)) {base : Nat} (Y : zFy C base) {aO : Nat → Nat} {aP : Nat → Nat} {aX : Nat → Nat} {aL : Nat → Nat} {aW : Nat → Nat} {aV : Nat → Nat} {aF : Nat → Nat} {aK : Nat → Nat} {aZ : Nat → Nat} {aR : Nat → Nat} {aS : Nat → Nat} {aD : Nat → Nat} {aQ : Nat → Nat} {aB : Nat → Nat} {aC : Nat → Nat} {aE : Nat → Nat} {aH : Nat → Nat} {aN : Nat → Nat} {sO : zSt} {sP : zSt} {sW : zSt} {sK : zSt} {sZ : zSt} {out : (String ⊕ Int32) × zSt × zSt × zSt × zSt} (hQ : zXi C out.1 [wX5 (zcT C) aP out.2.1, wX9 (zcT C) aW (aP 0) (aS 0) (aD 0) (aQ 0) out.2.2.1, wX0 (zcT C) aK (aP 0) (aS 0) (aB 0) (aC 0) out.2.2.2.1, wX10 (zcT C) aZ (aP 0) (aE 0) (aH 0) out.2.2.2.2] 3 18) (h : fX11_setNumber_17 sO sP sW sK sZ = some out) : zG C 4 [1, 2, 3, 4] 1 6 [wX11 (zcT C) aO (aP 0) (aX 0) (aL 0) (aW 0) (aV 0) (aF 0) (aK 0) (aZ 0) (aR 0) aN sO, wX5 (zcT C) aP sP, wX9 (zcT C) aW (aP 0) (aS 0) (aD 0) (aQ 0) sW, wX0 (zcT C) aK (aP 0) (aS 0) (aB 0) (aC 0) sK, wX10 (zcT C) aZ (aP 0) (aE 0) (aH 0) sZ] 17 [] [] := by
  unfold fX11_setNumber_17 at h
  cases h
  exact z_throwi X Y hQ rfl zt_RX11_87 zs_1012 dX11_setNumber_17 dX11_setNumber_20 dX11_setNumber_21 dX11_setNumber_23 dX11_setNumber_26 [1, 2, 3, 4] rfl (by decide) (by decide) (by decide) (by decide) (by decide) (by decide)
theorem bX11_setNumber_0 {C : zCtx} (X : zFx C cX11_setNumber 4 RX11 rmX11_setNumber (some .int)) {base : Nat} (Y : zFy C base) {aO : Nat → Nat} {aP : Nat → Nat} {aX : Nat → Nat} {aL : Nat → Nat} {aW : Nat → Nat} {aV : Nat → Nat} {aF : Nat → Nat} {aK : Nat → Nat} {aZ : Nat → Nat} {aR : Nat → Nat} {aS : Nat → Nat} {aD : Nat → Nat} {aQ : Nat → Nat} {aB : Nat → Nat} {aC : Nat → Nat} {aE : Nat → Nat} {aH : Nat → Nat} {aN : Nat → Nat} {sO : zSt} {sP : zSt} {sW : zSt} {sK : zSt} {sZ : zSt} {x1 : Int32} {x2 : Int32} {out : (String ⊕ Int32) × zSt × zSt × zSt × zSt} (hQ : zXi C out.1 [wX5 (zcT C) aP out.2.1, wX9 (zcT C) aW (aP 0) (aS 0) (aD 0) (aQ 0) out.2.2.1, wX0 (zcT C) aK (aP 0) (aS 0) (aB 0) (aC 0) out.2.2.2.1, wX10 (zcT C) aZ (aP 0) (aE 0) (aH 0) out.2.2.2.2] 3 18) (h : fX11_setNumber sO sP sW sK sZ x1 x2 = some out) : zG C 4 [1, 2, 3, 4] 0 0 [wX11 (zcT C) aO (aP 0) (aX 0) (aL 0) (aW 0) (aV 0) (aF 0) (aK 0) (aZ 0) (aR 0) aN sO, wX5 (zcT C) aP sP, wX9 (zcT C) aW (aP 0) (aS 0) (aD 0) (aQ 0) sW, wX0 (zcT C) aK (aP 0) (aS 0) (aB 0) (aC 0) sK, wX10 (zcT C) aZ (aP 0) (aE 0) (aH 0) sZ] 0 [(0, .ref (aO 0)), (1, .int x1), (2, .int x2)] [] := by
  unfold fX11_setNumber at h
  refine z_aload_n X dX11_setNumber_0 0 rfl ?_
  refine z_iload_n X dX11_setNumber_1 1 rfl ?_
  obtain ⟨o2, ho2, h⟩ := zbind_of h
  refine z_xcallVv (st := []) (ws2 := [wX11 (zcT C) aO (aP 0) (aX 0) (aL 0) (aW 0) (aV 0) (aF 0) (aK 0) (aZ 0) (aR 0) aN sO, wX5 (zcT C) aP sP, wX9 (zcT C) aW (aP 0) (aS 0) (aD 0) (aQ 0) sW, wX0 (zcT C) aK (aP 0) (aS 0) (aB 0) (aC 0) sK, wX10 (zcT C) aZ (aP 0) (aE 0) (aH 0) sZ]) X Y (metX11_demandRow (zcl C) Y.2.2.2.2.1 (zcD C) (zcT C) aO aP aX aL aW aV aF aK aZ aR aN ho2) zmX11_demandRow zw994 dX11_setNumber_2 0 0 12 rfl rfl rfl rfl [0, 1] rfl rfl [] rfl (by decide) trivial rfl rfl rfl (Nat.le_of_ble_eq_true rfl) rfl rfl ⟨Nat.le_of_ble_eq_true rfl, Nat.le_of_ble_eq_true rfl⟩ ⟨Nat.le_of_ble_eq_true rfl, Nat.le_of_ble_eq_true rfl⟩ (fun E2 hE2 => ?_) (fun r2 hr2 => ?_)
  · replace h := zsum_l h hE2
    cases h
    exact z_xouti X Y hQ rfl [1, 2, 3, 4] rfl (by decide) (by decide)
  replace h := zsum_r h hr2
  refine z_iload_n X dX11_setNumber_5 2 rfl ?_
  refine z_bipush (v := (-99 : Int32)) X dX11_setNumber_6 rfl ?_
  refine z_icmp_lt (tgt := 17) X dX11_setNumber_8 (by decide) (fun c8 => ?_) (fun c8 => ?_)
  · replace h := zif_t h c8
    exact z_wid (c2 := 1) (s2 := 6) (by decide) (by decide) <| z_at (pc2 := 17) (lv2 := []) (st2 := []) (ws2 := [wX11 (zcT C) aO (aP 0) (aX 0) (aL 0) (aW 0) (aV 0) (aF 0) (aK 0) (aZ 0) (aR 0) aN sO, wX5 (zcT C) aP sP, wX9 (zcT C) aW (aP 0) (aS 0) (aD 0) (aQ 0) sW, wX0 (zcT C) aK (aP 0) (aS 0) (aB 0) (aC 0) sK, wX10 (zcT C) aZ (aP 0) (aE 0) (aH 0) sZ]) rfl rfl rfl [] rfl (bX11_setNumber_17 X Y hQ  h)
  · replace h := zif_f h c8
    refine z_iload_n X dX11_setNumber_11 2 rfl ?_
    refine z_bipush (v := (99 : Int32)) X dX11_setNumber_12 rfl ?_
    refine z_icmp_le (tgt := 27) X dX11_setNumber_14 (by decide) (fun c14 => ?_) (fun c14 => ?_)
    · replace h := zif_t h c14
      refine z_aload_n X dX11_setNumber_27 0 rfl ?_
      refine z_iload_n X dX11_setNumber_28 1 rfl ?_
      obtain ⟨o29, ho29, h⟩ := zbind_of h
      refine z_xcallVv (st := []) (ws2 := [wX11 (zcT C) aO (aP 0) (aX 0) (aL 0) (aW 0) (aV 0) (aF 0) (aK 0) (aZ 0) (aR 0) aN sO, wX5 (zcT C) aP sP, wX9 (zcT C) aW (aP 0) (aS 0) (aD 0) (aQ 0) sW, wX0 (zcT C) aK (aP 0) (aS 0) (aB 0) (aC 0) sK, wX10 (zcT C) aZ (aP 0) (aE 0) (aH 0) sZ]) X Y (metX11_demandLiveRow (zcl C) Y.2.2.2.2.1 (zcD C) (zcT C) aO aP aX aL aW aV aF aK aZ aR aN ho29) zmX11_demandLiveRow zw990 dX11_setNumber_29 0 0 12 rfl rfl rfl rfl [0, 1] rfl rfl [] rfl (by decide) trivial rfl rfl rfl (Nat.le_of_ble_eq_true rfl) rfl rfl ⟨Nat.le_of_ble_eq_true rfl, Nat.le_of_ble_eq_true rfl⟩ ⟨Nat.le_of_ble_eq_true rfl, Nat.le_of_ble_eq_true rfl⟩ (fun E29 hE29 => ?_) (fun r29 hr29 => ?_)
      · replace h := zsum_l h hE29
        cases h
        exact z_xouti X Y hQ rfl [1, 2, 3, 4] rfl (by decide) (by decide)
      replace h := zsum_r h hr29
      refine z_aload_n X dX11_setNumber_32 0 rfl ?_
      refine z_get (v := .ref (aP 0)) X 0 0 12 0 ziX11 rfl (by decide) zw373 rfl dX11_setNumber_33 rfl rfl rfl ?_
      refine z_iload_n X dX11_setNumber_36 1 rfl ?_
      obtain ⟨o37, ho37, h⟩ := zbind_of h
      refine z_callVi (st := []) (ws2 := [wX11 (zcT C) aO (aP 0) (aX 0) (aL 0) (aW 0) (aV 0) (aF 0) (aK 0) (aZ 0) (aR 0) aN sO, wX5 (zcT C) aP sP, wX9 (zcT C) aW (aP 0) (aS 0) (aD 0) (aQ 0) sW, wX0 (zcT C) aK (aP 0) (aS 0) (aB 0) (aC 0) sK, wX10 (zcT C) aZ (aP 0) (aE 0) (aH 0) sZ]) X (metX5_numberOf (zcl C) (zcD C) (zcT C) aP ho37) zmX5_numberOf zw1013 dX11_setNumber_37 1 0 6 rfl rfl rfl rfl [1] rfl rfl [] rfl (by decide) trivial rfl rfl rfl (Nat.le_of_ble_eq_true rfl) rfl rfl ⟨Nat.le_of_ble_eq_true rfl, Nat.le_of_ble_eq_true rfl⟩ ⟨Nat.le_of_ble_eq_true rfl, Nat.le_of_ble_eq_true rfl⟩ ?_
      refine z_istore_n (lv2 := [(3, .int o37), (0, .ref (aO 0)), (1, .int x1), (2, .int x2)]) X dX11_setNumber_40 rfl (by decide) rfl ?_
      refine z_aload_n X dX11_setNumber_41 1 rfl ?_
      refine z_get (v := .ref (aP 0)) X 0 0 12 0 ziX11 rfl (by decide) zw373 rfl dX11_setNumber_42 rfl rfl rfl ?_
      refine z_iload_n X dX11_setNumber_45 2 rfl ?_
      refine z_iload_n X dX11_setNumber_46 3 rfl ?_
      obtain ⟨o47, ho47, h⟩ := zbind_of h
      refine z_callVv (st := []) (ws2 := [wX11 (zcT C) aO (aP 0) (aX 0) (aL 0) (aW 0) (aV 0) (aF 0) (aK 0) (aZ 0) (aR 0) aN sO, wX5 (zcT C) aP o47, wX9 (zcT C) aW (aP 0) (aS 0) (aD 0) (aQ 0) sW, wX0 (zcT C) aK (aP 0) (aS 0) (aB 0) (aC 0) sK, wX10 (zcT C) aZ (aP 0) (aE 0) (aH 0) sZ]) X (metX5_putNumber (zcl C) (zcD C) (zcT C) aP ho47) zmX5_putNumber zw1014 dX11_setNumber_47 1 0 6 rfl rfl rfl rfl [1] rfl rfl [1] rfl (by decide) ⟨zsX5 , trivial⟩ rfl rfl rfl (Nat.le_of_ble_eq_true rfl) rfl rfl ⟨Nat.le_of_ble_eq_true rfl, Nat.le_of_ble_eq_true rfl⟩ ⟨Nat.le_of_ble_eq_true rfl, Nat.le_of_ble_eq_true rfl⟩ ?_
      refine z_aload_n X dX11_setNumber_50 1 rfl ?_
      obtain ⟨o51, ho51, h⟩ := zbind_of h
      refine z_callVv (st := []) (ws2 := [wX11 (zcT C) aO (aP 0) (aX 0) (aL 0) (aW 0) (aV 0) (aF 0) (aK 0) (aZ 0) (aR 0) aN sO, wX5 (zcT C) aP o47, wX9 (zcT C) aW (aP 0) (aS 0) (aD 0) (aQ 0) o51.1, wX0 (zcT C) aK (aP 0) (aS 0) (aB 0) (aC 0) o51.2.1, wX10 (zcT C) aZ (aP 0) (aE 0) (aH 0) o51.2.2]) X (metX11_forgetAnswers (zcl C) (zcD C) (zcT C) aO aP aX aL aW aV aF aK aZ aR aS aD aQ aB aC aE aH aN ho51) zmX11_forgetAnswers zw480 dX11_setNumber_51 0 0 12 rfl rfl rfl rfl [0, 2, 3, 4] rfl rfl [2, 3, 4] rfl (by decide) ⟨zsX9 , ⟨zsX0 , ⟨zsX10 , trivial⟩⟩⟩ rfl rfl rfl (Nat.le_of_ble_eq_true rfl) rfl rfl ⟨Nat.le_of_ble_eq_true rfl, Nat.le_of_ble_eq_true rfl⟩ ⟨Nat.le_of_ble_eq_true rfl, Nat.le_of_ble_eq_true rfl⟩ ?_
      refine z_iload_n X dX11_setNumber_54 0 rfl ?_
      cases h
      exact z_xiret X hQ dX11_setNumber_55 rfl [1, 2, 3, 4] rfl (by decide) (by decide)
    · replace h := zif_f h c14
      exact z_wid (c2 := 1) (s2 := 6) (by decide) (by decide) <| z_at (pc2 := 17) (lv2 := []) (st2 := []) (ws2 := [wX11 (zcT C) aO (aP 0) (aX 0) (aL 0) (aW 0) (aV 0) (aF 0) (aK 0) (aZ 0) (aR 0) aN sO, wX5 (zcT C) aP sP, wX9 (zcT C) aW (aP 0) (aS 0) (aD 0) (aQ 0) sW, wX0 (zcT C) aK (aP 0) (aS 0) (aB 0) (aC 0) sK, wX10 (zcT C) aZ (aP 0) (aE 0) (aH 0) sZ]) rfl rfl rfl [] rfl (bX11_setNumber_17 X Y hQ  h)
theorem metX11_setNumber (l : Launch) (hst : l.stackTraces = false) (D : va_G) (T : Nat → ClassId) (aO : Nat → Nat) (aP : Nat → Nat) (aX : Nat → Nat) (aL : Nat → Nat) (aW : Nat → Nat) (aV : Nat → Nat) (aF : Nat → Nat) (aK : Nat → Nat) (aZ : Nat → Nat) (aR : Nat → Nat) (aS : Nat → Nat) (aD : Nat → Nat) (aQ : Nat → Nat) (aB : Nat → Nat) (aC : Nat → Nat) (aE : Nat → Nat) (aH : Nat → Nat) (aN : Nat → Nat) {sO : zSt} {sP : zSt} {sW : zSt} {sK : zSt} {sZ : zSt} {x1 : Int32} {x2 : Int32} {out : (String ⊕ Int32) × zSt × zSt × zSt × zSt} (hf : fX11_setNumber sO sP sW sK sZ x1 x2 = some out) (base sz : Nat) : vx_Met l yX11_setNumber (zws yX11_setNumber cX11_setNumber 4 (some .int)) rmX11_setNumber (zPx D T [.ref (aO 0), .int x1, .int x2] [wX11 T aO (aP 0) (aX 0) (aL 0) (aW 0) (aV 0) (aF 0) (aK 0) (aZ 0) (aR 0) aN sO, wX5 T aP sP, wX9 T aW (aP 0) (aS 0) (aD 0) (aQ 0) sW, wX0 T aK (aP 0) (aS 0) (aB 0) (aC 0) sK, wX10 T aZ (aP 0) (aE 0) (aH 0) sZ] [wX5 T aP sP, wX9 T aW (aP 0) (aS 0) (aD 0) (aQ 0) sW, wX0 T aK (aP 0) (aS 0) (aB 0) (aC 0) sK, wX10 T aZ (aP 0) (aE 0) (aH 0) sZ] base sz) (zQxi D out.1 [wX5 T aP out.2.1, wX9 T aW (aP 0) (aS 0) (aD 0) (aQ 0) out.2.2.1, wX0 T aK (aP 0) (aS 0) (aB 0) (aC 0) out.2.2.2.1, wX10 T aZ (aP 0) (aE 0) (aH 0) out.2.2.2.2] (zA [wX5 T aP sP, wX9 T aW (aP 0) (aS 0) (aD 0) (aQ 0) sW, wX0 T aK (aP 0) (aS 0) (aB 0) (aC 0) sK, wX10 T aZ (aP 0) (aE 0) (aH 0) sZ] sz)) (zXxi D out.1 [wX5 T aP out.2.1, wX9 T aW (aP 0) (aS 0) (aD 0) (aQ 0) out.2.2.1, wX0 T aK (aP 0) (aS 0) (aB 0) (aC 0) out.2.2.2.1, wX10 T aZ (aP 0) (aE 0) (aH 0) out.2.2.2.2] (zA [wX5 T aP sP, wX9 T aW (aP 0) (aS 0) (aD 0) (aQ 0) sW, wX0 T aK (aP 0) (aS 0) (aB 0) (aC 0) sK, wX10 T aZ (aP 0) (aE 0) (aH 0) sZ] sz)) 3 18 (zA [wX5 T aP sP, wX9 T aW (aP 0) (aS 0) (aD 0) (aQ 0) sW, wX0 T aK (aP 0) (aS 0) (aB 0) (aC 0) sK, wX10 T aZ (aP 0) (aE 0) (aH 0) sZ] sz) :=
  zMetXi hst (D := D) (T := T) (av := [.ref (aO 0), .int x1, .int x2]) (ws := fun T => [wX11 T aO (aP 0) (aX 0) (aL 0) (aW 0) (aV 0) (aF 0) (aK 0) (aZ 0) (aR 0) aN sO, wX5 T aP sP, wX9 T aW (aP 0) (aS 0) (aD 0) (aQ 0) sW, wX0 T aK (aP 0) (aS 0) (aB 0) (aC 0) sK, wX10 T aZ (aP 0) (aE 0) (aH 0) sZ]) (wm := fun T => [wX5 T aP sP, wX9 T aW (aP 0) (aS 0) (aD 0) (aQ 0) sW, wX0 T aK (aP 0) (aS 0) (aB 0) (aC 0) sK, wX10 T aZ (aP 0) (aE 0) (aH 0) sZ]) (gm1 := fun T => [wX5 T aP out.2.1, wX9 T aW (aP 0) (aS 0) (aD 0) (aQ 0) out.2.2.1, wX0 T aK (aP 0) (aS 0) (aB 0) (aC 0) out.2.2.2.1, wX10 T aZ (aP 0) (aE 0) (aH 0) out.2.2.2.2]) (o := out.1) (lv0 := [(0, .ref (aO 0)), (1, .int x1), (2, .int x2)]) [1, 2, 3, 4] (by decide +kernel) rfl (Nat.le_of_ble_eq_true rfl) rfl (fun C base X Y hQ => bX11_setNumber_0 X Y hQ hf) base sz
/-- public int dropAims(); of Tableaufloor -/
abbrev rmX11_dropAims : Room := { frames := 1, cells := 0, slots := 0, locals := 20 }
def fX11_dropAims (sO : zSt) (sP : zSt) (sW : zSt) (sK : zSt) (sZ : zSt) : Option (Int32 × zSt × zSt × zSt × zSt) :=
  (zlet (zgi sP 11) (fun v7 =>
    (zlet (zsi sP 11 (0 : Int32)) (fun sP13 =>
    ((fX11_forgetAnswers sO sW sK sZ).bind (fun o17 =>
    some (v7, sP13, o17.1, o17.2.1, o17.2.2)))))))
theorem bX11_dropAims_0 {C : zCtx} (X : zFx C cX11_dropAims 2 RX11 rmX11_dropAims (some .int)) {aO : Nat → Nat} {aP : Nat → Nat} {aX : Nat → Nat} {aL : Nat → Nat} {aW : Nat → Nat} {aV : Nat → Nat} {aF : Nat → Nat} {aK : Nat → Nat} {aZ : Nat → Nat} {aR : Nat → Nat} {aS : Nat → Nat} {aD : Nat → Nat} {aQ : Nat → Nat} {aB : Nat → Nat} {aC : Nat → Nat} {aE : Nat → Nat} {aH : Nat → Nat} {aN : Nat → Nat} {sO : zSt} {sP : zSt} {sW : zSt} {sK : zSt} {sZ : zSt} {out : Int32 × zSt × zSt × zSt × zSt} (hQ : zHi C out.1 [wX5 (zcT C) aP out.2.1, wX9 (zcT C) aW (aP 0) (aS 0) (aD 0) (aQ 0) out.2.2.1, wX0 (zcT C) aK (aP 0) (aS 0) (aB 0) (aC 0) out.2.2.2.1, wX10 (zcT C) aZ (aP 0) (aE 0) (aH 0) out.2.2.2.2] 0 0) (h : fX11_dropAims sO sP sW sK sZ = some out) : zG C 2 [1, 2, 3, 4] 0 0 [wX11 (zcT C) aO (aP 0) (aX 0) (aL 0) (aW 0) (aV 0) (aF 0) (aK 0) (aZ 0) (aR 0) aN sO, wX5 (zcT C) aP sP, wX9 (zcT C) aW (aP 0) (aS 0) (aD 0) (aQ 0) sW, wX0 (zcT C) aK (aP 0) (aS 0) (aB 0) (aC 0) sK, wX10 (zcT C) aZ (aP 0) (aE 0) (aH 0) sZ] 0 [(0, .ref (aO 0))] [] := by
  unfold fX11_dropAims at h
  refine z_aload_n X dX11_dropAims_0 0 rfl ?_
  refine z_get (v := .ref (aP 0)) X 0 0 12 0 ziX11 rfl (by decide) zw373 rfl dX11_dropAims_1 rfl rfl rfl ?_
  refine z_getN (v := .int (zgi sP 11)) X 1 0 6 11 ziX5 rfl (by decide) zw72 rfl dX11_dropAims_4 rfl rfl rfl ?_
  obtain ⟨v7, ev7, h⟩ := zlet_of h
  refine z_topi ev7 ?_
  refine z_istore_n (lv2 := [(1, .int v7), (0, .ref (aO 0))]) X dX11_dropAims_7 rfl (by decide) rfl ?_
  refine z_aload_n X dX11_dropAims_8 1 rfl ?_
  refine z_get (v := .ref (aP 0)) X 0 0 12 0 ziX11 rfl (by decide) zw373 rfl dX11_dropAims_9 rfl rfl rfl ?_
  refine z_iconst (v := (0 : Int32)) X dX11_dropAims_12 rfl ?_
  obtain ⟨sP13, esP13, h⟩ := zlet_of h
  refine z_putN (ws2 := [wX11 (zcT C) aO (aP 0) (aX 0) (aL 0) (aW 0) (aV 0) (aF 0) (aK 0) (aZ 0) (aR 0) aN sO, wX5 (zcT C) aP sP13, wX9 (zcT C) aW (aP 0) (aS 0) (aD 0) (aQ 0) sW, wX0 (zcT C) aK (aP 0) (aS 0) (aB 0) (aC 0) sK, wX10 (zcT C) aZ (aP 0) (aE 0) (aH 0) sZ]) X 1 0 6 11 ziX5 rfl tyX5 tyX5_ok nmX5 (by decide) zw72 rfl rfl (ty := .int) (by decide +kernel) rfl rfl (by show 11 < 12; decide) dX11_dropAims_13 rfl rfl (by decide) (w2 := wX5 (zcT C) aP sP13) (by rw [esP13]; rfl) rfl ?_
  refine z_aload_n X dX11_dropAims_16 1 rfl ?_
  obtain ⟨o17, ho17, h⟩ := zbind_of h
  refine z_callVv (st := []) (ws2 := [wX11 (zcT C) aO (aP 0) (aX 0) (aL 0) (aW 0) (aV 0) (aF 0) (aK 0) (aZ 0) (aR 0) aN sO, wX5 (zcT C) aP sP13, wX9 (zcT C) aW (aP 0) (aS 0) (aD 0) (aQ 0) o17.1, wX0 (zcT C) aK (aP 0) (aS 0) (aB 0) (aC 0) o17.2.1, wX10 (zcT C) aZ (aP 0) (aE 0) (aH 0) o17.2.2]) X (metX11_forgetAnswers (zcl C) (zcD C) (zcT C) aO aP aX aL aW aV aF aK aZ aR aS aD aQ aB aC aE aH aN ho17) zmX11_forgetAnswers zw480 dX11_dropAims_17 0 0 12 rfl rfl rfl rfl [0, 2, 3, 4] rfl rfl [2, 3, 4] rfl (by decide) ⟨zsX9 , ⟨zsX0 , ⟨zsX10 , trivial⟩⟩⟩ rfl rfl rfl (Nat.le_of_ble_eq_true rfl) rfl rfl ⟨Nat.le_of_ble_eq_true rfl, Nat.le_of_ble_eq_true rfl⟩ ⟨Nat.le_of_ble_eq_true rfl, Nat.le_of_ble_eq_true rfl⟩ ?_
  refine z_iload_n X dX11_dropAims_20 0 rfl ?_
  cases h
  exact z_iret X hQ dX11_dropAims_21 rfl [1, 2, 3, 4] rfl (by decide) (by decide)
theorem metX11_dropAims (l : Launch) (D : va_G) (T : Nat → ClassId) (aO : Nat → Nat) (aP : Nat → Nat) (aX : Nat → Nat) (aL : Nat → Nat) (aW : Nat → Nat) (aV : Nat → Nat) (aF : Nat → Nat) (aK : Nat → Nat) (aZ : Nat → Nat) (aR : Nat → Nat) (aS : Nat → Nat) (aD : Nat → Nat) (aQ : Nat → Nat) (aB : Nat → Nat) (aC : Nat → Nat) (aE : Nat → Nat) (aH : Nat → Nat) (aN : Nat → Nat) {sO : zSt} {sP : zSt} {sW : zSt} {sK : zSt} {sZ : zSt} {out : Int32 × zSt × zSt × zSt × zSt} (hf : fX11_dropAims sO sP sW sK sZ = some out) (sz : Nat) : Met l yX11_dropAims (zws yX11_dropAims cX11_dropAims 2 (some .int)) rmX11_dropAims (zPc D T [.ref (aO 0)] [wX11 T aO (aP 0) (aX 0) (aL 0) (aW 0) (aV 0) (aF 0) (aK 0) (aZ 0) (aR 0) aN sO, wX5 T aP sP, wX9 T aW (aP 0) (aS 0) (aD 0) (aQ 0) sW, wX0 T aK (aP 0) (aS 0) (aB 0) (aC 0) sK, wX10 T aZ (aP 0) (aE 0) (aH 0) sZ] sz) (zQi D out.1 [wX5 T aP out.2.1, wX9 T aW (aP 0) (aS 0) (aD 0) (aQ 0) out.2.2.1, wX0 T aK (aP 0) (aS 0) (aB 0) (aC 0) out.2.2.2.1, wX10 T aZ (aP 0) (aE 0) (aH 0) out.2.2.2.2] (zA [wX5 T aP sP, wX9 T aW (aP 0) (aS 0) (aD 0) (aQ 0) sW, wX0 T aK (aP 0) (aS 0) (aB 0) (aC 0) sK, wX10 T aZ (aP 0) (aE 0) (aH 0) sZ] sz)) 0 0 (zA [wX5 T aP sP, wX9 T aW (aP 0) (aS 0) (aD 0) (aQ 0) sW, wX0 T aK (aP 0) (aS 0) (aB 0) (aC 0) sK, wX10 T aZ (aP 0) (aE 0) (aH 0) sZ] sz) :=
  zMet (D := D) (T := T) (av := [.ref (aO 0)]) (ws := fun T => [wX11 T aO (aP 0) (aX 0) (aL 0) (aW 0) (aV 0) (aF 0) (aK 0) (aZ 0) (aR 0) aN sO, wX5 T aP sP, wX9 T aW (aP 0) (aS 0) (aD 0) (aQ 0) sW, wX0 T aK (aP 0) (aS 0) (aB 0) (aC 0) sK, wX10 T aZ (aP 0) (aE 0) (aH 0) sZ]) (wm := fun T => [wX5 T aP sP, wX9 T aW (aP 0) (aS 0) (aD 0) (aQ 0) sW, wX0 T aK (aP 0) (aS 0) (aB 0) (aC 0) sK, wX10 T aZ (aP 0) (aE 0) (aH 0) sZ]) (lv0 := [(0, .ref (aO 0))]) [1, 2, 3, 4] (Qc := fun D T A => zQi D out.1 [wX5 T aP out.2.1, wX9 T aW (aP 0) (aS 0) (aD 0) (aQ 0) out.2.2.1, wX0 T aK (aP 0) (aS 0) (aB 0) (aC 0) out.2.2.2.1, wX10 T aZ (aP 0) (aE 0) (aH 0) out.2.2.2.2] A) (by decide +kernel) rfl (Nat.le_of_ble_eq_true rfl) rfl (fun C X hQ => bX11_dropAims_0 X hQ hf) sz
/-- public int coefficient(int, int) throws java.lang.IndexOutOfBoundsException; of Tableaufloor -/
abbrev rmX11_coefficient : Room := { frames := 7, cells := 2, slots := 12, locals := 103 }
def fX11_coefficient (sO : zSt) (sP : zSt) (x1 : Int32) (x2 : Int32) : Option ((String ⊕ Int32)) :=
  ((fX11_demandRow sO sP x1).bind (fun o2 =>
    (Sum.elim (fun E2 => some (.inl E2)) (fun r2 =>
    ((fX11_demandVariable sO sP x2).bind (fun o7 =>
    (Sum.elim (fun E7 => some (.inl E7)) (fun r7 =>
    ((fX5_rowCoefficient sP x1 x2).bind (fun o16 =>
    some (.inr o16)))) o7)))) o2)))
theorem bX11_coefficient_0 {C : zCtx} (X : zFx C cX11_coefficient 3 RX11 rmX11_coefficient (some .int)) {base : Nat} (Y : zFy C base) {aO : Nat → Nat} {aP : Nat → Nat} {aX : Nat → Nat} {aL : Nat → Nat} {aW : Nat → Nat} {aV : Nat → Nat} {aF : Nat → Nat} {aK : Nat → Nat} {aZ : Nat → Nat} {aR : Nat → Nat} {aN : Nat → Nat} {sO : zSt} {sP : zSt} {x1 : Int32} {x2 : Int32} {out : (String ⊕ Int32)} (hQ : zXi C out [] 2 12) (h : fX11_coefficient sO sP x1 x2 = some out) : zG C 3 [] 0 0 [wX11 (zcT C) aO (aP 0) (aX 0) (aL 0) (aW 0) (aV 0) (aF 0) (aK 0) (aZ 0) (aR 0) aN sO, wX5 (zcT C) aP sP] 0 [(0, .ref (aO 0)), (1, .int x1), (2, .int x2)] [] := by
  unfold fX11_coefficient at h
  refine z_aload_n X dX11_coefficient_0 0 rfl ?_
  refine z_iload_n X dX11_coefficient_1 1 rfl ?_
  obtain ⟨o2, ho2, h⟩ := zbind_of h
  refine z_xcallVv (st := []) (ws2 := [wX11 (zcT C) aO (aP 0) (aX 0) (aL 0) (aW 0) (aV 0) (aF 0) (aK 0) (aZ 0) (aR 0) aN sO, wX5 (zcT C) aP sP]) X Y (metX11_demandRow (zcl C) Y.2.2.2.2.1 (zcD C) (zcT C) aO aP aX aL aW aV aF aK aZ aR aN ho2) zmX11_demandRow zw994 dX11_coefficient_2 0 0 12 rfl rfl rfl rfl [0, 1] rfl rfl [] rfl (by decide) trivial rfl rfl rfl (Nat.le_of_ble_eq_true rfl) rfl rfl ⟨Nat.le_of_ble_eq_true rfl, Nat.le_of_ble_eq_true rfl⟩ ⟨Nat.le_of_ble_eq_true rfl, Nat.le_of_ble_eq_true rfl⟩ (fun E2 hE2 => ?_) (fun r2 hr2 => ?_)
  · replace h := zsum_l h hE2
    cases h
    exact z_xouti X Y hQ rfl [] rfl (by decide) (by decide)
  replace h := zsum_r h hr2
  refine z_aload_n X dX11_coefficient_5 0 rfl ?_
  refine z_iload_n X dX11_coefficient_6 2 rfl ?_
  obtain ⟨o7, ho7, h⟩ := zbind_of h
  refine z_xcallVv (st := []) (ws2 := [wX11 (zcT C) aO (aP 0) (aX 0) (aL 0) (aW 0) (aV 0) (aF 0) (aK 0) (aZ 0) (aR 0) aN sO, wX5 (zcT C) aP sP]) X Y (metX11_demandVariable (zcl C) Y.2.2.2.2.1 (zcD C) (zcT C) aO aP aX aL aW aV aF aK aZ aR aN ho7) zmX11_demandVariable zw858 dX11_coefficient_7 0 0 12 rfl rfl rfl rfl [0, 1] rfl rfl [] rfl (by decide) trivial rfl rfl rfl (Nat.le_of_ble_eq_true rfl) rfl rfl ⟨Nat.le_of_ble_eq_true rfl, Nat.le_of_ble_eq_true rfl⟩ ⟨Nat.le_of_ble_eq_true rfl, Nat.le_of_ble_eq_true rfl⟩ (fun E7 hE7 => ?_) (fun r7 hr7 => ?_)
  · replace h := zsum_l h hE7
    cases h
    exact z_xouti X Y hQ rfl [] rfl (by decide) (by decide)
  replace h := zsum_r h hr7
  refine z_aload_n X dX11_coefficient_10 0 rfl ?_
  refine z_get (v := .ref (aP 0)) X 0 0 12 0 ziX11 rfl (by decide) zw373 rfl dX11_coefficient_11 rfl rfl rfl ?_
  refine z_iload_n X dX11_coefficient_14 1 rfl ?_
  refine z_iload_n X dX11_coefficient_15 2 rfl ?_
  obtain ⟨o16, ho16, h⟩ := zbind_of h
  refine z_callVi (st := []) (ws2 := [wX11 (zcT C) aO (aP 0) (aX 0) (aL 0) (aW 0) (aV 0) (aF 0) (aK 0) (aZ 0) (aR 0) aN sO, wX5 (zcT C) aP sP]) X (metX5_rowCoefficient (zcl C) (zcD C) (zcT C) aP ho16) zmX5_rowCoefficient zw1022 dX11_coefficient_16 1 0 6 rfl rfl rfl rfl [1] rfl rfl [] rfl (by decide) trivial rfl rfl rfl (Nat.le_of_ble_eq_true rfl) rfl rfl ⟨Nat.le_of_ble_eq_true rfl, Nat.le_of_ble_eq_true rfl⟩ ⟨Nat.le_of_ble_eq_true rfl, Nat.le_of_ble_eq_true rfl⟩ ?_
  cases h
  exact z_xiret X hQ dX11_coefficient_19 rfl [] rfl (by decide) (by decide)
theorem metX11_coefficient (l : Launch) (hst : l.stackTraces = false) (D : va_G) (T : Nat → ClassId) (aO : Nat → Nat) (aP : Nat → Nat) (aX : Nat → Nat) (aL : Nat → Nat) (aW : Nat → Nat) (aV : Nat → Nat) (aF : Nat → Nat) (aK : Nat → Nat) (aZ : Nat → Nat) (aR : Nat → Nat) (aN : Nat → Nat) {sO : zSt} {sP : zSt} {x1 : Int32} {x2 : Int32} {out : (String ⊕ Int32)} (hf : fX11_coefficient sO sP x1 x2 = some out) (base sz : Nat) : vx_Met l yX11_coefficient (zws yX11_coefficient cX11_coefficient 3 (some .int)) rmX11_coefficient (zPx D T [.ref (aO 0), .int x1, .int x2] [wX11 T aO (aP 0) (aX 0) (aL 0) (aW 0) (aV 0) (aF 0) (aK 0) (aZ 0) (aR 0) aN sO, wX5 T aP sP] [] base sz) (zQxi D out [] (zA [] sz)) (zXxi D out [] (zA [] sz)) 2 12 (zA [] sz) :=
  zMetXi hst (D := D) (T := T) (av := [.ref (aO 0), .int x1, .int x2]) (ws := fun T => [wX11 T aO (aP 0) (aX 0) (aL 0) (aW 0) (aV 0) (aF 0) (aK 0) (aZ 0) (aR 0) aN sO, wX5 T aP sP]) (wm := fun T => []) (gm1 := fun T => []) (o := out) (lv0 := [(0, .ref (aO 0)), (1, .int x1), (2, .int x2)]) [] (by decide +kernel) rfl (Nat.le_of_ble_eq_true rfl) rfl (fun C base X Y hQ => bX11_coefficient_0 X Y hQ hf) base sz
/-- public char relation(int) throws java.lang.IndexOutOfBoundsException; of Tableaufloor -/
abbrev rmX11_relation : Room := { frames := 7, cells := 1, slots := 6, locals := 103 }
def fX11_relation (sO : zSt) (sP : zSt) (x1 : Int32) : Option ((String ⊕ Int32)) :=
  ((fX11_demandRow sO sP x1).bind (fun o2 =>
    (Sum.elim (fun E2 => some (.inl E2)) (fun r2 =>
    ((fX5_relationOf sP x1).bind (fun o10 =>
    (if znar .char o10 = true then
    some (.inr o10) else none)))) o2)))
theorem bX11_relation_0 {C : zCtx} (X : zFx C cX11_relation 2 RX11 rmX11_relation (some .char)) {base : Nat} (Y : zFy C base) {aO : Nat → Nat} {aP : Nat → Nat} {aX : Nat → Nat} {aL : Nat → Nat} {aW : Nat → Nat} {aV : Nat → Nat} {aF : Nat → Nat} {aK : Nat → Nat} {aZ : Nat → Nat} {aR : Nat → Nat} {aN : Nat → Nat} {sO : zSt} {sP : zSt} {x1 : Int32} {out : (String ⊕ Int32)} (hQ : zXi C out [] 1 6) (h : fX11_relation sO sP x1 = some out) : zG C 2 [] 0 0 [wX11 (zcT C) aO (aP 0) (aX 0) (aL 0) (aW 0) (aV 0) (aF 0) (aK 0) (aZ 0) (aR 0) aN sO, wX5 (zcT C) aP sP] 0 [(0, .ref (aO 0)), (1, .int x1)] [] := by
  unfold fX11_relation at h
  refine z_aload_n X dX11_relation_0 0 rfl ?_
  refine z_iload_n X dX11_relation_1 1 rfl ?_
  obtain ⟨o2, ho2, h⟩ := zbind_of h
  refine z_xcallVv (st := []) (ws2 := [wX11 (zcT C) aO (aP 0) (aX 0) (aL 0) (aW 0) (aV 0) (aF 0) (aK 0) (aZ 0) (aR 0) aN sO, wX5 (zcT C) aP sP]) X Y (metX11_demandRow (zcl C) Y.2.2.2.2.1 (zcD C) (zcT C) aO aP aX aL aW aV aF aK aZ aR aN ho2) zmX11_demandRow zw994 dX11_relation_2 0 0 12 rfl rfl rfl rfl [0, 1] rfl rfl [] rfl (by decide) trivial rfl rfl rfl (Nat.le_of_ble_eq_true rfl) rfl rfl ⟨Nat.le_of_ble_eq_true rfl, Nat.le_of_ble_eq_true rfl⟩ ⟨Nat.le_of_ble_eq_true rfl, Nat.le_of_ble_eq_true rfl⟩ (fun E2 hE2 => ?_) (fun r2 hr2 => ?_)
  · replace h := zsum_l h hE2
    cases h
    exact z_xouti X Y hQ rfl [] rfl (by decide) (by decide)
  replace h := zsum_r h hr2
  refine z_aload_n X dX11_relation_5 0 rfl ?_
  refine z_get (v := .ref (aP 0)) X 0 0 12 0 ziX11 rfl (by decide) zw373 rfl dX11_relation_6 rfl rfl rfl ?_
  refine z_iload_n X dX11_relation_9 1 rfl ?_
  obtain ⟨o10, ho10, h⟩ := zbind_of h
  refine z_callVi (st := []) (ws2 := [wX11 (zcT C) aO (aP 0) (aX 0) (aL 0) (aW 0) (aV 0) (aF 0) (aK 0) (aZ 0) (aR 0) aN sO, wX5 (zcT C) aP sP]) X (metX5_relationOf (zcl C) (zcD C) (zcT C) aP ho10) zmX5_relationOf zw1030 dX11_relation_10 1 0 6 rfl rfl rfl rfl [1] rfl rfl [] rfl (by decide) trivial rfl rfl rfl (Nat.le_of_ble_eq_true rfl) rfl rfl ⟨Nat.le_of_ble_eq_true rfl, Nat.le_of_ble_eq_true rfl⟩ ⟨Nat.le_of_ble_eq_true rfl, Nat.le_of_ble_eq_true rfl⟩ ?_
  obtain ⟨g13, h⟩ := zgd_of h
  cases h
  exact z_xnret X hQ g13 dX11_relation_13 rfl [] rfl (by decide) (by decide)
theorem metX11_relation (l : Launch) (hst : l.stackTraces = false) (D : va_G) (T : Nat → ClassId) (aO : Nat → Nat) (aP : Nat → Nat) (aX : Nat → Nat) (aL : Nat → Nat) (aW : Nat → Nat) (aV : Nat → Nat) (aF : Nat → Nat) (aK : Nat → Nat) (aZ : Nat → Nat) (aR : Nat → Nat) (aN : Nat → Nat) {sO : zSt} {sP : zSt} {x1 : Int32} {out : (String ⊕ Int32)} (hf : fX11_relation sO sP x1 = some out) (base sz : Nat) : vx_Met l yX11_relation (zws yX11_relation cX11_relation 2 (some .char)) rmX11_relation (zPx D T [.ref (aO 0), .int x1] [wX11 T aO (aP 0) (aX 0) (aL 0) (aW 0) (aV 0) (aF 0) (aK 0) (aZ 0) (aR 0) aN sO, wX5 T aP sP] [] base sz) (zQxi D out [] (zA [] sz)) (zXxi D out [] (zA [] sz)) 1 6 (zA [] sz) :=
  zMetXi hst (D := D) (T := T) (av := [.ref (aO 0), .int x1]) (ws := fun T => [wX11 T aO (aP 0) (aX 0) (aL 0) (aW 0) (aV 0) (aF 0) (aK 0) (aZ 0) (aR 0) aN sO, wX5 T aP sP]) (wm := fun T => []) (gm1 := fun T => []) (o := out) (lv0 := [(0, .ref (aO 0)), (1, .int x1)]) [] (by decide +kernel) rfl (Nat.le_of_ble_eq_true rfl) rfl (fun C base X Y hQ => bX11_relation_0 X Y hQ hf) base sz
/-- public int lineLength(int) throws java.lang.IndexOutOfBoundsException; of Tableaufloor -/
abbrev rmX11_lineLength : Room := { frames := 7, cells := 1, slots := 6, locals := 103 }
def fX11_lineLength (sO : zSt) (sP : zSt) (sL : zSt) (x1 : Int32) : Option ((String ⊕ Int32) × zSt) :=
  ((fX11_demandRow sO sP x1).bind (fun o2 =>
    (Sum.elim (fun E2 => some (.inl E2, sL)) (fun r2 =>
    ((fX3_write sL sP x1).bind (fun o14 =>
    some (.inr (zgi o14 1), o14)))) o2)))
theorem bX11_lineLength_0 {C : zCtx} (X : zFx C cX11_lineLength 2 RX11 rmX11_lineLength (some .int)) {base : Nat} (Y : zFy C base) {aO : Nat → Nat} {aP : Nat → Nat} {aX : Nat → Nat} {aL : Nat → Nat} {aW : Nat → Nat} {aV : Nat → Nat} {aF : Nat → Nat} {aK : Nat → Nat} {aZ : Nat → Nat} {aR : Nat → Nat} {aN : Nat → Nat} {sO : zSt} {sP : zSt} {sL : zSt} {x1 : Int32} {out : (String ⊕ Int32) × zSt} (hQ : zXi C out.1 [wX3 (zcT C) aL out.2] 1 6) (h : fX11_lineLength sO sP sL x1 = some out) : zG C 2 [2] 0 0 [wX11 (zcT C) aO (aP 0) (aX 0) (aL 0) (aW 0) (aV 0) (aF 0) (aK 0) (aZ 0) (aR 0) aN sO, wX5 (zcT C) aP sP, wX3 (zcT C) aL sL] 0 [(0, .ref (aO 0)), (1, .int x1)] [] := by
  unfold fX11_lineLength at h
  refine z_aload_n X dX11_lineLength_0 0 rfl ?_
  refine z_iload_n X dX11_lineLength_1 1 rfl ?_
  obtain ⟨o2, ho2, h⟩ := zbind_of h
  refine z_xcallVv (st := []) (ws2 := [wX11 (zcT C) aO (aP 0) (aX 0) (aL 0) (aW 0) (aV 0) (aF 0) (aK 0) (aZ 0) (aR 0) aN sO, wX5 (zcT C) aP sP, wX3 (zcT C) aL sL]) X Y (metX11_demandRow (zcl C) Y.2.2.2.2.1 (zcD C) (zcT C) aO aP aX aL aW aV aF aK aZ aR aN ho2) zmX11_demandRow zw994 dX11_lineLength_2 0 0 12 rfl rfl rfl rfl [0, 1] rfl rfl [] rfl (by decide) trivial rfl rfl rfl (Nat.le_of_ble_eq_true rfl) rfl rfl ⟨Nat.le_of_ble_eq_true rfl, Nat.le_of_ble_eq_true rfl⟩ ⟨Nat.le_of_ble_eq_true rfl, Nat.le_of_ble_eq_true rfl⟩ (fun E2 hE2 => ?_) (fun r2 hr2 => ?_)
  · replace h := zsum_l h hE2
    cases h
    exact z_xouti X Y hQ rfl [2] rfl (by decide) (by decide)
  replace h := zsum_r h hr2
  refine z_aload_n X dX11_lineLength_5 0 rfl ?_
  refine z_get (v := .ref (aL 0)) X 0 0 12 2 ziX11 rfl (by decide) zw375 rfl dX11_lineLength_6 rfl rfl rfl ?_
  refine z_aload_n X dX11_lineLength_9 0 rfl ?_
  refine z_get (v := .ref (aP 0)) X 0 0 12 0 ziX11 rfl (by decide) zw373 rfl dX11_lineLength_10 rfl rfl rfl ?_
  refine z_iload_n X dX11_lineLength_13 1 rfl ?_
  obtain ⟨o14, ho14, h⟩ := zbind_of h
  refine z_callVv (st := []) (ws2 := [wX11 (zcT C) aO (aP 0) (aX 0) (aL 0) (aW 0) (aV 0) (aF 0) (aK 0) (aZ 0) (aR 0) aN sO, wX5 (zcT C) aP sP, wX3 (zcT C) aL o14]) X (metX3_write (zcl C) (zcD C) (zcT C) aL aP ho14) zmX3_write zw1038 dX11_lineLength_14 2 0 4 rfl rfl rfl rfl [2, 1] rfl rfl [2] rfl (by decide) ⟨zsX3 , trivial⟩ rfl rfl rfl (Nat.le_of_ble_eq_true rfl) rfl rfl ⟨Nat.le_of_ble_eq_true rfl, Nat.le_of_ble_eq_true rfl⟩ ⟨Nat.le_of_ble_eq_true rfl, Nat.le_of_ble_eq_true rfl⟩ ?_
  refine z_aload_n X dX11_lineLength_17 0 rfl ?_
  refine z_get (v := .ref (aL 0)) X 0 0 12 2 ziX11 rfl (by decide) zw375 rfl dX11_lineLength_18 rfl rfl rfl ?_
  refine z_getN (v := .int (zgi o14 1)) X 2 0 4 1 ziX3 rfl (by decide) zw152 rfl dX11_lineLength_21 rfl rfl rfl ?_
  cases h
  exact z_xiret X hQ dX11_lineLength_24 rfl [2] rfl (by decide) (by decide)
theorem metX11_lineLength (l : Launch) (hst : l.stackTraces = false) (D : va_G) (T : Nat → ClassId) (aO : Nat → Nat) (aP : Nat → Nat) (aX : Nat → Nat) (aL : Nat → Nat) (aW : Nat → Nat) (aV : Nat → Nat) (aF : Nat → Nat) (aK : Nat → Nat) (aZ : Nat → Nat) (aR : Nat → Nat) (aN : Nat → Nat) {sO : zSt} {sP : zSt} {sL : zSt} {x1 : Int32} {out : (String ⊕ Int32) × zSt} (hf : fX11_lineLength sO sP sL x1 = some out) (base sz : Nat) : vx_Met l yX11_lineLength (zws yX11_lineLength cX11_lineLength 2 (some .int)) rmX11_lineLength (zPx D T [.ref (aO 0), .int x1] [wX11 T aO (aP 0) (aX 0) (aL 0) (aW 0) (aV 0) (aF 0) (aK 0) (aZ 0) (aR 0) aN sO, wX5 T aP sP, wX3 T aL sL] [wX3 T aL sL] base sz) (zQxi D out.1 [wX3 T aL out.2] (zA [wX3 T aL sL] sz)) (zXxi D out.1 [wX3 T aL out.2] (zA [wX3 T aL sL] sz)) 1 6 (zA [wX3 T aL sL] sz) :=
  zMetXi hst (D := D) (T := T) (av := [.ref (aO 0), .int x1]) (ws := fun T => [wX11 T aO (aP 0) (aX 0) (aL 0) (aW 0) (aV 0) (aF 0) (aK 0) (aZ 0) (aR 0) aN sO, wX5 T aP sP, wX3 T aL sL]) (wm := fun T => [wX3 T aL sL]) (gm1 := fun T => [wX3 T aL out.2]) (o := out.1) (lv0 := [(0, .ref (aO 0)), (1, .int x1)]) [2] (by decide +kernel) rfl (Nat.le_of_ble_eq_true rfl) rfl (fun C base X Y hQ => bX11_lineLength_0 X Y hQ hf) base sz
/-- public char lineAt(int, int) throws java.lang.IndexOutOfBoundsException; of Tableaufloor -/
abbrev rmX11_lineAt : Room := { frames := 7, cells := 2, slots := 12, locals := 103 }
def fX11_lineAt_32 (sO : zSt) (sP : zSt) (sL : zSt) : Option ((String ⊕ Int32) × zSt) :=
  some (.inl "java/lang/IndexOutOfBoundsException", sL)
def fX11_lineAt (sO : zSt) (sP : zSt) (sL : zSt) (x1 : Int32) (x2 : Int32) : Option ((String ⊕ Int32) × zSt) :=
  ((fX11_demandRow sO sP x1).bind (fun o2 =>
    (Sum.elim (fun E2 => some (.inl E2, sL)) (fun r2 =>
    ((fX3_write sL sP x1).bind (fun o14 =>
    (if x2 < 0 then
    (fX11_lineAt_32 sO sP o14)
  else
    (if x2 < (zgi o14 1) then
      ((fX3_characterAt o14 x2).bind (fun o47 =>
        (if znar .char o47 = true then
        some (.inr o47, o14) else none)))
    else
      (fX11_lineAt_32 sO sP o14)))))) o2)))
theorem bX11_lineAt_32 {C : zCtx} (X : zFx C cX11_lineAt 3 RX11 rmX11_lineAt (some .char)) {base : Nat} (Y : zFy C base) {aO : Nat → Nat} {aP : Nat → Nat} {aX : Nat → Nat} {aL : Nat → Nat} {aW : Nat → Nat} {aV : Nat → Nat} {aF : Nat → Nat} {aK : Nat → Nat} {aZ : Nat → Nat} {aR : Nat → Nat} {aN : Nat → Nat} {sO : zSt} {sP : zSt} {sL : zSt} {out : (String ⊕ Int32) × zSt} (hQ : zXi C out.1 [wX3 (zcT C) aL out.2] 2 12) (h : fX11_lineAt_32 sO sP sL = some out) : zG C 3 [2] 1 6 [wX11 (zcT C) aO (aP 0) (aX 0) (aL 0) (aW 0) (aV 0) (aF 0) (aK 0) (aZ 0) (aR 0) aN sO, wX5 (zcT C) aP sP, wX3 (zcT C) aL sL] 32 [] [] := by
  unfold fX11_lineAt_32 at h
  cases h
  exact z_throwi X Y hQ rfl zt_RX11_219 zs_1064 dX11_lineAt_32 dX11_lineAt_35 dX11_lineAt_36 dX11_lineAt_38 dX11_lineAt_41 [2] rfl (by decide) (by decide) (by decide) (by decide) (by decide) (by decide)
theorem bX11_lineAt_0 {C : zCtx} (X : zFx C cX11_lineAt 3 RX11 rmX11_lineAt (some .char)) {base : Nat} (Y : zFy C base) {aO : Nat → Nat} {aP : Nat → Nat} {aX : Nat → Nat} {aL : Nat → Nat} {aW : Nat → Nat} {aV : Nat → Nat} {aF : Nat → Nat} {aK : Nat → Nat} {aZ : Nat → Nat} {aR : Nat → Nat} {aN : Nat → Nat} {sO : zSt} {sP : zSt} {sL : zSt} {x1 : Int32} {x2 : Int32} {out : (String ⊕ Int32) × zSt} (hQ : zXi C out.1 [wX3 (zcT C) aL out.2] 2 12) (h : fX11_lineAt sO sP sL x1 x2 = some out) : zG C 3 [2] 0 0 [wX11 (zcT C) aO (aP 0) (aX 0) (aL 0) (aW 0) (aV 0) (aF 0) (aK 0) (aZ 0) (aR 0) aN sO, wX5 (zcT C) aP sP, wX3 (zcT C) aL sL] 0 [(0, .ref (aO 0)), (1, .int x1), (2, .int x2)] [] := by
  unfold fX11_lineAt at h
  refine z_aload_n X dX11_lineAt_0 0 rfl ?_
  refine z_iload_n X dX11_lineAt_1 1 rfl ?_
  obtain ⟨o2, ho2, h⟩ := zbind_of h
  refine z_xcallVv (st := []) (ws2 := [wX11 (zcT C) aO (aP 0) (aX 0) (aL 0) (aW 0) (aV 0) (aF 0) (aK 0) (aZ 0) (aR 0) aN sO, wX5 (zcT C) aP sP, wX3 (zcT C) aL sL]) X Y (metX11_demandRow (zcl C) Y.2.2.2.2.1 (zcD C) (zcT C) aO aP aX aL aW aV aF aK aZ aR aN ho2) zmX11_demandRow zw994 dX11_lineAt_2 0 0 12 rfl rfl rfl rfl [0, 1] rfl rfl [] rfl (by decide) trivial rfl rfl rfl (Nat.le_of_ble_eq_true rfl) rfl rfl ⟨Nat.le_of_ble_eq_true rfl, Nat.le_of_ble_eq_true rfl⟩ ⟨Nat.le_of_ble_eq_true rfl, Nat.le_of_ble_eq_true rfl⟩ (fun E2 hE2 => ?_) (fun r2 hr2 => ?_)
  · replace h := zsum_l h hE2
    cases h
    exact z_xouti X Y hQ rfl [2] rfl (by decide) (by decide)
  replace h := zsum_r h hr2
  refine z_aload_n X dX11_lineAt_5 0 rfl ?_
  refine z_get (v := .ref (aL 0)) X 0 0 12 2 ziX11 rfl (by decide) zw375 rfl dX11_lineAt_6 rfl rfl rfl ?_
  refine z_aload_n X dX11_lineAt_9 0 rfl ?_
  refine z_get (v := .ref (aP 0)) X 0 0 12 0 ziX11 rfl (by decide) zw373 rfl dX11_lineAt_10 rfl rfl rfl ?_
  refine z_iload_n X dX11_lineAt_13 1 rfl ?_
  obtain ⟨o14, ho14, h⟩ := zbind_of h
  refine z_callVv (st := []) (ws2 := [wX11 (zcT C) aO (aP 0) (aX 0) (aL 0) (aW 0) (aV 0) (aF 0) (aK 0) (aZ 0) (aR 0) aN sO, wX5 (zcT C) aP sP, wX3 (zcT C) aL o14]) X (metX3_write (zcl C) (zcD C) (zcT C) aL aP ho14) zmX3_write zw1038 dX11_lineAt_14 2 0 4 rfl rfl rfl rfl [2, 1] rfl rfl [2] rfl (by decide) ⟨zsX3 , trivial⟩ rfl rfl rfl (Nat.le_of_ble_eq_true rfl) rfl rfl ⟨Nat.le_of_ble_eq_true rfl, Nat.le_of_ble_eq_true rfl⟩ ⟨Nat.le_of_ble_eq_true rfl, Nat.le_of_ble_eq_true rfl⟩ ?_
  refine z_iload_n X dX11_lineAt_17 2 rfl ?_
  refine z_if_lt (tgt := 32) X dX11_lineAt_18 (by decide) (fun c18 => ?_) (fun c18 => ?_)
  · replace h := zif_t h c18
    exact z_wid (c2 := 1) (s2 := 6) (by decide) (by decide) <| z_at (pc2 := 32) (lv2 := []) (st2 := []) (ws2 := [wX11 (zcT C) aO (aP 0) (aX 0) (aL 0) (aW 0) (aV 0) (aF 0) (aK 0) (aZ 0) (aR 0) aN sO, wX5 (zcT C) aP sP, wX3 (zcT C) aL o14]) rfl rfl rfl [] rfl (bX11_lineAt_32 X Y hQ  h)
  · replace h := zif_f h c18
    refine z_iload_n X dX11_lineAt_21 2 rfl ?_
    refine z_aload_n X dX11_lineAt_22 0 rfl ?_
    refine z_get (v := .ref (aL 0)) X 0 0 12 2 ziX11 rfl (by decide) zw375 rfl dX11_lineAt_23 rfl rfl rfl ?_
    refine z_getN (v := .int (zgi o14 1)) X 2 0 4 1 ziX3 rfl (by decide) zw152 rfl dX11_lineAt_26 rfl rfl rfl ?_
    refine z_icmp_lt (tgt := 42) X dX11_lineAt_29 (by decide) (fun c29 => ?_) (fun c29 => ?_)
    · replace h := zif_t h c29
      refine z_aload_n X dX11_lineAt_42 0 rfl ?_
      refine z_get (v := .ref (aL 0)) X 0 0 12 2 ziX11 rfl (by decide) zw375 rfl dX11_lineAt_43 rfl rfl rfl ?_
      refine z_iload_n X dX11_lineAt_46 2 rfl ?_
      obtain ⟨o47, ho47, h⟩ := zbind_of h
      refine z_callVi (st := []) (ws2 := [wX11 (zcT C) aO (aP 0) (aX 0) (aL 0) (aW 0) (aV 0) (aF 0) (aK 0) (aZ 0) (aR 0) aN sO, wX5 (zcT C) aP sP, wX3 (zcT C) aL o14]) X (metX3_characterAt (zcl C) (zcD C) (zcT C) aL ho47) zmX3_characterAt zw1065 dX11_lineAt_47 2 0 4 rfl rfl rfl rfl [2] rfl rfl [] rfl (by decide) trivial rfl rfl rfl (Nat.le_of_ble_eq_true rfl) rfl rfl ⟨Nat.le_of_ble_eq_true rfl, Nat.le_of_ble_eq_true rfl⟩ ⟨Nat.le_of_ble_eq_true rfl, Nat.le_of_ble_eq_true rfl⟩ ?_
      obtain ⟨g50, h⟩ := zgd_of h
      cases h
      exact z_xnret X hQ g50 dX11_lineAt_50 rfl [2] rfl (by decide) (by decide)
    · replace h := zif_f h c29
      exact z_wid (c2 := 1) (s2 := 6) (by decide) (by decide) <| z_at (pc2 := 32) (lv2 := []) (st2 := []) (ws2 := [wX11 (zcT C) aO (aP 0) (aX 0) (aL 0) (aW 0) (aV 0) (aF 0) (aK 0) (aZ 0) (aR 0) aN sO, wX5 (zcT C) aP sP, wX3 (zcT C) aL o14]) rfl rfl rfl [] rfl (bX11_lineAt_32 X Y hQ  h)
theorem metX11_lineAt (l : Launch) (hst : l.stackTraces = false) (D : va_G) (T : Nat → ClassId) (aO : Nat → Nat) (aP : Nat → Nat) (aX : Nat → Nat) (aL : Nat → Nat) (aW : Nat → Nat) (aV : Nat → Nat) (aF : Nat → Nat) (aK : Nat → Nat) (aZ : Nat → Nat) (aR : Nat → Nat) (aN : Nat → Nat) {sO : zSt} {sP : zSt} {sL : zSt} {x1 : Int32} {x2 : Int32} {out : (String ⊕ Int32) × zSt} (hf : fX11_lineAt sO sP sL x1 x2 = some out) (base sz : Nat) : vx_Met l yX11_lineAt (zws yX11_lineAt cX11_lineAt 3 (some .char)) rmX11_lineAt (zPx D T [.ref (aO 0), .int x1, .int x2] [wX11 T aO (aP 0) (aX 0) (aL 0) (aW 0) (aV 0) (aF 0) (aK 0) (aZ 0) (aR 0) aN sO, wX5 T aP sP, wX3 T aL sL] [wX3 T aL sL] base sz) (zQxi D out.1 [wX3 T aL out.2] (zA [wX3 T aL sL] sz)) (zXxi D out.1 [wX3 T aL out.2] (zA [wX3 T aL sL] sz)) 2 12 (zA [wX3 T aL sL] sz) :=
  zMetXi hst (D := D) (T := T) (av := [.ref (aO 0), .int x1, .int x2]) (ws := fun T => [wX11 T aO (aP 0) (aX 0) (aL 0) (aW 0) (aV 0) (aF 0) (aK 0) (aZ 0) (aR 0) aN sO, wX5 T aP sP, wX3 T aL sL]) (wm := fun T => [wX3 T aL sL]) (gm1 := fun T => [wX3 T aL out.2]) (o := out.1) (lv0 := [(0, .ref (aO 0)), (1, .int x1), (2, .int x2)]) [2] (by decide +kernel) rfl (Nat.le_of_ble_eq_true rfl) rfl (fun C base X Y hQ => bX11_lineAt_0 X Y hQ hf) base sz
/-- public char state(); of Tableaufloor -/
abbrev rmX11_state : Room := { frames := 5, cells := 0, slots := 0, locals := 127 }
def fX11_state (sO : zSt) (sP : zSt) (sW : zSt) (sS : zSt) (sD : zSt) (sQ : zSt) : Option (Int32 × zSt × zSt × zSt × zSt) :=
  ((fX9_findAll sW sP sS sD sQ).bind (fun o4 =>
    (if znar .char (zgi o4.1 5) = true then
    some ((zgi o4.1 5), o4.1, o4.2.1, o4.2.2.1, o4.2.2.2) else none)))
theorem bX11_state_0 {C : zCtx} (X : zFx C cX11_state 1 RX11 rmX11_state (some .char)) {aO : Nat → Nat} {aP : Nat → Nat} {aX : Nat → Nat} {aL : Nat → Nat} {aW : Nat → Nat} {aV : Nat → Nat} {aF : Nat → Nat} {aK : Nat → Nat} {aZ : Nat → Nat} {aR : Nat → Nat} {aS : Nat → Nat} {aD : Nat → Nat} {aQ : Nat → Nat} {aN : Nat → Nat} {sO : zSt} {sP : zSt} {sW : zSt} {sS : zSt} {sD : zSt} {sQ : zSt} {out : Int32 × zSt × zSt × zSt × zSt} (hQ : zHi C out.1 [wX9 (zcT C) aW (aP 0) (aS 0) (aD 0) (aQ 0) out.2.1, wX7 (zcT C) aS out.2.2.1, wX1 (zcT C) aD out.2.2.2.1, wX4 (zcT C) aQ out.2.2.2.2] 0 0) (h : fX11_state sO sP sW sS sD sQ = some out) : zG C 1 [2, 3, 4, 5] 0 0 [wX11 (zcT C) aO (aP 0) (aX 0) (aL 0) (aW 0) (aV 0) (aF 0) (aK 0) (aZ 0) (aR 0) aN sO, wX5 (zcT C) aP sP, wX9 (zcT C) aW (aP 0) (aS 0) (aD 0) (aQ 0) sW, wX7 (zcT C) aS sS, wX1 (zcT C) aD sD, wX4 (zcT C) aQ sQ] 0 [(0, .ref (aO 0))] [] := by
  unfold fX11_state at h
  refine z_aload_n X dX11_state_0 0 rfl ?_
  refine z_get (v := .ref (aW 0)) X 0 0 12 3 ziX11 rfl (by decide) zw376 rfl dX11_state_1 rfl rfl rfl ?_
  obtain ⟨o4, ho4, h⟩ := zbind_of h
  refine z_callVv (st := []) (ws2 := [wX11 (zcT C) aO (aP 0) (aX 0) (aL 0) (aW 0) (aV 0) (aF 0) (aK 0) (aZ 0) (aR 0) aN sO, wX5 (zcT C) aP sP, wX9 (zcT C) aW (aP 0) (aS 0) (aD 0) (aQ 0) o4.1, wX7 (zcT C) aS o4.2.1, wX1 (zcT C) aD o4.2.2.1, wX4 (zcT C) aQ o4.2.2.2]) X (metX9_findAll (zcl C) (zcD C) (zcT C) aW aP aS aD aQ ho4) zmX9_findAll zw488 dX11_state_4 2 0 10 rfl rfl rfl rfl [2, 1, 3, 4, 5] rfl rfl [2, 3, 4, 5] rfl (by decide) ⟨zsX9 , ⟨zsX7 , ⟨zsX1 , ⟨zsX4 , trivial⟩⟩⟩⟩ rfl rfl rfl (Nat.le_of_ble_eq_true rfl) rfl rfl ⟨Nat.le_of_ble_eq_true rfl, Nat.le_of_ble_eq_true rfl⟩ ⟨Nat.le_of_ble_eq_true rfl, Nat.le_of_ble_eq_true rfl⟩ ?_
  refine z_aload_n X dX11_state_7 0 rfl ?_
  refine z_get (v := .ref (aW 0)) X 0 0 12 3 ziX11 rfl (by decide) zw376 rfl dX11_state_8 rfl rfl rfl ?_
  refine z_getN (v := .int (zgi o4.1 5)) X 2 0 10 5 ziX9 rfl (by decide) zw249 rfl dX11_state_11 rfl rfl rfl ?_
  obtain ⟨g14, h⟩ := zgd_of h
  cases h
  exact z_nret X hQ g14 dX11_state_14 rfl [2, 3, 4, 5] rfl (by decide) (by decide)
theorem metX11_state (l : Launch) (D : va_G) (T : Nat → ClassId) (aO : Nat → Nat) (aP : Nat → Nat) (aX : Nat → Nat) (aL : Nat → Nat) (aW : Nat → Nat) (aV : Nat → Nat) (aF : Nat → Nat) (aK : Nat → Nat) (aZ : Nat → Nat) (aR : Nat → Nat) (aS : Nat → Nat) (aD : Nat → Nat) (aQ : Nat → Nat) (aN : Nat → Nat) {sO : zSt} {sP : zSt} {sW : zSt} {sS : zSt} {sD : zSt} {sQ : zSt} {out : Int32 × zSt × zSt × zSt × zSt} (hf : fX11_state sO sP sW sS sD sQ = some out) (sz : Nat) : Met l yX11_state (zws yX11_state cX11_state 1 (some .char)) rmX11_state (zPc D T [.ref (aO 0)] [wX11 T aO (aP 0) (aX 0) (aL 0) (aW 0) (aV 0) (aF 0) (aK 0) (aZ 0) (aR 0) aN sO, wX5 T aP sP, wX9 T aW (aP 0) (aS 0) (aD 0) (aQ 0) sW, wX7 T aS sS, wX1 T aD sD, wX4 T aQ sQ] sz) (zQi D out.1 [wX9 T aW (aP 0) (aS 0) (aD 0) (aQ 0) out.2.1, wX7 T aS out.2.2.1, wX1 T aD out.2.2.2.1, wX4 T aQ out.2.2.2.2] (zA [wX9 T aW (aP 0) (aS 0) (aD 0) (aQ 0) sW, wX7 T aS sS, wX1 T aD sD, wX4 T aQ sQ] sz)) 0 0 (zA [wX9 T aW (aP 0) (aS 0) (aD 0) (aQ 0) sW, wX7 T aS sS, wX1 T aD sD, wX4 T aQ sQ] sz) :=
  zMet (D := D) (T := T) (av := [.ref (aO 0)]) (ws := fun T => [wX11 T aO (aP 0) (aX 0) (aL 0) (aW 0) (aV 0) (aF 0) (aK 0) (aZ 0) (aR 0) aN sO, wX5 T aP sP, wX9 T aW (aP 0) (aS 0) (aD 0) (aQ 0) sW, wX7 T aS sS, wX1 T aD sD, wX4 T aQ sQ]) (wm := fun T => [wX9 T aW (aP 0) (aS 0) (aD 0) (aQ 0) sW, wX7 T aS sS, wX1 T aD sD, wX4 T aQ sQ]) (lv0 := [(0, .ref (aO 0))]) [2, 3, 4, 5] (Qc := fun D T A => zQi D out.1 [wX9 T aW (aP 0) (aS 0) (aD 0) (aQ 0) out.2.1, wX7 T aS out.2.2.1, wX1 T aD out.2.2.2.1, wX4 T aQ out.2.2.2.2] A) (by decide +kernel) rfl (Nat.le_of_ble_eq_true rfl) rfl (fun C X hQ => bX11_state_0 X hQ hf) sz
/-- public int open() throws java.util.NoSuchElementException; of Tableaufloor -/
abbrev rmX11_open : Room := { frames := 6, cells := 1, slots := 6, locals := 127 }
def fX11_open (sO : zSt) (sP : zSt) (sW : zSt) (sS : zSt) (sD : zSt) (sQ : zSt) : Option ((String ⊕ Int32) × zSt × zSt × zSt × zSt) :=
  ((fX9_findAll sW sP sS sD sQ).bind (fun o4 =>
    (if (zgi o4.1 5) = (117 : Int32) then
    some (.inr (zgi o4.1 6), o4.1, o4.2.1, o4.2.2.1, o4.2.2.2)
  else
    some (.inl "java/util/NoSuchElementException", o4.1, o4.2.1, o4.2.2.1, o4.2.2.2))))
theorem bX11_open_0 {C : zCtx} (X : zFx C cX11_open 1 RX11 rmX11_open (some .int)) {base : Nat} (Y : zFy C base) {aO : Nat → Nat} {aP : Nat → Nat} {aX : Nat → Nat} {aL : Nat → Nat} {aW : Nat → Nat} {aV : Nat → Nat} {aF : Nat → Nat} {aK : Nat → Nat} {aZ : Nat → Nat} {aR : Nat → Nat} {aS : Nat → Nat} {aD : Nat → Nat} {aQ : Nat → Nat} {aN : Nat → Nat} {sO : zSt} {sP : zSt} {sW : zSt} {sS : zSt} {sD : zSt} {sQ : zSt} {out : (String ⊕ Int32) × zSt × zSt × zSt × zSt} (hQ : zXi C out.1 [wX9 (zcT C) aW (aP 0) (aS 0) (aD 0) (aQ 0) out.2.1, wX7 (zcT C) aS out.2.2.1, wX1 (zcT C) aD out.2.2.2.1, wX4 (zcT C) aQ out.2.2.2.2] 1 6) (h : fX11_open sO sP sW sS sD sQ = some out) : zG C 1 [2, 3, 4, 5] 0 0 [wX11 (zcT C) aO (aP 0) (aX 0) (aL 0) (aW 0) (aV 0) (aF 0) (aK 0) (aZ 0) (aR 0) aN sO, wX5 (zcT C) aP sP, wX9 (zcT C) aW (aP 0) (aS 0) (aD 0) (aQ 0) sW, wX7 (zcT C) aS sS, wX1 (zcT C) aD sD, wX4 (zcT C) aQ sQ] 0 [(0, .ref (aO 0))] [] := by
  unfold fX11_open at h
  refine z_aload_n X dX11_open_0 0 rfl ?_
  refine z_get (v := .ref (aW 0)) X 0 0 12 3 ziX11 rfl (by decide) zw376 rfl dX11_open_1 rfl rfl rfl ?_
  obtain ⟨o4, ho4, h⟩ := zbind_of h
  refine z_callVv (st := []) (ws2 := [wX11 (zcT C) aO (aP 0) (aX 0) (aL 0) (aW 0) (aV 0) (aF 0) (aK 0) (aZ 0) (aR 0) aN sO, wX5 (zcT C) aP sP, wX9 (zcT C) aW (aP 0) (aS 0) (aD 0) (aQ 0) o4.1, wX7 (zcT C) aS o4.2.1, wX1 (zcT C) aD o4.2.2.1, wX4 (zcT C) aQ o4.2.2.2]) X (metX9_findAll (zcl C) (zcD C) (zcT C) aW aP aS aD aQ ho4) zmX9_findAll zw488 dX11_open_4 2 0 10 rfl rfl rfl rfl [2, 1, 3, 4, 5] rfl rfl [2, 3, 4, 5] rfl (by decide) ⟨zsX9 , ⟨zsX7 , ⟨zsX1 , ⟨zsX4 , trivial⟩⟩⟩⟩ rfl rfl rfl (Nat.le_of_ble_eq_true rfl) rfl rfl ⟨Nat.le_of_ble_eq_true rfl, Nat.le_of_ble_eq_true rfl⟩ ⟨Nat.le_of_ble_eq_true rfl, Nat.le_of_ble_eq_true rfl⟩ ?_
  refine z_aload_n X dX11_open_7 0 rfl ?_
  refine z_get (v := .ref (aW 0)) X 0 0 12 3 ziX11 rfl (by decide) zw376 rfl dX11_open_8 rfl rfl rfl ?_
  refine z_getN (v := .int (zgi o4.1 5)) X 2 0 10 5 ziX9 rfl (by decide) zw249 rfl dX11_open_11 rfl rfl rfl ?_
  refine z_bipush (v := (117 : Int32)) X dX11_open_14 rfl ?_
  refine z_icmp_eq (tgt := 29) X dX11_open_16 (by decide) (fun c16 => ?_) (fun c16 => ?_)
  · replace h := zif_t h c16
    refine z_aload_n X dX11_open_29 0 rfl ?_
    refine z_get (v := .ref (aW 0)) X 0 0 12 3 ziX11 rfl (by decide) zw376 rfl dX11_open_30 rfl rfl rfl ?_
    refine z_getN (v := .int (zgi o4.1 6)) X 2 0 10 6 ziX9 rfl (by decide) zw252 rfl dX11_open_33 rfl rfl rfl ?_
    cases h
    exact z_xiret X hQ dX11_open_36 rfl [2, 3, 4, 5] rfl (by decide) (by decide)
  · replace h := zif_f h c16
    cases h
    exact z_throwNi X Y hQ rfl zt_RX11_155 zs_1076 dX11_open_19 dX11_open_22 dX11_open_23 dX11_open_25 dX11_open_28 [2, 3, 4, 5] rfl (by decide) (by decide) (by decide) (by decide) (by decide) (by decide)
theorem metX11_open (l : Launch) (hst : l.stackTraces = false) (D : va_G) (T : Nat → ClassId) (aO : Nat → Nat) (aP : Nat → Nat) (aX : Nat → Nat) (aL : Nat → Nat) (aW : Nat → Nat) (aV : Nat → Nat) (aF : Nat → Nat) (aK : Nat → Nat) (aZ : Nat → Nat) (aR : Nat → Nat) (aS : Nat → Nat) (aD : Nat → Nat) (aQ : Nat → Nat) (aN : Nat → Nat) {sO : zSt} {sP : zSt} {sW : zSt} {sS : zSt} {sD : zSt} {sQ : zSt} {out : (String ⊕ Int32) × zSt × zSt × zSt × zSt} (hf : fX11_open sO sP sW sS sD sQ = some out) (base sz : Nat) : vx_Met l yX11_open (zws yX11_open cX11_open 1 (some .int)) rmX11_open (zPx D T [.ref (aO 0)] [wX11 T aO (aP 0) (aX 0) (aL 0) (aW 0) (aV 0) (aF 0) (aK 0) (aZ 0) (aR 0) aN sO, wX5 T aP sP, wX9 T aW (aP 0) (aS 0) (aD 0) (aQ 0) sW, wX7 T aS sS, wX1 T aD sD, wX4 T aQ sQ] [wX9 T aW (aP 0) (aS 0) (aD 0) (aQ 0) sW, wX7 T aS sS, wX1 T aD sD, wX4 T aQ sQ] base sz) (zQxi D out.1 [wX9 T aW (aP 0) (aS 0) (aD 0) (aQ 0) out.2.1, wX7 T aS out.2.2.1, wX1 T aD out.2.2.2.1, wX4 T aQ out.2.2.2.2] (zA [wX9 T aW (aP 0) (aS 0) (aD 0) (aQ 0) sW, wX7 T aS sS, wX1 T aD sD, wX4 T aQ sQ] sz)) (zXxi D out.1 [wX9 T aW (aP 0) (aS 0) (aD 0) (aQ 0) out.2.1, wX7 T aS out.2.2.1, wX1 T aD out.2.2.2.1, wX4 T aQ out.2.2.2.2] (zA [wX9 T aW (aP 0) (aS 0) (aD 0) (aQ 0) sW, wX7 T aS sS, wX1 T aD sD, wX4 T aQ sQ] sz)) 1 6 (zA [wX9 T aW (aP 0) (aS 0) (aD 0) (aQ 0) sW, wX7 T aS sS, wX1 T aD sD, wX4 T aQ sQ] sz) :=
  zMetXi hst (D := D) (T := T) (av := [.ref (aO 0)]) (ws := fun T => [wX11 T aO (aP 0) (aX 0) (aL 0) (aW 0) (aV 0) (aF 0) (aK 0) (aZ 0) (aR 0) aN sO, wX5 T aP sP, wX9 T aW (aP 0) (aS 0) (aD 0) (aQ 0) sW, wX7 T aS sS, wX1 T aD sD, wX4 T aQ sQ]) (wm := fun T => [wX9 T aW (aP 0) (aS 0) (aD 0) (aQ 0) sW, wX7 T aS sS, wX1 T aD sD, wX4 T aQ sQ]) (gm1 := fun T => [wX9 T aW (aP 0) (aS 0) (aD 0) (aQ 0) out.2.1, wX7 T aS out.2.2.1, wX1 T aD out.2.2.2.1, wX4 T aQ out.2.2.2.2]) (o := out.1) (lv0 := [(0, .ref (aO 0))]) [2, 3, 4, 5] (by decide +kernel) rfl (Nat.le_of_ble_eq_true rfl) rfl (fun C base X Y hQ => bX11_open_0 X Y hQ hf) base sz
/-- private void demandAim(int); of Tableaufloor -/
abbrev rmX11_demandAim : Room := { frames := 6, cells := 1, slots := 6, locals := 82 }
def fX11_demandAim_15 (sO : zSt) (sP : zSt) : Option ((String ⊕ Unit)) :=
  some (.inl "java/lang/IndexOutOfBoundsException")
def fX11_demandAim (sO : zSt) (sP : zSt) (x1 : Int32) : Option ((String ⊕ Unit)) :=
  (if x1 < 0 then
    (fX11_demandAim_15 sO sP)
  else
    (if x1 < (zgi sP 11) then
      some (.inr ())
    else
      (fX11_demandAim_15 sO sP)))
theorem bX11_demandAim_15 {C : zCtx} (X : zFx C cX11_demandAim 2 RX11 rmX11_demandAim none) {base : Nat} (Y : zFy C base) {aO : Nat → Nat} {aP : Nat → Nat} {aX : Nat → Nat} {aL : Nat → Nat} {aW : Nat → Nat} {aV : Nat → Nat} {aF : Nat → Nat} {aK : Nat → Nat} {aZ : Nat → Nat} {aR : Nat → Nat} {aN : Nat → Nat} {sO : zSt} {sP : zSt} {out : (String ⊕ Unit)} (hQ : zXv C out [] 1 6) (h : fX11_demandAim_15 sO sP = some out) : zG C 2 [] 0 0 [wX11 (zcT C) aO (aP 0) (aX 0) (aL 0) (aW 0) (aV 0) (aF 0) (aK 0) (aZ 0) (aR 0) aN sO, wX5 (zcT C) aP sP] 15 [] [] := by
  unfold fX11_demandAim_15 at h
  cases h
  exact z_throwWv X Y hQ rfl zt_RX11_219 zs_1092 dX11_demandAim_15 dX11_demandAim_18 dX11_demandAim_19 dX11_demandAim_22 dX11_demandAim_25 [] rfl (by decide) (by decide) (by decide) (by decide) (by decide) (by decide)
theorem bX11_demandAim_0 {C : zCtx} (X : zFx C cX11_demandAim 2 RX11 rmX11_demandAim none) {base : Nat} (Y : zFy C base) {aO : Nat → Nat} {aP : Nat → Nat} {aX : Nat → Nat} {aL : Nat → Nat} {aW : Nat → Nat} {aV : Nat → Nat} {aF : Nat → Nat} {aK : Nat → Nat} {aZ : Nat → Nat} {aR : Nat → Nat} {aN : Nat → Nat} {sO : zSt} {sP : zSt} {x1 : Int32} {out : (String ⊕ Unit)} (hQ : zXv C out [] 1 6) (h : fX11_demandAim sO sP x1 = some out) : zG C 2 [] 0 0 [wX11 (zcT C) aO (aP 0) (aX 0) (aL 0) (aW 0) (aV 0) (aF 0) (aK 0) (aZ 0) (aR 0) aN sO, wX5 (zcT C) aP sP] 0 [(0, .ref (aO 0)), (1, .int x1)] [] := by
  unfold fX11_demandAim at h
  refine z_iload_n X dX11_demandAim_0 1 rfl ?_
  refine z_if_lt (tgt := 15) X dX11_demandAim_1 (by decide) (fun c1 => ?_) (fun c1 => ?_)
  · replace h := zif_t h c1
    exact z_wid (c2 := 0) (s2 := 0) (by decide) (by decide) <| z_at (pc2 := 15) (lv2 := []) (st2 := []) (ws2 := [wX11 (zcT C) aO (aP 0) (aX 0) (aL 0) (aW 0) (aV 0) (aF 0) (aK 0) (aZ 0) (aR 0) aN sO, wX5 (zcT C) aP sP]) rfl rfl rfl [] rfl (bX11_demandAim_15 X Y hQ  h)
  · replace h := zif_f h c1
    refine z_iload_n X dX11_demandAim_4 1 rfl ?_
    refine z_aload_n X dX11_demandAim_5 0 rfl ?_
    refine z_get (v := .ref (aP 0)) X 0 0 12 0 ziX11 rfl (by decide) zw373 rfl dX11_demandAim_6 rfl rfl rfl ?_
    refine z_getN (v := .int (zgi sP 11)) X 1 0 6 11 ziX5 rfl (by decide) zw72 rfl dX11_demandAim_9 rfl rfl rfl ?_
    refine z_icmp_lt (tgt := 26) X dX11_demandAim_12 (by decide) (fun c12 => ?_) (fun c12 => ?_)
    · replace h := zif_t h c12
      cases h
      exact z_xvret X hQ dX11_demandAim_26 rfl [] rfl (by decide) (by decide)
    · replace h := zif_f h c12
      exact z_wid (c2 := 0) (s2 := 0) (by decide) (by decide) <| z_at (pc2 := 15) (lv2 := []) (st2 := []) (ws2 := [wX11 (zcT C) aO (aP 0) (aX 0) (aL 0) (aW 0) (aV 0) (aF 0) (aK 0) (aZ 0) (aR 0) aN sO, wX5 (zcT C) aP sP]) rfl rfl rfl [] rfl (bX11_demandAim_15 X Y hQ  h)
theorem metX11_demandAim (l : Launch) (hst : l.stackTraces = false) (D : va_G) (T : Nat → ClassId) (aO : Nat → Nat) (aP : Nat → Nat) (aX : Nat → Nat) (aL : Nat → Nat) (aW : Nat → Nat) (aV : Nat → Nat) (aF : Nat → Nat) (aK : Nat → Nat) (aZ : Nat → Nat) (aR : Nat → Nat) (aN : Nat → Nat) {sO : zSt} {sP : zSt} {x1 : Int32} {out : (String ⊕ Unit)} (hf : fX11_demandAim sO sP x1 = some out) (base sz : Nat) : vx_Met l yX11_demandAim (zws yX11_demandAim cX11_demandAim 2 none) rmX11_demandAim (zPx D T [.ref (aO 0), .int x1] [wX11 T aO (aP 0) (aX 0) (aL 0) (aW 0) (aV 0) (aF 0) (aK 0) (aZ 0) (aR 0) aN sO, wX5 T aP sP] [] base sz) (zQxv D out [] (zA [] sz)) (zXxv D out [] (zA [] sz)) 1 6 (zA [] sz) :=
  zMetXv hst (D := D) (T := T) (av := [.ref (aO 0), .int x1]) (ws := fun T => [wX11 T aO (aP 0) (aX 0) (aL 0) (aW 0) (aV 0) (aF 0) (aK 0) (aZ 0) (aR 0) aN sO, wX5 T aP sP]) (wm := fun T => []) (gm1 := fun T => []) (o := out) (lv0 := [(0, .ref (aO 0)), (1, .int x1)]) [] (by decide +kernel) rfl (Nat.le_of_ble_eq_true rfl) rfl (fun C base X Y hQ => bX11_demandAim_0 X Y hQ hf) base sz
/-- private void findValue(int); of Tableaufloor -/
abbrev rmX11_findValue : Room := { frames := 7, cells := 2, slots := 12, locals := 127 }
def fX11_findValue (sO : zSt) (sP : zSt) (sW : zSt) (sS : zSt) (sD : zSt) (sQ : zSt) (sR : zSt) (x1 : Int32) : Option ((String ⊕ Unit) × zSt × zSt × zSt × zSt × zSt) :=
  ((fX11_demandAim sO sP x1).bind (fun o2 =>
    (Sum.elim (fun E2 => some (.inl E2, sW, sS, sD, sQ, sR)) (fun r2 =>
    ((fX9_findAll sW sP sS sD sQ).bind (fun o9 =>
    ((fX9_hasValue o9.1 x1).bind (fun o17 =>
    (if o17 = 0 then
    some (.inl "java/util/NoSuchElementException", o9.1, o9.2.1, o9.2.2.1, o9.2.2.2, sR)
  else
    ((fX5_aimSum sP o9.2.2.2 x1).bind (fun o50 =>
      ((fX2_put sR o50 (zgl o9.2.2.2 1)).bind (fun o63 =>
      some (.inr (), o9.1, o9.2.1, o9.2.2.1, o9.2.2.2, o63))))))))))) o2)))
theorem bX11_findValue_0 {C : zCtx} (X : zFx C cX11_findValue 2 RX11 rmX11_findValue none) {base : Nat} (Y : zFy C base) {aO : Nat → Nat} {aP : Nat → Nat} {aX : Nat → Nat} {aL : Nat → Nat} {aW : Nat → Nat} {aV : Nat → Nat} {aF : Nat → Nat} {aK : Nat → Nat} {aZ : Nat → Nat} {aR : Nat → Nat} {aS : Nat → Nat} {aD : Nat → Nat} {aQ : Nat → Nat} {aN : Nat → Nat} {sO : zSt} {sP : zSt} {sW : zSt} {sS : zSt} {sD : zSt} {sQ : zSt} {sR : zSt} {x1 : Int32} {out : (String ⊕ Unit) × zSt × zSt × zSt × zSt × zSt} (hQ : zXv C out.1 [wX9 (zcT C) aW (aP 0) (aS 0) (aD 0) (aQ 0) out.2.1, wX7 (zcT C) aS out.2.2.1, wX1 (zcT C) aD out.2.2.2.1, wX4 (zcT C) aQ out.2.2.2.2.1, wX2 (zcT C) aR out.2.2.2.2.2] 2 12) (h : fX11_findValue sO sP sW sS sD sQ sR x1 = some out) : zG C 2 [2, 3, 4, 5, 6] 0 0 [wX11 (zcT C) aO (aP 0) (aX 0) (aL 0) (aW 0) (aV 0) (aF 0) (aK 0) (aZ 0) (aR 0) aN sO, wX5 (zcT C) aP sP, wX9 (zcT C) aW (aP 0) (aS 0) (aD 0) (aQ 0) sW, wX7 (zcT C) aS sS, wX1 (zcT C) aD sD, wX4 (zcT C) aQ sQ, wX2 (zcT C) aR sR] 0 [(0, .ref (aO 0)), (1, .int x1)] [] := by
  unfold fX11_findValue at h
  refine z_aload_n X dX11_findValue_0 0 rfl ?_
  refine z_iload_n X dX11_findValue_1 1 rfl ?_
  obtain ⟨o2, ho2, h⟩ := zbind_of h
  refine z_xcallVv (st := []) (ws2 := [wX11 (zcT C) aO (aP 0) (aX 0) (aL 0) (aW 0) (aV 0) (aF 0) (aK 0) (aZ 0) (aR 0) aN sO, wX5 (zcT C) aP sP, wX9 (zcT C) aW (aP 0) (aS 0) (aD 0) (aQ 0) sW, wX7 (zcT C) aS sS, wX1 (zcT C) aD sD, wX4 (zcT C) aQ sQ, wX2 (zcT C) aR sR]) X Y (metX11_demandAim (zcl C) Y.2.2.2.2.1 (zcD C) (zcT C) aO aP aX aL aW aV aF aK aZ aR aN ho2) zmX11_demandAim zw1088 dX11_findValue_2 0 0 12 rfl rfl rfl rfl [0, 1] rfl rfl [] rfl (by decide) trivial rfl rfl rfl (Nat.le_of_ble_eq_true rfl) rfl rfl ⟨Nat.le_of_ble_eq_true rfl, Nat.le_of_ble_eq_true rfl⟩ ⟨Nat.le_of_ble_eq_true rfl, Nat.le_of_ble_eq_true rfl⟩ (fun E2 hE2 => ?_) (fun r2 hr2 => ?_)
  · replace h := zsum_l h hE2
    cases h
    exact z_xoutv X Y hQ rfl [2, 3, 4, 5, 6] rfl (by decide) (by decide)
  replace h := zsum_r h hr2
  refine z_aload_n X dX11_findValue_5 0 rfl ?_
  refine z_get (v := .ref (aW 0)) X 0 0 12 3 ziX11 rfl (by decide) zw376 rfl dX11_findValue_6 rfl rfl rfl ?_
  obtain ⟨o9, ho9, h⟩ := zbind_of h
  refine z_callVv (st := []) (ws2 := [wX11 (zcT C) aO (aP 0) (aX 0) (aL 0) (aW 0) (aV 0) (aF 0) (aK 0) (aZ 0) (aR 0) aN sO, wX5 (zcT C) aP sP, wX9 (zcT C) aW (aP 0) (aS 0) (aD 0) (aQ 0) o9.1, wX7 (zcT C) aS o9.2.1, wX1 (zcT C) aD o9.2.2.1, wX4 (zcT C) aQ o9.2.2.2, wX2 (zcT C) aR sR]) X (metX9_findAll (zcl C) (zcD C) (zcT C) aW aP aS aD aQ ho9) zmX9_findAll zw488 dX11_findValue_9 2 0 10 rfl rfl rfl rfl [2, 1, 3, 4, 5] rfl rfl [2, 3, 4, 5] rfl (by decide) ⟨zsX9 , ⟨zsX7 , ⟨zsX1 , ⟨zsX4 , trivial⟩⟩⟩⟩ rfl rfl rfl (Nat.le_of_ble_eq_true rfl) rfl rfl ⟨Nat.le_of_ble_eq_true rfl, Nat.le_of_ble_eq_true rfl⟩ ⟨Nat.le_of_ble_eq_true rfl, Nat.le_of_ble_eq_true rfl⟩ ?_
  refine z_aload_n X dX11_findValue_12 0 rfl ?_
  refine z_get (v := .ref (aW 0)) X 0 0 12 3 ziX11 rfl (by decide) zw376 rfl dX11_findValue_13 rfl rfl rfl ?_
  refine z_iload_n X dX11_findValue_16 1 rfl ?_
  obtain ⟨o17, ho17, h⟩ := zbind_of h
  refine z_callVi (st := []) (ws2 := [wX11 (zcT C) aO (aP 0) (aX 0) (aL 0) (aW 0) (aV 0) (aF 0) (aK 0) (aZ 0) (aR 0) aN sO, wX5 (zcT C) aP sP, wX9 (zcT C) aW (aP 0) (aS 0) (aD 0) (aQ 0) o9.1, wX7 (zcT C) aS o9.2.1, wX1 (zcT C) aD o9.2.2.1, wX4 (zcT C) aQ o9.2.2.2, wX2 (zcT C) aR sR]) X (metX9_hasValue (zcl C) (zcD C) (zcT C) aW aP aS aD aQ ho17) zmX9_hasValue zw1093 dX11_findValue_17 2 0 10 rfl rfl rfl rfl [2] rfl rfl [] rfl (by decide) trivial rfl rfl rfl (Nat.le_of_ble_eq_true rfl) rfl rfl ⟨Nat.le_of_ble_eq_true rfl, Nat.le_of_ble_eq_true rfl⟩ ⟨Nat.le_of_ble_eq_true rfl, Nat.le_of_ble_eq_true rfl⟩ ?_
  refine z_if_ne (tgt := 34) X dX11_findValue_20 (by decide) (fun c20 => ?_) (fun c20 => ?_)
  · replace h := zif_f h c20
    refine z_aload_n X dX11_findValue_34 0 rfl ?_
    refine z_get (v := .ref (aR 0)) X 0 0 12 8 ziX11 rfl (by decide) zw381 rfl dX11_findValue_35 rfl rfl rfl ?_
    refine z_aload_n X dX11_findValue_38 0 rfl ?_
    refine z_get (v := .ref (aP 0)) X 0 0 12 0 ziX11 rfl (by decide) zw373 rfl dX11_findValue_39 rfl rfl rfl ?_
    refine z_iload_n X dX11_findValue_42 1 rfl ?_
    refine z_aload_n X dX11_findValue_43 0 rfl ?_
    refine z_get (v := .ref (aW 0)) X 0 0 12 3 ziX11 rfl (by decide) zw376 rfl dX11_findValue_44 rfl rfl rfl ?_
    refine z_getN (v := .ref (aQ 0)) X 2 0 10 3 ziX9 rfl (by decide) zw245 rfl dX11_findValue_47 rfl rfl rfl ?_
    obtain ⟨o50, ho50, h⟩ := zbind_of h
    refine z_callVl (st := [.ref (aR 0)]) (ws2 := [wX11 (zcT C) aO (aP 0) (aX 0) (aL 0) (aW 0) (aV 0) (aF 0) (aK 0) (aZ 0) (aR 0) aN sO, wX5 (zcT C) aP sP, wX9 (zcT C) aW (aP 0) (aS 0) (aD 0) (aQ 0) o9.1, wX7 (zcT C) aS o9.2.1, wX1 (zcT C) aD o9.2.2.1, wX4 (zcT C) aQ o9.2.2.2, wX2 (zcT C) aR sR]) X (metX5_aimSum (zcl C) (zcD C) (zcT C) aP aQ ho50) zmX5_aimSum zw1098 dX11_findValue_50 1 0 6 rfl rfl rfl rfl [1, 5] rfl rfl [] rfl (by decide) trivial rfl rfl rfl (Nat.le_of_ble_eq_true rfl) rfl rfl ⟨Nat.le_of_ble_eq_true rfl, Nat.le_of_ble_eq_true rfl⟩ ⟨Nat.le_of_ble_eq_true rfl, Nat.le_of_ble_eq_true rfl⟩ ?_
    refine z_aload_n X dX11_findValue_53 0 rfl ?_
    refine z_get (v := .ref (aW 0)) X 0 0 12 3 ziX11 rfl (by decide) zw376 rfl dX11_findValue_54 rfl rfl rfl ?_
    refine z_getN (v := .ref (aQ 0)) X 2 0 10 3 ziX9 rfl (by decide) zw245 rfl dX11_findValue_57 rfl rfl rfl ?_
    refine z_getN (v := .long (zgl o9.2.2.2 1)) X 5 0 5 1 ziX4 rfl (by decide) zw223 rfl dX11_findValue_60 rfl rfl rfl ?_
    obtain ⟨o63, ho63, h⟩ := zbind_of h
    refine z_callVv (st := []) (ws2 := [wX11 (zcT C) aO (aP 0) (aX 0) (aL 0) (aW 0) (aV 0) (aF 0) (aK 0) (aZ 0) (aR 0) aN sO, wX5 (zcT C) aP sP, wX9 (zcT C) aW (aP 0) (aS 0) (aD 0) (aQ 0) o9.1, wX7 (zcT C) aS o9.2.1, wX1 (zcT C) aD o9.2.2.1, wX4 (zcT C) aQ o9.2.2.2, wX2 (zcT C) aR o63]) X (metX2_put (zcl C) (zcD C) (zcT C) aR ho63) zmX2_put zw1099 dX11_findValue_63 6 0 3 rfl rfl rfl rfl [6] rfl rfl [6] rfl (by decide) ⟨zsX2 , trivial⟩ rfl rfl rfl (Nat.le_of_ble_eq_true rfl) rfl rfl ⟨Nat.le_of_ble_eq_true rfl, Nat.le_of_ble_eq_true rfl⟩ ⟨Nat.le_of_ble_eq_true rfl, Nat.le_of_ble_eq_true rfl⟩ ?_
    cases h
    exact z_xvret X hQ dX11_findValue_66 rfl [2, 3, 4, 5, 6] rfl (by decide) (by decide)
  · replace h := zif_t h c20
    cases h
    exact z_throwNWv X Y hQ rfl zt_RX11_155 zs_1097 dX11_findValue_23 dX11_findValue_26 dX11_findValue_27 dX11_findValue_30 dX11_findValue_33 [2, 3, 4, 5, 6] rfl (by decide) (by decide) (by decide) (by decide) (by decide) (by decide)
theorem metX11_findValue (l : Launch) (hst : l.stackTraces = false) (D : va_G) (T : Nat → ClassId) (aO : Nat → Nat) (aP : Nat → Nat) (aX : Nat → Nat) (aL : Nat → Nat) (aW : Nat → Nat) (aV : Nat → Nat) (aF : Nat → Nat) (aK : Nat → Nat) (aZ : Nat → Nat) (aR : Nat → Nat) (aS : Nat → Nat) (aD : Nat → Nat) (aQ : Nat → Nat) (aN : Nat → Nat) {sO : zSt} {sP : zSt} {sW : zSt} {sS : zSt} {sD : zSt} {sQ : zSt} {sR : zSt} {x1 : Int32} {out : (String ⊕ Unit) × zSt × zSt × zSt × zSt × zSt} (hf : fX11_findValue sO sP sW sS sD sQ sR x1 = some out) (base sz : Nat) : vx_Met l yX11_findValue (zws yX11_findValue cX11_findValue 2 none) rmX11_findValue (zPx D T [.ref (aO 0), .int x1] [wX11 T aO (aP 0) (aX 0) (aL 0) (aW 0) (aV 0) (aF 0) (aK 0) (aZ 0) (aR 0) aN sO, wX5 T aP sP, wX9 T aW (aP 0) (aS 0) (aD 0) (aQ 0) sW, wX7 T aS sS, wX1 T aD sD, wX4 T aQ sQ, wX2 T aR sR] [wX9 T aW (aP 0) (aS 0) (aD 0) (aQ 0) sW, wX7 T aS sS, wX1 T aD sD, wX4 T aQ sQ, wX2 T aR sR] base sz) (zQxv D out.1 [wX9 T aW (aP 0) (aS 0) (aD 0) (aQ 0) out.2.1, wX7 T aS out.2.2.1, wX1 T aD out.2.2.2.1, wX4 T aQ out.2.2.2.2.1, wX2 T aR out.2.2.2.2.2] (zA [wX9 T aW (aP 0) (aS 0) (aD 0) (aQ 0) sW, wX7 T aS sS, wX1 T aD sD, wX4 T aQ sQ, wX2 T aR sR] sz)) (zXxv D out.1 [wX9 T aW (aP 0) (aS 0) (aD 0) (aQ 0) out.2.1, wX7 T aS out.2.2.1, wX1 T aD out.2.2.2.1, wX4 T aQ out.2.2.2.2.1, wX2 T aR out.2.2.2.2.2] (zA [wX9 T aW (aP 0) (aS 0) (aD 0) (aQ 0) sW, wX7 T aS sS, wX1 T aD sD, wX4 T aQ sQ, wX2 T aR sR] sz)) 2 12 (zA [wX9 T aW (aP 0) (aS 0) (aD 0) (aQ 0) sW, wX7 T aS sS, wX1 T aD sD, wX4 T aQ sQ, wX2 T aR sR] sz) :=
  zMetXv hst (D := D) (T := T) (av := [.ref (aO 0), .int x1]) (ws := fun T => [wX11 T aO (aP 0) (aX 0) (aL 0) (aW 0) (aV 0) (aF 0) (aK 0) (aZ 0) (aR 0) aN sO, wX5 T aP sP, wX9 T aW (aP 0) (aS 0) (aD 0) (aQ 0) sW, wX7 T aS sS, wX1 T aD sD, wX4 T aQ sQ, wX2 T aR sR]) (wm := fun T => [wX9 T aW (aP 0) (aS 0) (aD 0) (aQ 0) sW, wX7 T aS sS, wX1 T aD sD, wX4 T aQ sQ, wX2 T aR sR]) (gm1 := fun T => [wX9 T aW (aP 0) (aS 0) (aD 0) (aQ 0) out.2.1, wX7 T aS out.2.2.1, wX1 T aD out.2.2.2.1, wX4 T aQ out.2.2.2.2.1, wX2 T aR out.2.2.2.2.2]) (o := out.1) (lv0 := [(0, .ref (aO 0)), (1, .int x1)]) [2, 3, 4, 5, 6] (by decide +kernel) rfl (Nat.le_of_ble_eq_true rfl) rfl (fun C base X Y hQ => bX11_findValue_0 X Y hQ hf) base sz
/-- public long valueTop(int) throws java.lang.IndexOutOfBoundsException, java.util.NoSuchElementException; of Tableaufloor -/
abbrev rmX11_valueTop : Room := { frames := 8, cells := 2, slots := 12, locals := 148 }
def fX11_valueTop (sO : zSt) (sP : zSt) (sW : zSt) (sS : zSt) (sD : zSt) (sQ : zSt) (sR : zSt) (x1 : Int32) : Option ((String ⊕ Int64) × zSt × zSt × zSt × zSt × zSt) :=
  ((fX11_findValue sO sP sW sS sD sQ sR x1).bind (fun o2 =>
    (Sum.elim (fun E2 => some (.inl E2, o2.2.1, o2.2.2.1, o2.2.2.2.1, o2.2.2.2.2.1, o2.2.2.2.2.2)) (fun r2 =>
    some (.inr (zgl o2.2.2.2.2.2 0), o2.2.1, o2.2.2.1, o2.2.2.2.1, o2.2.2.2.2.1, o2.2.2.2.2.2)) o2.1)))
theorem bX11_valueTop_0 {C : zCtx} (X : zFx C cX11_valueTop 2 RX11 rmX11_valueTop (some .long)) {base : Nat} (Y : zFy C base) {aO : Nat → Nat} {aP : Nat → Nat} {aX : Nat → Nat} {aL : Nat → Nat} {aW : Nat → Nat} {aV : Nat → Nat} {aF : Nat → Nat} {aK : Nat → Nat} {aZ : Nat → Nat} {aR : Nat → Nat} {aS : Nat → Nat} {aD : Nat → Nat} {aQ : Nat → Nat} {aN : Nat → Nat} {sO : zSt} {sP : zSt} {sW : zSt} {sS : zSt} {sD : zSt} {sQ : zSt} {sR : zSt} {x1 : Int32} {out : (String ⊕ Int64) × zSt × zSt × zSt × zSt × zSt} (hQ : zXl C out.1 [wX9 (zcT C) aW (aP 0) (aS 0) (aD 0) (aQ 0) out.2.1, wX7 (zcT C) aS out.2.2.1, wX1 (zcT C) aD out.2.2.2.1, wX4 (zcT C) aQ out.2.2.2.2.1, wX2 (zcT C) aR out.2.2.2.2.2] 2 12) (h : fX11_valueTop sO sP sW sS sD sQ sR x1 = some out) : zG C 2 [2, 3, 4, 5, 6] 0 0 [wX11 (zcT C) aO (aP 0) (aX 0) (aL 0) (aW 0) (aV 0) (aF 0) (aK 0) (aZ 0) (aR 0) aN sO, wX5 (zcT C) aP sP, wX9 (zcT C) aW (aP 0) (aS 0) (aD 0) (aQ 0) sW, wX7 (zcT C) aS sS, wX1 (zcT C) aD sD, wX4 (zcT C) aQ sQ, wX2 (zcT C) aR sR] 0 [(0, .ref (aO 0)), (1, .int x1)] [] := by
  unfold fX11_valueTop at h
  refine z_aload_n X dX11_valueTop_0 0 rfl ?_
  refine z_iload_n X dX11_valueTop_1 1 rfl ?_
  obtain ⟨o2, ho2, h⟩ := zbind_of h
  refine z_xcallVv (st := []) (ws2 := [wX11 (zcT C) aO (aP 0) (aX 0) (aL 0) (aW 0) (aV 0) (aF 0) (aK 0) (aZ 0) (aR 0) aN sO, wX5 (zcT C) aP sP, wX9 (zcT C) aW (aP 0) (aS 0) (aD 0) (aQ 0) o2.2.1, wX7 (zcT C) aS o2.2.2.1, wX1 (zcT C) aD o2.2.2.2.1, wX4 (zcT C) aQ o2.2.2.2.2.1, wX2 (zcT C) aR o2.2.2.2.2.2]) X Y (metX11_findValue (zcl C) Y.2.2.2.2.1 (zcD C) (zcT C) aO aP aX aL aW aV aF aK aZ aR aS aD aQ aN ho2) zmX11_findValue zw1084 dX11_valueTop_2 0 0 12 rfl rfl rfl rfl [0, 1, 2, 3, 4, 5, 6] rfl rfl [2, 3, 4, 5, 6] rfl (by decide) ⟨zsX9 , ⟨zsX7 , ⟨zsX1 , ⟨zsX4 , ⟨zsX2 , trivial⟩⟩⟩⟩⟩ rfl rfl rfl (Nat.le_of_ble_eq_true rfl) rfl rfl ⟨Nat.le_of_ble_eq_true rfl, Nat.le_of_ble_eq_true rfl⟩ ⟨Nat.le_of_ble_eq_true rfl, Nat.le_of_ble_eq_true rfl⟩ (fun E2 hE2 => ?_) (fun r2 hr2 => ?_)
  · replace h := zsum_l h hE2
    cases h
    exact z_xoutl X Y hQ rfl [2, 3, 4, 5, 6] rfl (by decide) (by decide)
  replace h := zsum_r h hr2
  refine z_aload_n X dX11_valueTop_5 0 rfl ?_
  refine z_get (v := .ref (aR 0)) X 0 0 12 8 ziX11 rfl (by decide) zw381 rfl dX11_valueTop_6 rfl rfl rfl ?_
  refine z_getN (v := .long (zgl o2.2.2.2.2.2 0)) X 6 0 3 0 ziX2 rfl (by decide) zw362 rfl dX11_valueTop_9 rfl rfl rfl ?_
  cases h
  exact z_xlret X hQ dX11_valueTop_12 rfl [2, 3, 4, 5, 6] rfl (by decide) (by decide)
theorem metX11_valueTop (l : Launch) (hst : l.stackTraces = false) (D : va_G) (T : Nat → ClassId) (aO : Nat → Nat) (aP : Nat → Nat) (aX : Nat → Nat) (aL : Nat → Nat) (aW : Nat → Nat) (aV : Nat → Nat) (aF : Nat → Nat) (aK : Nat → Nat) (aZ : Nat → Nat) (aR : Nat → Nat) (aS : Nat → Nat) (aD : Nat → Nat) (aQ : Nat → Nat) (aN : Nat → Nat) {sO : zSt} {sP : zSt} {sW : zSt} {sS : zSt} {sD : zSt} {sQ : zSt} {sR : zSt} {x1 : Int32} {out : (String ⊕ Int64) × zSt × zSt × zSt × zSt × zSt} (hf : fX11_valueTop sO sP sW sS sD sQ sR x1 = some out) (base sz : Nat) : vx_Met l yX11_valueTop (zws yX11_valueTop cX11_valueTop 2 (some .long)) rmX11_valueTop (zPx D T [.ref (aO 0), .int x1] [wX11 T aO (aP 0) (aX 0) (aL 0) (aW 0) (aV 0) (aF 0) (aK 0) (aZ 0) (aR 0) aN sO, wX5 T aP sP, wX9 T aW (aP 0) (aS 0) (aD 0) (aQ 0) sW, wX7 T aS sS, wX1 T aD sD, wX4 T aQ sQ, wX2 T aR sR] [wX9 T aW (aP 0) (aS 0) (aD 0) (aQ 0) sW, wX7 T aS sS, wX1 T aD sD, wX4 T aQ sQ, wX2 T aR sR] base sz) (zQxl D out.1 [wX9 T aW (aP 0) (aS 0) (aD 0) (aQ 0) out.2.1, wX7 T aS out.2.2.1, wX1 T aD out.2.2.2.1, wX4 T aQ out.2.2.2.2.1, wX2 T aR out.2.2.2.2.2] (zA [wX9 T aW (aP 0) (aS 0) (aD 0) (aQ 0) sW, wX7 T aS sS, wX1 T aD sD, wX4 T aQ sQ, wX2 T aR sR] sz)) (zXxl D out.1 [wX9 T aW (aP 0) (aS 0) (aD 0) (aQ 0) out.2.1, wX7 T aS out.2.2.1, wX1 T aD out.2.2.2.1, wX4 T aQ out.2.2.2.2.1, wX2 T aR out.2.2.2.2.2] (zA [wX9 T aW (aP 0) (aS 0) (aD 0) (aQ 0) sW, wX7 T aS sS, wX1 T aD sD, wX4 T aQ sQ, wX2 T aR sR] sz)) 2 12 (zA [wX9 T aW (aP 0) (aS 0) (aD 0) (aQ 0) sW, wX7 T aS sS, wX1 T aD sD, wX4 T aQ sQ, wX2 T aR sR] sz) :=
  zMetXl hst (D := D) (T := T) (av := [.ref (aO 0), .int x1]) (ws := fun T => [wX11 T aO (aP 0) (aX 0) (aL 0) (aW 0) (aV 0) (aF 0) (aK 0) (aZ 0) (aR 0) aN sO, wX5 T aP sP, wX9 T aW (aP 0) (aS 0) (aD 0) (aQ 0) sW, wX7 T aS sS, wX1 T aD sD, wX4 T aQ sQ, wX2 T aR sR]) (wm := fun T => [wX9 T aW (aP 0) (aS 0) (aD 0) (aQ 0) sW, wX7 T aS sS, wX1 T aD sD, wX4 T aQ sQ, wX2 T aR sR]) (gm1 := fun T => [wX9 T aW (aP 0) (aS 0) (aD 0) (aQ 0) out.2.1, wX7 T aS out.2.2.1, wX1 T aD out.2.2.2.1, wX4 T aQ out.2.2.2.2.1, wX2 T aR out.2.2.2.2.2]) (o := out.1) (lv0 := [(0, .ref (aO 0)), (1, .int x1)]) [2, 3, 4, 5, 6] (by decide +kernel) rfl (Nat.le_of_ble_eq_true rfl) rfl (fun C base X Y hQ => bX11_valueTop_0 X Y hQ hf) base sz
/-- public long valueBottom(int) throws java.lang.IndexOutOfBoundsException, java.util.NoSuchElementException; of Tableaufloor -/
abbrev rmX11_valueBottom : Room := { frames := 8, cells := 2, slots := 12, locals := 148 }
def fX11_valueBottom (sO : zSt) (sP : zSt) (sW : zSt) (sS : zSt) (sD : zSt) (sQ : zSt) (sR : zSt) (x1 : Int32) : Option ((String ⊕ Int64) × zSt × zSt × zSt × zSt × zSt) :=
  ((fX11_findValue sO sP sW sS sD sQ sR x1).bind (fun o2 =>
    (Sum.elim (fun E2 => some (.inl E2, o2.2.1, o2.2.2.1, o2.2.2.2.1, o2.2.2.2.2.1, o2.2.2.2.2.2)) (fun r2 =>
    some (.inr (zgl o2.2.2.2.2.2 1), o2.2.1, o2.2.2.1, o2.2.2.2.1, o2.2.2.2.2.1, o2.2.2.2.2.2)) o2.1)))
theorem bX11_valueBottom_0 {C : zCtx} (X : zFx C cX11_valueBottom 2 RX11 rmX11_valueBottom (some .long)) {base : Nat} (Y : zFy C base) {aO : Nat → Nat} {aP : Nat → Nat} {aX : Nat → Nat} {aL : Nat → Nat} {aW : Nat → Nat} {aV : Nat → Nat} {aF : Nat → Nat} {aK : Nat → Nat} {aZ : Nat → Nat} {aR : Nat → Nat} {aS : Nat → Nat} {aD : Nat → Nat} {aQ : Nat → Nat} {aN : Nat → Nat} {sO : zSt} {sP : zSt} {sW : zSt} {sS : zSt} {sD : zSt} {sQ : zSt} {sR : zSt} {x1 : Int32} {out : (String ⊕ Int64) × zSt × zSt × zSt × zSt × zSt} (hQ : zXl C out.1 [wX9 (zcT C) aW (aP 0) (aS 0) (aD 0) (aQ 0) out.2.1, wX7 (zcT C) aS out.2.2.1, wX1 (zcT C) aD out.2.2.2.1, wX4 (zcT C) aQ out.2.2.2.2.1, wX2 (zcT C) aR out.2.2.2.2.2] 2 12) (h : fX11_valueBottom sO sP sW sS sD sQ sR x1 = some out) : zG C 2 [2, 3, 4, 5, 6] 0 0 [wX11 (zcT C) aO (aP 0) (aX 0) (aL 0) (aW 0) (aV 0) (aF 0) (aK 0) (aZ 0) (aR 0) aN sO, wX5 (zcT C) aP sP, wX9 (zcT C) aW (aP 0) (aS 0) (aD 0) (aQ 0) sW, wX7 (zcT C) aS sS, wX1 (zcT C) aD sD, wX4 (zcT C) aQ sQ, wX2 (zcT C) aR sR] 0 [(0, .ref (aO 0)), (1, .int x1)] [] := by
  unfold fX11_valueBottom at h
  refine z_aload_n X dX11_valueBottom_0 0 rfl ?_
  refine z_iload_n X dX11_valueBottom_1 1 rfl ?_
  obtain ⟨o2, ho2, h⟩ := zbind_of h
  refine z_xcallVv (st := []) (ws2 := [wX11 (zcT C) aO (aP 0) (aX 0) (aL 0) (aW 0) (aV 0) (aF 0) (aK 0) (aZ 0) (aR 0) aN sO, wX5 (zcT C) aP sP, wX9 (zcT C) aW (aP 0) (aS 0) (aD 0) (aQ 0) o2.2.1, wX7 (zcT C) aS o2.2.2.1, wX1 (zcT C) aD o2.2.2.2.1, wX4 (zcT C) aQ o2.2.2.2.2.1, wX2 (zcT C) aR o2.2.2.2.2.2]) X Y (metX11_findValue (zcl C) Y.2.2.2.2.1 (zcD C) (zcT C) aO aP aX aL aW aV aF aK aZ aR aS aD aQ aN ho2) zmX11_findValue zw1084 dX11_valueBottom_2 0 0 12 rfl rfl rfl rfl [0, 1, 2, 3, 4, 5, 6] rfl rfl [2, 3, 4, 5, 6] rfl (by decide) ⟨zsX9 , ⟨zsX7 , ⟨zsX1 , ⟨zsX4 , ⟨zsX2 , trivial⟩⟩⟩⟩⟩ rfl rfl rfl (Nat.le_of_ble_eq_true rfl) rfl rfl ⟨Nat.le_of_ble_eq_true rfl, Nat.le_of_ble_eq_true rfl⟩ ⟨Nat.le_of_ble_eq_true rfl, Nat.le_of_ble_eq_true rfl⟩ (fun E2 hE2 => ?_) (fun r2 hr2 => ?_)
  · replace h := zsum_l h hE2
    cases h
    exact z_xoutl X Y hQ rfl [2, 3, 4, 5, 6] rfl (by decide) (by decide)
  replace h := zsum_r h hr2
  refine z_aload_n X dX11_valueBottom_5 0 rfl ?_
  refine z_get (v := .ref (aR 0)) X 0 0 12 8 ziX11 rfl (by decide) zw381 rfl dX11_valueBottom_6 rfl rfl rfl ?_
  refine z_getN (v := .long (zgl o2.2.2.2.2.2 1)) X 6 0 3 1 ziX2 rfl (by decide) zw364 rfl dX11_valueBottom_9 rfl rfl rfl ?_
  cases h
  exact z_xlret X hQ dX11_valueBottom_12 rfl [2, 3, 4, 5, 6] rfl (by decide) (by decide)
theorem metX11_valueBottom (l : Launch) (hst : l.stackTraces = false) (D : va_G) (T : Nat → ClassId) (aO : Nat → Nat) (aP : Nat → Nat) (aX : Nat → Nat) (aL : Nat → Nat) (aW : Nat → Nat) (aV : Nat → Nat) (aF : Nat → Nat) (aK : Nat → Nat) (aZ : Nat → Nat) (aR : Nat → Nat) (aS : Nat → Nat) (aD : Nat → Nat) (aQ : Nat → Nat) (aN : Nat → Nat) {sO : zSt} {sP : zSt} {sW : zSt} {sS : zSt} {sD : zSt} {sQ : zSt} {sR : zSt} {x1 : Int32} {out : (String ⊕ Int64) × zSt × zSt × zSt × zSt × zSt} (hf : fX11_valueBottom sO sP sW sS sD sQ sR x1 = some out) (base sz : Nat) : vx_Met l yX11_valueBottom (zws yX11_valueBottom cX11_valueBottom 2 (some .long)) rmX11_valueBottom (zPx D T [.ref (aO 0), .int x1] [wX11 T aO (aP 0) (aX 0) (aL 0) (aW 0) (aV 0) (aF 0) (aK 0) (aZ 0) (aR 0) aN sO, wX5 T aP sP, wX9 T aW (aP 0) (aS 0) (aD 0) (aQ 0) sW, wX7 T aS sS, wX1 T aD sD, wX4 T aQ sQ, wX2 T aR sR] [wX9 T aW (aP 0) (aS 0) (aD 0) (aQ 0) sW, wX7 T aS sS, wX1 T aD sD, wX4 T aQ sQ, wX2 T aR sR] base sz) (zQxl D out.1 [wX9 T aW (aP 0) (aS 0) (aD 0) (aQ 0) out.2.1, wX7 T aS out.2.2.1, wX1 T aD out.2.2.2.1, wX4 T aQ out.2.2.2.2.1, wX2 T aR out.2.2.2.2.2] (zA [wX9 T aW (aP 0) (aS 0) (aD 0) (aQ 0) sW, wX7 T aS sS, wX1 T aD sD, wX4 T aQ sQ, wX2 T aR sR] sz)) (zXxl D out.1 [wX9 T aW (aP 0) (aS 0) (aD 0) (aQ 0) out.2.1, wX7 T aS out.2.2.1, wX1 T aD out.2.2.2.1, wX4 T aQ out.2.2.2.2.1, wX2 T aR out.2.2.2.2.2] (zA [wX9 T aW (aP 0) (aS 0) (aD 0) (aQ 0) sW, wX7 T aS sS, wX1 T aD sD, wX4 T aQ sQ, wX2 T aR sR] sz)) 2 12 (zA [wX9 T aW (aP 0) (aS 0) (aD 0) (aQ 0) sW, wX7 T aS sS, wX1 T aD sD, wX4 T aQ sQ, wX2 T aR sR] sz) :=
  zMetXl hst (D := D) (T := T) (av := [.ref (aO 0), .int x1]) (ws := fun T => [wX11 T aO (aP 0) (aX 0) (aL 0) (aW 0) (aV 0) (aF 0) (aK 0) (aZ 0) (aR 0) aN sO, wX5 T aP sP, wX9 T aW (aP 0) (aS 0) (aD 0) (aQ 0) sW, wX7 T aS sS, wX1 T aD sD, wX4 T aQ sQ, wX2 T aR sR]) (wm := fun T => [wX9 T aW (aP 0) (aS 0) (aD 0) (aQ 0) sW, wX7 T aS sS, wX1 T aD sD, wX4 T aQ sQ, wX2 T aR sR]) (gm1 := fun T => [wX9 T aW (aP 0) (aS 0) (aD 0) (aQ 0) out.2.1, wX7 T aS out.2.2.1, wX1 T aD out.2.2.2.1, wX4 T aQ out.2.2.2.2.1, wX2 T aR out.2.2.2.2.2]) (o := out.1) (lv0 := [(0, .ref (aO 0)), (1, .int x1)]) [2, 3, 4, 5, 6] (by decide +kernel) rfl (Nat.le_of_ble_eq_true rfl) rfl (fun C base X Y hQ => bX11_valueBottom_0 X Y hQ hf) base sz
/-- private void demandBest(); of Tableaufloor -/
abbrev rmX11_demandBest : Room := { frames := 6, cells := 1, slots := 6, locals := 127 }
def fX11_demandBest (sO : zSt) (sP : zSt) (sW : zSt) (sS : zSt) (sD : zSt) (sQ : zSt) : Option ((String ⊕ Unit) × zSt × zSt × zSt × zSt) :=
  ((fX9_findAll sW sP sS sD sQ).bind (fun o4 =>
    (if (zgi o4.1 5) = (111 : Int32) then
    some (.inr (), o4.1, o4.2.1, o4.2.2.1, o4.2.2.2)
  else
    some (.inl "java/util/NoSuchElementException", o4.1, o4.2.1, o4.2.2.1, o4.2.2.2))))
theorem bX11_demandBest_0 {C : zCtx} (X : zFx C cX11_demandBest 1 RX11 rmX11_demandBest none) {base : Nat} (Y : zFy C base) {aO : Nat → Nat} {aP : Nat → Nat} {aX : Nat → Nat} {aL : Nat → Nat} {aW : Nat → Nat} {aV : Nat → Nat} {aF : Nat → Nat} {aK : Nat → Nat} {aZ : Nat → Nat} {aR : Nat → Nat} {aS : Nat → Nat} {aD : Nat → Nat} {aQ : Nat → Nat} {aN : Nat → Nat} {sO : zSt} {sP : zSt} {sW : zSt} {sS : zSt} {sD : zSt} {sQ : zSt} {out : (String ⊕ Unit) × zSt × zSt × zSt × zSt} (hQ : zXv C out.1 [wX9 (zcT C) aW (aP 0) (aS 0) (aD 0) (aQ 0) out.2.1, wX7 (zcT C) aS out.2.2.1, wX1 (zcT C) aD out.2.2.2.1, wX4 (zcT C) aQ out.2.2.2.2] 1 6) (h : fX11_demandBest sO sP sW sS sD sQ = some out) : zG C 1 [2, 3, 4, 5] 0 0 [wX11 (zcT C) aO (aP 0) (aX 0) (aL 0) (aW 0) (aV 0) (aF 0) (aK 0) (aZ 0) (aR 0) aN sO, wX5 (zcT C) aP sP, wX9 (zcT C) aW (aP 0) (aS 0) (aD 0) (aQ 0) sW, wX7 (zcT C) aS sS, wX1 (zcT C) aD sD, wX4 (zcT C) aQ sQ] 0 [(0, .ref (aO 0))] [] := by
  unfold fX11_demandBest at h
  refine z_aload_n X dX11_demandBest_0 0 rfl ?_
  refine z_get (v := .ref (aW 0)) X 0 0 12 3 ziX11 rfl (by decide) zw376 rfl dX11_demandBest_1 rfl rfl rfl ?_
  obtain ⟨o4, ho4, h⟩ := zbind_of h
  refine z_callVv (st := []) (ws2 := [wX11 (zcT C) aO (aP 0) (aX 0) (aL 0) (aW 0) (aV 0) (aF 0) (aK 0) (aZ 0) (aR 0) aN sO, wX5 (zcT C) aP sP, wX9 (zcT C) aW (aP 0) (aS 0) (aD 0) (aQ 0) o4.1, wX7 (zcT C) aS o4.2.1, wX1 (zcT C) aD o4.2.2.1, wX4 (zcT C) aQ o4.2.2.2]) X (metX9_findAll (zcl C) (zcD C) (zcT C) aW aP aS aD aQ ho4) zmX9_findAll zw488 dX11_demandBest_4 2 0 10 rfl rfl rfl rfl [2, 1, 3, 4, 5] rfl rfl [2, 3, 4, 5] rfl (by decide) ⟨zsX9 , ⟨zsX7 , ⟨zsX1 , ⟨zsX4 , trivial⟩⟩⟩⟩ rfl rfl rfl (Nat.le_of_ble_eq_true rfl) rfl rfl ⟨Nat.le_of_ble_eq_true rfl, Nat.le_of_ble_eq_true rfl⟩ ⟨Nat.le_of_ble_eq_true rfl, Nat.le_of_ble_eq_true rfl⟩ ?_
  refine z_aload_n X dX11_demandBest_7 0 rfl ?_
  refine z_get (v := .ref (aW 0)) X 0 0 12 3 ziX11 rfl (by decide) zw376 rfl dX11_demandBest_8 rfl rfl rfl ?_
  refine z_getN (v := .int (zgi o4.1 5)) X 2 0 10 5 ziX9 rfl (by decide) zw249 rfl dX11_demandBest_11 rfl rfl rfl ?_
  refine z_bipush (v := (111 : Int32)) X dX11_demandBest_14 rfl ?_
  refine z_icmp_eq (tgt := 30) X dX11_demandBest_16 (by decide) (fun c16 => ?_) (fun c16 => ?_)
  · replace h := zif_t h c16
    cases h
    exact z_xvret X hQ dX11_demandBest_30 rfl [2, 3, 4, 5] rfl (by decide) (by decide)
  · replace h := zif_f h c16
    cases h
    exact z_throwNWv X Y hQ rfl zt_RX11_155 zs_1124 dX11_demandBest_19 dX11_demandBest_22 dX11_demandBest_23 dX11_demandBest_26 dX11_demandBest_29 [2, 3, 4, 5] rfl (by decide) (by decide) (by decide) (by decide) (by decide) (by decide)
theorem metX11_demandBest (l : Launch) (hst : l.stackTraces = false) (D : va_G) (T : Nat → ClassId) (aO : Nat → Nat) (aP : Nat → Nat) (aX : Nat → Nat) (aL : Nat → Nat) (aW : Nat → Nat) (aV : Nat → Nat) (aF : Nat → Nat) (aK : Nat → Nat) (aZ : Nat → Nat) (aR : Nat → Nat) (aS : Nat → Nat) (aD : Nat → Nat) (aQ : Nat → Nat) (aN : Nat → Nat) {sO : zSt} {sP : zSt} {sW : zSt} {sS : zSt} {sD : zSt} {sQ : zSt} {out : (String ⊕ Unit) × zSt × zSt × zSt × zSt} (hf : fX11_demandBest sO sP sW sS sD sQ = some out) (base sz : Nat) : vx_Met l yX11_demandBest (zws yX11_demandBest cX11_demandBest 1 none) rmX11_demandBest (zPx D T [.ref (aO 0)] [wX11 T aO (aP 0) (aX 0) (aL 0) (aW 0) (aV 0) (aF 0) (aK 0) (aZ 0) (aR 0) aN sO, wX5 T aP sP, wX9 T aW (aP 0) (aS 0) (aD 0) (aQ 0) sW, wX7 T aS sS, wX1 T aD sD, wX4 T aQ sQ] [wX9 T aW (aP 0) (aS 0) (aD 0) (aQ 0) sW, wX7 T aS sS, wX1 T aD sD, wX4 T aQ sQ] base sz) (zQxv D out.1 [wX9 T aW (aP 0) (aS 0) (aD 0) (aQ 0) out.2.1, wX7 T aS out.2.2.1, wX1 T aD out.2.2.2.1, wX4 T aQ out.2.2.2.2] (zA [wX9 T aW (aP 0) (aS 0) (aD 0) (aQ 0) sW, wX7 T aS sS, wX1 T aD sD, wX4 T aQ sQ] sz)) (zXxv D out.1 [wX9 T aW (aP 0) (aS 0) (aD 0) (aQ 0) out.2.1, wX7 T aS out.2.2.1, wX1 T aD out.2.2.2.1, wX4 T aQ out.2.2.2.2] (zA [wX9 T aW (aP 0) (aS 0) (aD 0) (aQ 0) sW, wX7 T aS sS, wX1 T aD sD, wX4 T aQ sQ] sz)) 1 6 (zA [wX9 T aW (aP 0) (aS 0) (aD 0) (aQ 0) sW, wX7 T aS sS, wX1 T aD sD, wX4 T aQ sQ] sz) :=
  zMetXv hst (D := D) (T := T) (av := [.ref (aO 0)]) (ws := fun T => [wX11 T aO (aP 0) (aX 0) (aL 0) (aW 0) (aV 0) (aF 0) (aK 0) (aZ 0) (aR 0) aN sO, wX5 T aP sP, wX9 T aW (aP 0) (aS 0) (aD 0) (aQ 0) sW, wX7 T aS sS, wX1 T aD sD, wX4 T aQ sQ]) (wm := fun T => [wX9 T aW (aP 0) (aS 0) (aD 0) (aQ 0) sW, wX7 T aS sS, wX1 T aD sD, wX4 T aQ sQ]) (gm1 := fun T => [wX9 T aW (aP 0) (aS 0) (aD 0) (aQ 0) out.2.1, wX7 T aS out.2.2.1, wX1 T aD out.2.2.2.1, wX4 T aQ out.2.2.2.2]) (o := out.1) (lv0 := [(0, .ref (aO 0))]) [2, 3, 4, 5] (by decide +kernel) rfl (Nat.le_of_ble_eq_true rfl) rfl (fun C base X Y hQ => bX11_demandBest_0 X Y hQ hf) base sz
/-- public long topByPoints(int) throws java.lang.IndexOutOfBoundsException, java.util.NoSuchElementException; of Tableaufloor -/
abbrev rmX11_topByPoints : Room := { frames := 7, cells := 2, slots := 12, locals := 156 }
def fX11_topByPoints (sO : zSt) (sP : zSt) (sW : zSt) (sS : zSt) (sD : zSt) (sQ : zSt) (sK : zSt) (sB : zSt) (sC : zSt) (sR : zSt) (x1 : Int32) : Option ((String ⊕ Int64) × zSt × zSt × zSt × zSt × zSt × zSt × zSt × zSt) :=
  ((fX11_demandAim sO sP x1).bind (fun o2 =>
    (Sum.elim (fun E2 => some (.inl E2, sW, sS, sD, sQ, sK, sB, sC, sR)) (fun r2 =>
    ((fX11_demandBest sO sP sW sS sD sQ).bind (fun o6 =>
    (Sum.elim (fun E6 => some (.inl E6, o6.2.1, o6.2.2.1, o6.2.2.2.1, o6.2.2.2.2, sK, sB, sC, sR)) (fun r6 =>
    ((fX0_look sK sP o6.2.2.1 sB sC).bind (fun o13 =>
    ((fX5_aimSum sP o13.2.1 x1).bind (fun o32 =>
    ((fX2_put sR o32 (zgl o13.2.1 1)).bind (fun o45 =>
    some (.inr (zgl o45 0), o6.2.1, o6.2.2.1, o6.2.2.2.1, o6.2.2.2.2, o13.1, o13.2.1, o13.2.2, o45)))))))) o6.1)))) o2)))
theorem bX11_topByPoints_0 {C : zCtx} (X : zFx C cX11_topByPoints 2 RX11 rmX11_topByPoints (some .long)) {base : Nat} (Y : zFy C base) {aO : Nat → Nat} {aP : Nat → Nat} {aX : Nat → Nat} {aL : Nat → Nat} {aW : Nat → Nat} {aV : Nat → Nat} {aF : Nat → Nat} {aK : Nat → Nat} {aZ : Nat → Nat} {aR : Nat → Nat} {aS : Nat → Nat} {aD : Nat → Nat} {aQ : Nat → Nat} {aB : Nat → Nat} {aC : Nat → Nat} {aN : Nat → Nat} {sO : zSt} {sP : zSt} {sW : zSt} {sS : zSt} {sD : zSt} {sQ : zSt} {sK : zSt} {sB : zSt} {sC : zSt} {sR : zSt} {x1 : Int32} {out : (String ⊕ Int64) × zSt × zSt × zSt × zSt × zSt × zSt × zSt × zSt} (hQ : zXl C out.1 [wX9 (zcT C) aW (aP 0) (aS 0) (aD 0) (aQ 0) out.2.1, wX7 (zcT C) aS out.2.2.1, wX1 (zcT C) aD out.2.2.2.1, wX4 (zcT C) aQ out.2.2.2.2.1, wX0 (zcT C) aK (aP 0) (aS 0) (aB 0) (aC 0) out.2.2.2.2.2.1, wX4 (zcT C) aB out.2.2.2.2.2.2.1, wX4 (zcT C) aC out.2.2.2.2.2.2.2.1, wX2 (zcT C) aR out.2.2.2.2.2.2.2.2] 2 12) (h : fX11_topByPoints sO sP sW sS sD sQ sK sB sC sR x1 = some out) : zG C 2 [2, 3, 4, 5, 6, 7, 8, 9] 0 0 [wX11 (zcT C) aO (aP 0) (aX 0) (aL 0) (aW 0) (aV 0) (aF 0) (aK 0) (aZ 0) (aR 0) aN sO, wX5 (zcT C) aP sP, wX9 (zcT C) aW (aP 0) (aS 0) (aD 0) (aQ 0) sW, wX7 (zcT C) aS sS, wX1 (zcT C) aD sD, wX4 (zcT C) aQ sQ, wX0 (zcT C) aK (aP 0) (aS 0) (aB 0) (aC 0) sK, wX4 (zcT C) aB sB, wX4 (zcT C) aC sC, wX2 (zcT C) aR sR] 0 [(0, .ref (aO 0)), (1, .int x1)] [] := by
  unfold fX11_topByPoints at h
  refine z_aload_n X dX11_topByPoints_0 0 rfl ?_
  refine z_iload_n X dX11_topByPoints_1 1 rfl ?_
  obtain ⟨o2, ho2, h⟩ := zbind_of h
  refine z_xcallVv (st := []) (ws2 := [wX11 (zcT C) aO (aP 0) (aX 0) (aL 0) (aW 0) (aV 0) (aF 0) (aK 0) (aZ 0) (aR 0) aN sO, wX5 (zcT C) aP sP, wX9 (zcT C) aW (aP 0) (aS 0) (aD 0) (aQ 0) sW, wX7 (zcT C) aS sS, wX1 (zcT C) aD sD, wX4 (zcT C) aQ sQ, wX0 (zcT C) aK (aP 0) (aS 0) (aB 0) (aC 0) sK, wX4 (zcT C) aB sB, wX4 (zcT C) aC sC, wX2 (zcT C) aR sR]) X Y (metX11_demandAim (zcl C) Y.2.2.2.2.1 (zcD C) (zcT C) aO aP aX aL aW aV aF aK aZ aR aN ho2) zmX11_demandAim zw1088 dX11_topByPoints_2 0 0 12 rfl rfl rfl rfl [0, 1] rfl rfl [] rfl (by decide) trivial rfl rfl rfl (Nat.le_of_ble_eq_true rfl) rfl rfl ⟨Nat.le_of_ble_eq_true rfl, Nat.le_of_ble_eq_true rfl⟩ ⟨Nat.le_of_ble_eq_true rfl, Nat.le_of_ble_eq_true rfl⟩ (fun E2 hE2 => ?_) (fun r2 hr2 => ?_)
  · replace h := zsum_l h hE2
    cases h
    exact z_xoutl X Y hQ rfl [2, 3, 4, 5, 6, 7, 8, 9] rfl (by decide) (by decide)
  replace h := zsum_r h hr2
  refine z_aload_n X dX11_topByPoints_5 0 rfl ?_
  obtain ⟨o6, ho6, h⟩ := zbind_of h
  refine z_xcallVv (st := []) (ws2 := [wX11 (zcT C) aO (aP 0) (aX 0) (aL 0) (aW 0) (aV 0) (aF 0) (aK 0) (aZ 0) (aR 0) aN sO, wX5 (zcT C) aP sP, wX9 (zcT C) aW (aP 0) (aS 0) (aD 0) (aQ 0) o6.2.1, wX7 (zcT C) aS o6.2.2.1, wX1 (zcT C) aD o6.2.2.2.1, wX4 (zcT C) aQ o6.2.2.2.2, wX0 (zcT C) aK (aP 0) (aS 0) (aB 0) (aC 0) sK, wX4 (zcT C) aB sB, wX4 (zcT C) aC sC, wX2 (zcT C) aR sR]) X Y (metX11_demandBest (zcl C) Y.2.2.2.2.1 (zcD C) (zcT C) aO aP aX aL aW aV aF aK aZ aR aS aD aQ aN ho6) zmX11_demandBest zw1120 dX11_topByPoints_6 0 0 12 rfl rfl rfl rfl [0, 1, 2, 3, 4, 5] rfl rfl [2, 3, 4, 5] rfl (by decide) ⟨zsX9 , ⟨zsX7 , ⟨zsX1 , ⟨zsX4 , trivial⟩⟩⟩⟩ rfl rfl rfl (Nat.le_of_ble_eq_true rfl) rfl rfl ⟨Nat.le_of_ble_eq_true rfl, Nat.le_of_ble_eq_true rfl⟩ ⟨Nat.le_of_ble_eq_true rfl, Nat.le_of_ble_eq_true rfl⟩ (fun E6 hE6 => ?_) (fun r6 hr6 => ?_)
  · replace h := zsum_l h hE6
    cases h
    exact z_xoutl X Y hQ rfl [2, 3, 4, 5, 6, 7, 8, 9] rfl (by decide) (by decide)
  replace h := zsum_r h hr6
  refine z_aload_n X dX11_topByPoints_9 0 rfl ?_
  refine z_get (v := .ref (aK 0)) X 0 0 12 6 ziX11 rfl (by decide) zw379 rfl dX11_topByPoints_10 rfl rfl rfl ?_
  obtain ⟨o13, ho13, h⟩ := zbind_of h
  refine z_callVv (st := []) (ws2 := [wX11 (zcT C) aO (aP 0) (aX 0) (aL 0) (aW 0) (aV 0) (aF 0) (aK 0) (aZ 0) (aR 0) aN sO, wX5 (zcT C) aP sP, wX9 (zcT C) aW (aP 0) (aS 0) (aD 0) (aQ 0) o6.2.1, wX7 (zcT C) aS o6.2.2.1, wX1 (zcT C) aD o6.2.2.2.1, wX4 (zcT C) aQ o6.2.2.2.2, wX0 (zcT C) aK (aP 0) (aS 0) (aB 0) (aC 0) o13.1, wX4 (zcT C) aB o13.2.1, wX4 (zcT C) aC o13.2.2, wX2 (zcT C) aR sR]) X (metX0_look (zcl C) (zcD C) (zcT C) aK aP aS aB aC ho13) zmX0_look zw1125 dX11_topByPoints_13 6 0 1 rfl rfl rfl rfl [6, 1, 3, 7, 8] rfl rfl [6, 7, 8] rfl (by decide) ⟨zsX0 , ⟨zsX4 , ⟨zsX4 , trivial⟩⟩⟩ rfl rfl rfl (Nat.le_of_ble_eq_true rfl) rfl rfl ⟨Nat.le_of_ble_eq_true rfl, Nat.le_of_ble_eq_true rfl⟩ ⟨Nat.le_of_ble_eq_true rfl, Nat.le_of_ble_eq_true rfl⟩ ?_
  refine z_aload_n X dX11_topByPoints_16 0 rfl ?_
  refine z_get (v := .ref (aR 0)) X 0 0 12 8 ziX11 rfl (by decide) zw381 rfl dX11_topByPoints_17 rfl rfl rfl ?_
  refine z_aload_n X dX11_topByPoints_20 0 rfl ?_
  refine z_get (v := .ref (aP 0)) X 0 0 12 0 ziX11 rfl (by decide) zw373 rfl dX11_topByPoints_21 rfl rfl rfl ?_
  refine z_iload_n X dX11_topByPoints_24 1 rfl ?_
  refine z_aload_n X dX11_topByPoints_25 0 rfl ?_
  refine z_get (v := .ref (aK 0)) X 0 0 12 6 ziX11 rfl (by decide) zw379 rfl dX11_topByPoints_26 rfl rfl rfl ?_
  refine z_getN (v := .ref (aB 0)) X 6 0 1 2 ziX0 rfl (by decide) zw310 rfl dX11_topByPoints_29 rfl rfl rfl ?_
  obtain ⟨o32, ho32, h⟩ := zbind_of h
  refine z_callVl (st := [.ref (aR 0)]) (ws2 := [wX11 (zcT C) aO (aP 0) (aX 0) (aL 0) (aW 0) (aV 0) (aF 0) (aK 0) (aZ 0) (aR 0) aN sO, wX5 (zcT C) aP sP, wX9 (zcT C) aW (aP 0) (aS 0) (aD 0) (aQ 0) o6.2.1, wX7 (zcT C) aS o6.2.2.1, wX1 (zcT C) aD o6.2.2.2.1, wX4 (zcT C) aQ o6.2.2.2.2, wX0 (zcT C) aK (aP 0) (aS 0) (aB 0) (aC 0) o13.1, wX4 (zcT C) aB o13.2.1, wX4 (zcT C) aC o13.2.2, wX2 (zcT C) aR sR]) X (metX5_aimSum (zcl C) (zcD C) (zcT C) aP aB ho32) zmX5_aimSum zw1098 dX11_topByPoints_32 1 0 6 rfl rfl rfl rfl [1, 7] rfl rfl [] rfl (by decide) trivial rfl rfl rfl (Nat.le_of_ble_eq_true rfl) rfl rfl ⟨Nat.le_of_ble_eq_true rfl, Nat.le_of_ble_eq_true rfl⟩ ⟨Nat.le_of_ble_eq_true rfl, Nat.le_of_ble_eq_true rfl⟩ ?_
  refine z_aload_n X dX11_topByPoints_35 0 rfl ?_
  refine z_get (v := .ref (aK 0)) X 0 0 12 6 ziX11 rfl (by decide) zw379 rfl dX11_topByPoints_36 rfl rfl rfl ?_
  refine z_getN (v := .ref (aB 0)) X 6 0 1 2 ziX0 rfl (by decide) zw310 rfl dX11_topByPoints_39 rfl rfl rfl ?_
  refine z_getN (v := .long (zgl o13.2.1 1)) X 7 0 5 1 ziX4 rfl (by decide) zw223 rfl dX11_topByPoints_42 rfl rfl rfl ?_
  obtain ⟨o45, ho45, h⟩ := zbind_of h
  refine z_callVv (st := []) (ws2 := [wX11 (zcT C) aO (aP 0) (aX 0) (aL 0) (aW 0) (aV 0) (aF 0) (aK 0) (aZ 0) (aR 0) aN sO, wX5 (zcT C) aP sP, wX9 (zcT C) aW (aP 0) (aS 0) (aD 0) (aQ 0) o6.2.1, wX7 (zcT C) aS o6.2.2.1, wX1 (zcT C) aD o6.2.2.2.1, wX4 (zcT C) aQ o6.2.2.2.2, wX0 (zcT C) aK (aP 0) (aS 0) (aB 0) (aC 0) o13.1, wX4 (zcT C) aB o13.2.1, wX4 (zcT C) aC o13.2.2, wX2 (zcT C) aR o45]) X (metX2_put (zcl C) (zcD C) (zcT C) aR ho45) zmX2_put zw1099 dX11_topByPoints_45 9 0 3 rfl rfl rfl rfl [9] rfl rfl [9] rfl (by decide) ⟨zsX2 , trivial⟩ rfl rfl rfl (Nat.le_of_ble_eq_true rfl) rfl rfl ⟨Nat.le_of_ble_eq_true rfl, Nat.le_of_ble_eq_true rfl⟩ ⟨Nat.le_of_ble_eq_true rfl, Nat.le_of_ble_eq_true rfl⟩ ?_
  refine z_aload_n X dX11_topByPoints_48 0 rfl ?_
  refine z_get (v := .ref (aR 0)) X 0 0 12 8 ziX11 rfl (by decide) zw381 rfl dX11_topByPoints_49 rfl rfl rfl ?_
  refine z_getN (v := .long (zgl o45 0)) X 9 0 3 0 ziX2 rfl (by decide) zw362 rfl dX11_topByPoints_52 rfl rfl rfl ?_
  cases h
  exact z_xlret X hQ dX11_topByPoints_55 rfl [2, 3, 4, 5, 6, 7, 8, 9] rfl (by decide) (by decide)
theorem metX11_topByPoints (l : Launch) (hst : l.stackTraces = false) (D : va_G) (T : Nat → ClassId) (aO : Nat → Nat) (aP : Nat → Nat) (aX : Nat → Nat) (aL : Nat → Nat) (aW : Nat → Nat) (aV : Nat → Nat) (aF : Nat → Nat) (aK : Nat → Nat) (aZ : Nat → Nat) (aR : Nat → Nat) (aS : Nat → Nat) (aD : Nat → Nat) (aQ : Nat → Nat) (aB : Nat → Nat) (aC : Nat → Nat) (aN : Nat → Nat) {sO : zSt} {sP : zSt} {sW : zSt} {sS : zSt} {sD : zSt} {sQ : zSt} {sK : zSt} {sB : zSt} {sC : zSt} {sR : zSt} {x1 : Int32} {out : (String ⊕ Int64) × zSt × zSt × zSt × zSt × zSt × zSt × zSt × zSt} (hf : fX11_topByPoints sO sP sW sS sD sQ sK sB sC sR x1 = some out) (base sz : Nat) : vx_Met l yX11_topByPoints (zws yX11_topByPoints cX11_topByPoints 2 (some .long)) rmX11_topByPoints (zPx D T [.ref (aO 0), .int x1] [wX11 T aO (aP 0) (aX 0) (aL 0) (aW 0) (aV 0) (aF 0) (aK 0) (aZ 0) (aR 0) aN sO, wX5 T aP sP, wX9 T aW (aP 0) (aS 0) (aD 0) (aQ 0) sW, wX7 T aS sS, wX1 T aD sD, wX4 T aQ sQ, wX0 T aK (aP 0) (aS 0) (aB 0) (aC 0) sK, wX4 T aB sB, wX4 T aC sC, wX2 T aR sR] [wX9 T aW (aP 0) (aS 0) (aD 0) (aQ 0) sW, wX7 T aS sS, wX1 T aD sD, wX4 T aQ sQ, wX0 T aK (aP 0) (aS 0) (aB 0) (aC 0) sK, wX4 T aB sB, wX4 T aC sC, wX2 T aR sR] base sz) (zQxl D out.1 [wX9 T aW (aP 0) (aS 0) (aD 0) (aQ 0) out.2.1, wX7 T aS out.2.2.1, wX1 T aD out.2.2.2.1, wX4 T aQ out.2.2.2.2.1, wX0 T aK (aP 0) (aS 0) (aB 0) (aC 0) out.2.2.2.2.2.1, wX4 T aB out.2.2.2.2.2.2.1, wX4 T aC out.2.2.2.2.2.2.2.1, wX2 T aR out.2.2.2.2.2.2.2.2] (zA [wX9 T aW (aP 0) (aS 0) (aD 0) (aQ 0) sW, wX7 T aS sS, wX1 T aD sD, wX4 T aQ sQ, wX0 T aK (aP 0) (aS 0) (aB 0) (aC 0) sK, wX4 T aB sB, wX4 T aC sC, wX2 T aR sR] sz)) (zXxl D out.1 [wX9 T aW (aP 0) (aS 0) (aD 0) (aQ 0) out.2.1, wX7 T aS out.2.2.1, wX1 T aD out.2.2.2.1, wX4 T aQ out.2.2.2.2.1, wX0 T aK (aP 0) (aS 0) (aB 0) (aC 0) out.2.2.2.2.2.1, wX4 T aB out.2.2.2.2.2.2.1, wX4 T aC out.2.2.2.2.2.2.2.1, wX2 T aR out.2.2.2.2.2.2.2.2] (zA [wX9 T aW (aP 0) (aS 0) (aD 0) (aQ 0) sW, wX7 T aS sS, wX1 T aD sD, wX4 T aQ sQ, wX0 T aK (aP 0) (aS 0) (aB 0) (aC 0) sK, wX4 T aB sB, wX4 T aC sC, wX2 T aR sR] sz)) 2 12 (zA [wX9 T aW (aP 0) (aS 0) (aD 0) (aQ 0) sW, wX7 T aS sS, wX1 T aD sD, wX4 T aQ sQ, wX0 T aK (aP 0) (aS 0) (aB 0) (aC 0) sK, wX4 T aB sB, wX4 T aC sC, wX2 T aR sR] sz) :=
  zMetXl hst (D := D) (T := T) (av := [.ref (aO 0), .int x1]) (ws := fun T => [wX11 T aO (aP 0) (aX 0) (aL 0) (aW 0) (aV 0) (aF 0) (aK 0) (aZ 0) (aR 0) aN sO, wX5 T aP sP, wX9 T aW (aP 0) (aS 0) (aD 0) (aQ 0) sW, wX7 T aS sS, wX1 T aD sD, wX4 T aQ sQ, wX0 T aK (aP 0) (aS 0) (aB 0) (aC 0) sK, wX4 T aB sB, wX4 T aC sC, wX2 T aR sR]) (wm := fun T => [wX9 T aW (aP 0) (aS 0) (aD 0) (aQ 0) sW, wX7 T aS sS, wX1 T aD sD, wX4 T aQ sQ, wX0 T aK (aP 0) (aS 0) (aB 0) (aC 0) sK, wX4 T aB sB, wX4 T aC sC, wX2 T aR sR]) (gm1 := fun T => [wX9 T aW (aP 0) (aS 0) (aD 0) (aQ 0) out.2.1, wX7 T aS out.2.2.1, wX1 T aD out.2.2.2.1, wX4 T aQ out.2.2.2.2.1, wX0 T aK (aP 0) (aS 0) (aB 0) (aC 0) out.2.2.2.2.2.1, wX4 T aB out.2.2.2.2.2.2.1, wX4 T aC out.2.2.2.2.2.2.2.1, wX2 T aR out.2.2.2.2.2.2.2.2]) (o := out.1) (lv0 := [(0, .ref (aO 0)), (1, .int x1)]) [2, 3, 4, 5, 6, 7, 8, 9] (by decide +kernel) rfl (Nat.le_of_ble_eq_true rfl) rfl (fun C base X Y hQ => bX11_topByPoints_0 X Y hQ hf) base sz
/-- private void findCoordinate(int); of Tableaufloor -/
abbrev rmX11_findCoordinate : Room := { frames := 7, cells := 2, slots := 12, locals := 147 }
def fX11_findCoordinate (sO : zSt) (sP : zSt) (sW : zSt) (sS : zSt) (sD : zSt) (sQ : zSt) (sR : zSt) (x1 : Int32) : Option ((String ⊕ Unit) × zSt × zSt × zSt × zSt × zSt) :=
  ((fX11_demandVariable sO sP x1).bind (fun o2 =>
    (Sum.elim (fun E2 => some (.inl E2, sW, sS, sD, sQ, sR)) (fun r2 =>
    ((fX11_demandBest sO sP sW sS sD sQ).bind (fun o6 =>
    (Sum.elim (fun E6 => some (.inl E6, o6.2.1, o6.2.2.1, o6.2.2.2.1, o6.2.2.2.2, sR)) (fun r6 =>
    ((fX4_topOf o6.2.2.2.2 x1).bind (fun o21 =>
    ((fX2_put sR o21 (zgl o6.2.2.2.2 1)).bind (fun o34 =>
    some (.inr (), o6.2.1, o6.2.2.1, o6.2.2.2.1, o6.2.2.2.2, o34)))))) o6.1)))) o2)))
theorem bX11_findCoordinate_0 {C : zCtx} (X : zFx C cX11_findCoordinate 2 RX11 rmX11_findCoordinate none) {base : Nat} (Y : zFy C base) {aO : Nat → Nat} {aP : Nat → Nat} {aX : Nat → Nat} {aL : Nat → Nat} {aW : Nat → Nat} {aV : Nat → Nat} {aF : Nat → Nat} {aK : Nat → Nat} {aZ : Nat → Nat} {aR : Nat → Nat} {aS : Nat → Nat} {aD : Nat → Nat} {aQ : Nat → Nat} {aN : Nat → Nat} {sO : zSt} {sP : zSt} {sW : zSt} {sS : zSt} {sD : zSt} {sQ : zSt} {sR : zSt} {x1 : Int32} {out : (String ⊕ Unit) × zSt × zSt × zSt × zSt × zSt} (hQ : zXv C out.1 [wX9 (zcT C) aW (aP 0) (aS 0) (aD 0) (aQ 0) out.2.1, wX7 (zcT C) aS out.2.2.1, wX1 (zcT C) aD out.2.2.2.1, wX4 (zcT C) aQ out.2.2.2.2.1, wX2 (zcT C) aR out.2.2.2.2.2] 2 12) (h : fX11_findCoordinate sO sP sW sS sD sQ sR x1 = some out) : zG C 2 [2, 3, 4, 5, 6] 0 0 [wX11 (zcT C) aO (aP 0) (aX 0) (aL 0) (aW 0) (aV 0) (aF 0) (aK 0) (aZ 0) (aR 0) aN sO, wX5 (zcT C) aP sP, wX9 (zcT C) aW (aP 0) (aS 0) (aD 0) (aQ 0) sW, wX7 (zcT C) aS sS, wX1 (zcT C) aD sD, wX4 (zcT C) aQ sQ, wX2 (zcT C) aR sR] 0 [(0, .ref (aO 0)), (1, .int x1)] [] := by
  unfold fX11_findCoordinate at h
  refine z_aload_n X dX11_findCoordinate_0 0 rfl ?_
  refine z_iload_n X dX11_findCoordinate_1 1 rfl ?_
  obtain ⟨o2, ho2, h⟩ := zbind_of h
  refine z_xcallVv (st := []) (ws2 := [wX11 (zcT C) aO (aP 0) (aX 0) (aL 0) (aW 0) (aV 0) (aF 0) (aK 0) (aZ 0) (aR 0) aN sO, wX5 (zcT C) aP sP, wX9 (zcT C) aW (aP 0) (aS 0) (aD 0) (aQ 0) sW, wX7 (zcT C) aS sS, wX1 (zcT C) aD sD, wX4 (zcT C) aQ sQ, wX2 (zcT C) aR sR]) X Y (metX11_demandVariable (zcl C) Y.2.2.2.2.1 (zcD C) (zcT C) aO aP aX aL aW aV aF aK aZ aR aN ho2) zmX11_demandVariable zw858 dX11_findCoordinate_2 0 0 12 rfl rfl rfl rfl [0, 1] rfl rfl [] rfl (by decide) trivial rfl rfl rfl (Nat.le_of_ble_eq_true rfl) rfl rfl ⟨Nat.le_of_ble_eq_true rfl, Nat.le_of_ble_eq_true rfl⟩ ⟨Nat.le_of_ble_eq_true rfl, Nat.le_of_ble_eq_true rfl⟩ (fun E2 hE2 => ?_) (fun r2 hr2 => ?_)
  · replace h := zsum_l h hE2
    cases h
    exact z_xoutv X Y hQ rfl [2, 3, 4, 5, 6] rfl (by decide) (by decide)
  replace h := zsum_r h hr2
  refine z_aload_n X dX11_findCoordinate_5 0 rfl ?_
  obtain ⟨o6, ho6, h⟩ := zbind_of h
  refine z_xcallVv (st := []) (ws2 := [wX11 (zcT C) aO (aP 0) (aX 0) (aL 0) (aW 0) (aV 0) (aF 0) (aK 0) (aZ 0) (aR 0) aN sO, wX5 (zcT C) aP sP, wX9 (zcT C) aW (aP 0) (aS 0) (aD 0) (aQ 0) o6.2.1, wX7 (zcT C) aS o6.2.2.1, wX1 (zcT C) aD o6.2.2.2.1, wX4 (zcT C) aQ o6.2.2.2.2, wX2 (zcT C) aR sR]) X Y (metX11_demandBest (zcl C) Y.2.2.2.2.1 (zcD C) (zcT C) aO aP aX aL aW aV aF aK aZ aR aS aD aQ aN ho6) zmX11_demandBest zw1120 dX11_findCoordinate_6 0 0 12 rfl rfl rfl rfl [0, 1, 2, 3, 4, 5] rfl rfl [2, 3, 4, 5] rfl (by decide) ⟨zsX9 , ⟨zsX7 , ⟨zsX1 , ⟨zsX4 , trivial⟩⟩⟩⟩ rfl rfl rfl (Nat.le_of_ble_eq_true rfl) rfl rfl ⟨Nat.le_of_ble_eq_true rfl, Nat.le_of_ble_eq_true rfl⟩ ⟨Nat.le_of_ble_eq_true rfl, Nat.le_of_ble_eq_true rfl⟩ (fun E6 hE6 => ?_) (fun r6 hr6 => ?_)
  · replace h := zsum_l h hE6
    cases h
    exact z_xoutv X Y hQ rfl [2, 3, 4, 5, 6] rfl (by decide) (by decide)
  replace h := zsum_r h hr6
  refine z_aload_n X dX11_findCoordinate_9 0 rfl ?_
  refine z_get (v := .ref (aR 0)) X 0 0 12 8 ziX11 rfl (by decide) zw381 rfl dX11_findCoordinate_10 rfl rfl rfl ?_
  refine z_aload_n X dX11_findCoordinate_13 0 rfl ?_
  refine z_get (v := .ref (aW 0)) X 0 0 12 3 ziX11 rfl (by decide) zw376 rfl dX11_findCoordinate_14 rfl rfl rfl ?_
  refine z_getN (v := .ref (aQ 0)) X 2 0 10 3 ziX9 rfl (by decide) zw245 rfl dX11_findCoordinate_17 rfl rfl rfl ?_
  refine z_iload_n X dX11_findCoordinate_20 1 rfl ?_
  obtain ⟨o21, ho21, h⟩ := zbind_of h
  refine z_callVl (st := [.ref (aR 0)]) (ws2 := [wX11 (zcT C) aO (aP 0) (aX 0) (aL 0) (aW 0) (aV 0) (aF 0) (aK 0) (aZ 0) (aR 0) aN sO, wX5 (zcT C) aP sP, wX9 (zcT C) aW (aP 0) (aS 0) (aD 0) (aQ 0) o6.2.1, wX7 (zcT C) aS o6.2.2.1, wX1 (zcT C) aD o6.2.2.2.1, wX4 (zcT C) aQ o6.2.2.2.2, wX2 (zcT C) aR sR]) X (metX4_topOf (zcl C) (zcD C) (zcT C) aQ ho21) zmX4_topOf zw1175 dX11_findCoordinate_21 5 0 5 rfl rfl rfl rfl [5] rfl rfl [] rfl (by decide) trivial rfl rfl rfl (Nat.le_of_ble_eq_true rfl) rfl rfl ⟨Nat.le_of_ble_eq_true rfl, Nat.le_of_ble_eq_true rfl⟩ ⟨Nat.le_of_ble_eq_true rfl, Nat.le_of_ble_eq_true rfl⟩ ?_
  refine z_aload_n X dX11_findCoordinate_24 0 rfl ?_
  refine z_get (v := .ref (aW 0)) X 0 0 12 3 ziX11 rfl (by decide) zw376 rfl dX11_findCoordinate_25 rfl rfl rfl ?_
  refine z_getN (v := .ref (aQ 0)) X 2 0 10 3 ziX9 rfl (by decide) zw245 rfl dX11_findCoordinate_28 rfl rfl rfl ?_
  refine z_getN (v := .long (zgl o6.2.2.2.2 1)) X 5 0 5 1 ziX4 rfl (by decide) zw223 rfl dX11_findCoordinate_31 rfl rfl rfl ?_
  obtain ⟨o34, ho34, h⟩ := zbind_of h
  refine z_callVv (st := []) (ws2 := [wX11 (zcT C) aO (aP 0) (aX 0) (aL 0) (aW 0) (aV 0) (aF 0) (aK 0) (aZ 0) (aR 0) aN sO, wX5 (zcT C) aP sP, wX9 (zcT C) aW (aP 0) (aS 0) (aD 0) (aQ 0) o6.2.1, wX7 (zcT C) aS o6.2.2.1, wX1 (zcT C) aD o6.2.2.2.1, wX4 (zcT C) aQ o6.2.2.2.2, wX2 (zcT C) aR o34]) X (metX2_put (zcl C) (zcD C) (zcT C) aR ho34) zmX2_put zw1099 dX11_findCoordinate_34 6 0 3 rfl rfl rfl rfl [6] rfl rfl [6] rfl (by decide) ⟨zsX2 , trivial⟩ rfl rfl rfl (Nat.le_of_ble_eq_true rfl) rfl rfl ⟨Nat.le_of_ble_eq_true rfl, Nat.le_of_ble_eq_true rfl⟩ ⟨Nat.le_of_ble_eq_true rfl, Nat.le_of_ble_eq_true rfl⟩ ?_
  cases h
  exact z_xvret X hQ dX11_findCoordinate_37 rfl [2, 3, 4, 5, 6] rfl (by decide) (by decide)
theorem metX11_findCoordinate (l : Launch) (hst : l.stackTraces = false) (D : va_G) (T : Nat → ClassId) (aO : Nat → Nat) (aP : Nat → Nat) (aX : Nat → Nat) (aL : Nat → Nat) (aW : Nat → Nat) (aV : Nat → Nat) (aF : Nat → Nat) (aK : Nat → Nat) (aZ : Nat → Nat) (aR : Nat → Nat) (aS : Nat → Nat) (aD : Nat → Nat) (aQ : Nat → Nat) (aN : Nat → Nat) {sO : zSt} {sP : zSt} {sW : zSt} {sS : zSt} {sD : zSt} {sQ : zSt} {sR : zSt} {x1 : Int32} {out : (String ⊕ Unit) × zSt × zSt × zSt × zSt × zSt} (hf : fX11_findCoordinate sO sP sW sS sD sQ sR x1 = some out) (base sz : Nat) : vx_Met l yX11_findCoordinate (zws yX11_findCoordinate cX11_findCoordinate 2 none) rmX11_findCoordinate (zPx D T [.ref (aO 0), .int x1] [wX11 T aO (aP 0) (aX 0) (aL 0) (aW 0) (aV 0) (aF 0) (aK 0) (aZ 0) (aR 0) aN sO, wX5 T aP sP, wX9 T aW (aP 0) (aS 0) (aD 0) (aQ 0) sW, wX7 T aS sS, wX1 T aD sD, wX4 T aQ sQ, wX2 T aR sR] [wX9 T aW (aP 0) (aS 0) (aD 0) (aQ 0) sW, wX7 T aS sS, wX1 T aD sD, wX4 T aQ sQ, wX2 T aR sR] base sz) (zQxv D out.1 [wX9 T aW (aP 0) (aS 0) (aD 0) (aQ 0) out.2.1, wX7 T aS out.2.2.1, wX1 T aD out.2.2.2.1, wX4 T aQ out.2.2.2.2.1, wX2 T aR out.2.2.2.2.2] (zA [wX9 T aW (aP 0) (aS 0) (aD 0) (aQ 0) sW, wX7 T aS sS, wX1 T aD sD, wX4 T aQ sQ, wX2 T aR sR] sz)) (zXxv D out.1 [wX9 T aW (aP 0) (aS 0) (aD 0) (aQ 0) out.2.1, wX7 T aS out.2.2.1, wX1 T aD out.2.2.2.1, wX4 T aQ out.2.2.2.2.1, wX2 T aR out.2.2.2.2.2] (zA [wX9 T aW (aP 0) (aS 0) (aD 0) (aQ 0) sW, wX7 T aS sS, wX1 T aD sD, wX4 T aQ sQ, wX2 T aR sR] sz)) 2 12 (zA [wX9 T aW (aP 0) (aS 0) (aD 0) (aQ 0) sW, wX7 T aS sS, wX1 T aD sD, wX4 T aQ sQ, wX2 T aR sR] sz) :=
  zMetXv hst (D := D) (T := T) (av := [.ref (aO 0), .int x1]) (ws := fun T => [wX11 T aO (aP 0) (aX 0) (aL 0) (aW 0) (aV 0) (aF 0) (aK 0) (aZ 0) (aR 0) aN sO, wX5 T aP sP, wX9 T aW (aP 0) (aS 0) (aD 0) (aQ 0) sW, wX7 T aS sS, wX1 T aD sD, wX4 T aQ sQ, wX2 T aR sR]) (wm := fun T => [wX9 T aW (aP 0) (aS 0) (aD 0) (aQ 0) sW, wX7 T aS sS, wX1 T aD sD, wX4 T aQ sQ, wX2 T aR sR]) (gm1 := fun T => [wX9 T aW (aP 0) (aS 0) (aD 0) (aQ 0) out.2.1, wX7 T aS out.2.2.1, wX1 T aD out.2.2.2.1, wX4 T aQ out.2.2.2.2.1, wX2 T aR out.2.2.2.2.2]) (o := out.1) (lv0 := [(0, .ref (aO 0)), (1, .int x1)]) [2, 3, 4, 5, 6] (by decide +kernel) rfl (Nat.le_of_ble_eq_true rfl) rfl (fun C base X Y hQ => bX11_findCoordinate_0 X Y hQ hf) base sz
/-- public long pointTop(int) throws java.lang.IndexOutOfBoundsException, java.util.NoSuchElementException; of Tableaufloor -/
abbrev rmX11_pointTop : Room := { frames := 8, cells := 2, slots := 12, locals := 168 }
def fX11_pointTop (sO : zSt) (sP : zSt) (sW : zSt) (sS : zSt) (sD : zSt) (sQ : zSt) (sR : zSt) (x1 : Int32) : Option ((String ⊕ Int64) × zSt × zSt × zSt × zSt × zSt) :=
  ((fX11_findCoordinate sO sP sW sS sD sQ sR x1).bind (fun o2 =>
    (Sum.elim (fun E2 => some (.inl E2, o2.2.1, o2.2.2.1, o2.2.2.2.1, o2.2.2.2.2.1, o2.2.2.2.2.2)) (fun r2 =>
    some (.inr (zgl o2.2.2.2.2.2 0), o2.2.1, o2.2.2.1, o2.2.2.2.1, o2.2.2.2.2.1, o2.2.2.2.2.2)) o2.1)))
theorem bX11_pointTop_0 {C : zCtx} (X : zFx C cX11_pointTop 2 RX11 rmX11_pointTop (some .long)) {base : Nat} (Y : zFy C base) {aO : Nat → Nat} {aP : Nat → Nat} {aX : Nat → Nat} {aL : Nat → Nat} {aW : Nat → Nat} {aV : Nat → Nat} {aF : Nat → Nat} {aK : Nat → Nat} {aZ : Nat → Nat} {aR : Nat → Nat} {aS : Nat → Nat} {aD : Nat → Nat} {aQ : Nat → Nat} {aN : Nat → Nat} {sO : zSt} {sP : zSt} {sW : zSt} {sS : zSt} {sD : zSt} {sQ : zSt} {sR : zSt} {x1 : Int32} {out : (String ⊕ Int64) × zSt × zSt × zSt × zSt × zSt} (hQ : zXl C out.1 [wX9 (zcT C) aW (aP 0) (aS 0) (aD 0) (aQ 0) out.2.1, wX7 (zcT C) aS out.2.2.1, wX1 (zcT C) aD out.2.2.2.1, wX4 (zcT C) aQ out.2.2.2.2.1, wX2 (zcT C) aR out.2.2.2.2.2] 2 12) (h : fX11_pointTop sO sP sW sS sD sQ sR x1 = some out) : zG C 2 [2, 3, 4, 5, 6] 0 0 [wX11 (zcT C) aO (aP 0) (aX 0) (aL 0) (aW 0) (aV 0) (aF 0) (aK 0) (aZ 0) (aR 0) aN sO, wX5 (zcT C) aP sP, wX9 (zcT C) aW (aP 0) (aS 0) (aD 0) (aQ 0) sW, wX7 (zcT C) aS sS, wX1 (zcT C) aD sD, wX4 (zcT C) aQ sQ, wX2 (zcT C) aR sR] 0 [(0, .ref (aO 0)), (1, .int x1)] [] := by
  unfold fX11_pointTop at h
  refine z_aload_n X dX11_pointTop_0 0 rfl ?_
  refine z_iload_n X dX11_pointTop_1 1 rfl ?_
  obtain ⟨o2, ho2, h⟩ := zbind_of h
  refine z_xcallVv (st := []) (ws2 := [wX11 (zcT C) aO (aP 0) (aX 0) (aL 0) (aW 0) (aV 0) (aF 0) (aK 0) (aZ 0) (aR 0) aN sO, wX5 (zcT C) aP sP, wX9 (zcT C) aW (aP 0) (aS 0) (aD 0) (aQ 0) o2.2.1, wX7 (zcT C) aS o2.2.2.1, wX1 (zcT C) aD o2.2.2.2.1, wX4 (zcT C) aQ o2.2.2.2.2.1, wX2 (zcT C) aR o2.2.2.2.2.2]) X Y (metX11_findCoordinate (zcl C) Y.2.2.2.2.1 (zcD C) (zcT C) aO aP aX aL aW aV aF aK aZ aR aS aD aQ aN ho2) zmX11_findCoordinate zw1171 dX11_pointTop_2 0 0 12 rfl rfl rfl rfl [0, 1, 2, 3, 4, 5, 6] rfl rfl [2, 3, 4, 5, 6] rfl (by decide) ⟨zsX9 , ⟨zsX7 , ⟨zsX1 , ⟨zsX4 , ⟨zsX2 , trivial⟩⟩⟩⟩⟩ rfl rfl rfl (Nat.le_of_ble_eq_true rfl) rfl rfl ⟨Nat.le_of_ble_eq_true rfl, Nat.le_of_ble_eq_true rfl⟩ ⟨Nat.le_of_ble_eq_true rfl, Nat.le_of_ble_eq_true rfl⟩ (fun E2 hE2 => ?_) (fun r2 hr2 => ?_)
  · replace h := zsum_l h hE2
    cases h
    exact z_xoutl X Y hQ rfl [2, 3, 4, 5, 6] rfl (by decide) (by decide)
  replace h := zsum_r h hr2
  refine z_aload_n X dX11_pointTop_5 0 rfl ?_
  refine z_get (v := .ref (aR 0)) X 0 0 12 8 ziX11 rfl (by decide) zw381 rfl dX11_pointTop_6 rfl rfl rfl ?_
  refine z_getN (v := .long (zgl o2.2.2.2.2.2 0)) X 6 0 3 0 ziX2 rfl (by decide) zw362 rfl dX11_pointTop_9 rfl rfl rfl ?_
  cases h
  exact z_xlret X hQ dX11_pointTop_12 rfl [2, 3, 4, 5, 6] rfl (by decide) (by decide)
theorem metX11_pointTop (l : Launch) (hst : l.stackTraces = false) (D : va_G) (T : Nat → ClassId) (aO : Nat → Nat) (aP : Nat → Nat) (aX : Nat → Nat) (aL : Nat → Nat) (aW : Nat → Nat) (aV : Nat → Nat) (aF : Nat → Nat) (aK : Nat → Nat) (aZ : Nat → Nat) (aR : Nat → Nat) (aS : Nat → Nat) (aD : Nat → Nat) (aQ : Nat → Nat) (aN : Nat → Nat) {sO : zSt} {sP : zSt} {sW : zSt} {sS : zSt} {sD : zSt} {sQ : zSt} {sR : zSt} {x1 : Int32} {out : (String ⊕ Int64) × zSt × zSt × zSt × zSt × zSt} (hf : fX11_pointTop sO sP sW sS sD sQ sR x1 = some out) (base sz : Nat) : vx_Met l yX11_pointTop (zws yX11_pointTop cX11_pointTop 2 (some .long)) rmX11_pointTop (zPx D T [.ref (aO 0), .int x1] [wX11 T aO (aP 0) (aX 0) (aL 0) (aW 0) (aV 0) (aF 0) (aK 0) (aZ 0) (aR 0) aN sO, wX5 T aP sP, wX9 T aW (aP 0) (aS 0) (aD 0) (aQ 0) sW, wX7 T aS sS, wX1 T aD sD, wX4 T aQ sQ, wX2 T aR sR] [wX9 T aW (aP 0) (aS 0) (aD 0) (aQ 0) sW, wX7 T aS sS, wX1 T aD sD, wX4 T aQ sQ, wX2 T aR sR] base sz) (zQxl D out.1 [wX9 T aW (aP 0) (aS 0) (aD 0) (aQ 0) out.2.1, wX7 T aS out.2.2.1, wX1 T aD out.2.2.2.1, wX4 T aQ out.2.2.2.2.1, wX2 T aR out.2.2.2.2.2] (zA [wX9 T aW (aP 0) (aS 0) (aD 0) (aQ 0) sW, wX7 T aS sS, wX1 T aD sD, wX4 T aQ sQ, wX2 T aR sR] sz)) (zXxl D out.1 [wX9 T aW (aP 0) (aS 0) (aD 0) (aQ 0) out.2.1, wX7 T aS out.2.2.1, wX1 T aD out.2.2.2.1, wX4 T aQ out.2.2.2.2.1, wX2 T aR out.2.2.2.2.2] (zA [wX9 T aW (aP 0) (aS 0) (aD 0) (aQ 0) sW, wX7 T aS sS, wX1 T aD sD, wX4 T aQ sQ, wX2 T aR sR] sz)) 2 12 (zA [wX9 T aW (aP 0) (aS 0) (aD 0) (aQ 0) sW, wX7 T aS sS, wX1 T aD sD, wX4 T aQ sQ, wX2 T aR sR] sz) :=
  zMetXl hst (D := D) (T := T) (av := [.ref (aO 0), .int x1]) (ws := fun T => [wX11 T aO (aP 0) (aX 0) (aL 0) (aW 0) (aV 0) (aF 0) (aK 0) (aZ 0) (aR 0) aN sO, wX5 T aP sP, wX9 T aW (aP 0) (aS 0) (aD 0) (aQ 0) sW, wX7 T aS sS, wX1 T aD sD, wX4 T aQ sQ, wX2 T aR sR]) (wm := fun T => [wX9 T aW (aP 0) (aS 0) (aD 0) (aQ 0) sW, wX7 T aS sS, wX1 T aD sD, wX4 T aQ sQ, wX2 T aR sR]) (gm1 := fun T => [wX9 T aW (aP 0) (aS 0) (aD 0) (aQ 0) out.2.1, wX7 T aS out.2.2.1, wX1 T aD out.2.2.2.1, wX4 T aQ out.2.2.2.2.1, wX2 T aR out.2.2.2.2.2]) (o := out.1) (lv0 := [(0, .ref (aO 0)), (1, .int x1)]) [2, 3, 4, 5, 6] (by decide +kernel) rfl (Nat.le_of_ble_eq_true rfl) rfl (fun C base X Y hQ => bX11_pointTop_0 X Y hQ hf) base sz
/-- public long pointBottom(int) throws java.lang.IndexOutOfBoundsException, java.util.NoSuchElementException; of Tableaufloor -/
abbrev rmX11_pointBottom : Room := { frames := 8, cells := 2, slots := 12, locals := 168 }
def fX11_pointBottom (sO : zSt) (sP : zSt) (sW : zSt) (sS : zSt) (sD : zSt) (sQ : zSt) (sR : zSt) (x1 : Int32) : Option ((String ⊕ Int64) × zSt × zSt × zSt × zSt × zSt) :=
  ((fX11_findCoordinate sO sP sW sS sD sQ sR x1).bind (fun o2 =>
    (Sum.elim (fun E2 => some (.inl E2, o2.2.1, o2.2.2.1, o2.2.2.2.1, o2.2.2.2.2.1, o2.2.2.2.2.2)) (fun r2 =>
    some (.inr (zgl o2.2.2.2.2.2 1), o2.2.1, o2.2.2.1, o2.2.2.2.1, o2.2.2.2.2.1, o2.2.2.2.2.2)) o2.1)))
theorem bX11_pointBottom_0 {C : zCtx} (X : zFx C cX11_pointBottom 2 RX11 rmX11_pointBottom (some .long)) {base : Nat} (Y : zFy C base) {aO : Nat → Nat} {aP : Nat → Nat} {aX : Nat → Nat} {aL : Nat → Nat} {aW : Nat → Nat} {aV : Nat → Nat} {aF : Nat → Nat} {aK : Nat → Nat} {aZ : Nat → Nat} {aR : Nat → Nat} {aS : Nat → Nat} {aD : Nat → Nat} {aQ : Nat → Nat} {aN : Nat → Nat} {sO : zSt} {sP : zSt} {sW : zSt} {sS : zSt} {sD : zSt} {sQ : zSt} {sR : zSt} {x1 : Int32} {out : (String ⊕ Int64) × zSt × zSt × zSt × zSt × zSt} (hQ : zXl C out.1 [wX9 (zcT C) aW (aP 0) (aS 0) (aD 0) (aQ 0) out.2.1, wX7 (zcT C) aS out.2.2.1, wX1 (zcT C) aD out.2.2.2.1, wX4 (zcT C) aQ out.2.2.2.2.1, wX2 (zcT C) aR out.2.2.2.2.2] 2 12) (h : fX11_pointBottom sO sP sW sS sD sQ sR x1 = some out) : zG C 2 [2, 3, 4, 5, 6] 0 0 [wX11 (zcT C) aO (aP 0) (aX 0) (aL 0) (aW 0) (aV 0) (aF 0) (aK 0) (aZ 0) (aR 0) aN sO, wX5 (zcT C) aP sP, wX9 (zcT C) aW (aP 0) (aS 0) (aD 0) (aQ 0) sW, wX7 (zcT C) aS sS, wX1 (zcT C) aD sD, wX4 (zcT C) aQ sQ, wX2 (zcT C) aR sR] 0 [(0, .ref (aO 0)), (1, .int x1)] [] := by
  unfold fX11_pointBottom at h
  refine z_aload_n X dX11_pointBottom_0 0 rfl ?_
  refine z_iload_n X dX11_pointBottom_1 1 rfl ?_
  obtain ⟨o2, ho2, h⟩ := zbind_of h
  refine z_xcallVv (st := []) (ws2 := [wX11 (zcT C) aO (aP 0) (aX 0) (aL 0) (aW 0) (aV 0) (aF 0) (aK 0) (aZ 0) (aR 0) aN sO, wX5 (zcT C) aP sP, wX9 (zcT C) aW (aP 0) (aS 0) (aD 0) (aQ 0) o2.2.1, wX7 (zcT C) aS o2.2.2.1, wX1 (zcT C) aD o2.2.2.2.1, wX4 (zcT C) aQ o2.2.2.2.2.1, wX2 (zcT C) aR o2.2.2.2.2.2]) X Y (metX11_findCoordinate (zcl C) Y.2.2.2.2.1 (zcD C) (zcT C) aO aP aX aL aW aV aF aK aZ aR aS aD aQ aN ho2) zmX11_findCoordinate zw1171 dX11_pointBottom_2 0 0 12 rfl rfl rfl rfl [0, 1, 2, 3, 4, 5, 6] rfl rfl [2, 3, 4, 5, 6] rfl (by decide) ⟨zsX9 , ⟨zsX7 , ⟨zsX1 , ⟨zsX4 , ⟨zsX2 , trivial⟩⟩⟩⟩⟩ rfl rfl rfl (Nat.le_of_ble_eq_true rfl) rfl rfl ⟨Nat.le_of_ble_eq_true rfl, Nat.le_of_ble_eq_true rfl⟩ ⟨Nat.le_of_ble_eq_true rfl, Nat.le_of_ble_eq_true rfl⟩ (fun E2 hE2 => ?_) (fun r2 hr2 => ?_)
  · replace h := zsum_l h hE2
    cases h
    exact z_xoutl X Y hQ rfl [2, 3, 4, 5, 6] rfl (by decide) (by decide)
  replace h := zsum_r h hr2
  refine z_aload_n X dX11_pointBottom_5 0 rfl ?_
  refine z_get (v := .ref (aR 0)) X 0 0 12 8 ziX11 rfl (by decide) zw381 rfl dX11_pointBottom_6 rfl rfl rfl ?_
  refine z_getN (v := .long (zgl o2.2.2.2.2.2 1)) X 6 0 3 1 ziX2 rfl (by decide) zw364 rfl dX11_pointBottom_9 rfl rfl rfl ?_
  cases h
  exact z_xlret X hQ dX11_pointBottom_12 rfl [2, 3, 4, 5, 6] rfl (by decide) (by decide)
theorem metX11_pointBottom (l : Launch) (hst : l.stackTraces = false) (D : va_G) (T : Nat → ClassId) (aO : Nat → Nat) (aP : Nat → Nat) (aX : Nat → Nat) (aL : Nat → Nat) (aW : Nat → Nat) (aV : Nat → Nat) (aF : Nat → Nat) (aK : Nat → Nat) (aZ : Nat → Nat) (aR : Nat → Nat) (aS : Nat → Nat) (aD : Nat → Nat) (aQ : Nat → Nat) (aN : Nat → Nat) {sO : zSt} {sP : zSt} {sW : zSt} {sS : zSt} {sD : zSt} {sQ : zSt} {sR : zSt} {x1 : Int32} {out : (String ⊕ Int64) × zSt × zSt × zSt × zSt × zSt} (hf : fX11_pointBottom sO sP sW sS sD sQ sR x1 = some out) (base sz : Nat) : vx_Met l yX11_pointBottom (zws yX11_pointBottom cX11_pointBottom 2 (some .long)) rmX11_pointBottom (zPx D T [.ref (aO 0), .int x1] [wX11 T aO (aP 0) (aX 0) (aL 0) (aW 0) (aV 0) (aF 0) (aK 0) (aZ 0) (aR 0) aN sO, wX5 T aP sP, wX9 T aW (aP 0) (aS 0) (aD 0) (aQ 0) sW, wX7 T aS sS, wX1 T aD sD, wX4 T aQ sQ, wX2 T aR sR] [wX9 T aW (aP 0) (aS 0) (aD 0) (aQ 0) sW, wX7 T aS sS, wX1 T aD sD, wX4 T aQ sQ, wX2 T aR sR] base sz) (zQxl D out.1 [wX9 T aW (aP 0) (aS 0) (aD 0) (aQ 0) out.2.1, wX7 T aS out.2.2.1, wX1 T aD out.2.2.2.1, wX4 T aQ out.2.2.2.2.1, wX2 T aR out.2.2.2.2.2] (zA [wX9 T aW (aP 0) (aS 0) (aD 0) (aQ 0) sW, wX7 T aS sS, wX1 T aD sD, wX4 T aQ sQ, wX2 T aR sR] sz)) (zXxl D out.1 [wX9 T aW (aP 0) (aS 0) (aD 0) (aQ 0) out.2.1, wX7 T aS out.2.2.1, wX1 T aD out.2.2.2.1, wX4 T aQ out.2.2.2.2.1, wX2 T aR out.2.2.2.2.2] (zA [wX9 T aW (aP 0) (aS 0) (aD 0) (aQ 0) sW, wX7 T aS sS, wX1 T aD sD, wX4 T aQ sQ, wX2 T aR sR] sz)) 2 12 (zA [wX9 T aW (aP 0) (aS 0) (aD 0) (aQ 0) sW, wX7 T aS sS, wX1 T aD sD, wX4 T aQ sQ, wX2 T aR sR] sz) :=
  zMetXl hst (D := D) (T := T) (av := [.ref (aO 0), .int x1]) (ws := fun T => [wX11 T aO (aP 0) (aX 0) (aL 0) (aW 0) (aV 0) (aF 0) (aK 0) (aZ 0) (aR 0) aN sO, wX5 T aP sP, wX9 T aW (aP 0) (aS 0) (aD 0) (aQ 0) sW, wX7 T aS sS, wX1 T aD sD, wX4 T aQ sQ, wX2 T aR sR]) (wm := fun T => [wX9 T aW (aP 0) (aS 0) (aD 0) (aQ 0) sW, wX7 T aS sS, wX1 T aD sD, wX4 T aQ sQ, wX2 T aR sR]) (gm1 := fun T => [wX9 T aW (aP 0) (aS 0) (aD 0) (aQ 0) out.2.1, wX7 T aS out.2.2.1, wX1 T aD out.2.2.2.1, wX4 T aQ out.2.2.2.2.1, wX2 T aR out.2.2.2.2.2]) (o := out.1) (lv0 := [(0, .ref (aO 0)), (1, .int x1)]) [2, 3, 4, 5, 6] (by decide +kernel) rfl (Nat.le_of_ble_eq_true rfl) rfl (fun C base X Y hQ => bX11_pointBottom_0 X Y hQ hf) base sz
/-- public boolean isTight(int) throws java.lang.IndexOutOfBoundsException, java.lang.IllegalStateException, java.util.NoSuchElementException; of Tableaufloor -/
abbrev rmX11_isTight : Room := { frames := 8, cells := 3, slots := 18, locals := 147 }
def fX11_isTight_32 (sO : zSt) (sP : zSt) (sW : zSt) (sS : zSt) (sD : zSt) (sQ : zSt) (y0 : Int32) : Option ((String ⊕ Int32) × zSt × zSt × zSt × zSt) :=
  (if znar .boolean y0 = true then
    some (.inr y0, sW, sS, sD, sQ) else none)
def fX11_isTight (sO : zSt) (sP : zSt) (sW : zSt) (sS : zSt) (sD : zSt) (sQ : zSt) (x1 : Int32) : Option ((String ⊕ Int32) × zSt × zSt × zSt × zSt) :=
  ((fX11_demandLiveRow sO sP x1).bind (fun o2 =>
    (Sum.elim (fun E2 => some (.inl E2, sW, sS, sD, sQ)) (fun r2 =>
    ((fX11_demandBest sO sP sW sS sD sQ).bind (fun o6 =>
    (Sum.elim (fun E6 => some (.inl E6, o6.2.1, o6.2.2.1, o6.2.2.2.1, o6.2.2.2.2)) (fun r6 =>
    ((fX5_sideOf sP o6.2.2.2.2 x1).bind (fun o21 =>
    (if o21 = 0 then
    (fX11_isTight_32 sO sP o6.2.1 o6.2.2.1 o6.2.2.2.1 o6.2.2.2.2 (1 : Int32))
  else
    (fX11_isTight_32 sO sP o6.2.1 o6.2.2.1 o6.2.2.2.1 o6.2.2.2.2 (0 : Int32)))))) o6.1)))) o2)))
theorem bX11_isTight_32 {C : zCtx} (X : zFx C cX11_isTight 2 RX11 rmX11_isTight (some .boolean)) {base : Nat} (Y : zFy C base) {aO : Nat → Nat} {aP : Nat → Nat} {aX : Nat → Nat} {aL : Nat → Nat} {aW : Nat → Nat} {aV : Nat → Nat} {aF : Nat → Nat} {aK : Nat → Nat} {aZ : Nat → Nat} {aR : Nat → Nat} {aS : Nat → Nat} {aD : Nat → Nat} {aQ : Nat → Nat} {aN : Nat → Nat} {sO : zSt} {sP : zSt} {sW : zSt} {sS : zSt} {sD : zSt} {sQ : zSt} {y0 : Int32} {out : (String ⊕ Int32) × zSt × zSt × zSt × zSt} (hQ : zXi C out.1 [wX9 (zcT C) aW (aP 0) (aS 0) (aD 0) (aQ 0) out.2.1, wX7 (zcT C) aS out.2.2.1, wX1 (zcT C) aD out.2.2.2.1, wX4 (zcT C) aQ out.2.2.2.2] 3 18) (h : fX11_isTight_32 sO sP sW sS sD sQ y0 = some out) : zG C 2 [2, 3, 4, 5] 3 18 [wX11 (zcT C) aO (aP 0) (aX 0) (aL 0) (aW 0) (aV 0) (aF 0) (aK 0) (aZ 0) (aR 0) aN sO, wX5 (zcT C) aP sP, wX9 (zcT C) aW (aP 0) (aS 0) (aD 0) (aQ 0) sW, wX7 (zcT C) aS sS, wX1 (zcT C) aD sD, wX4 (zcT C) aQ sQ] 32 [] [.int y0] := by
  unfold fX11_isTight_32 at h
  obtain ⟨g32, h⟩ := zgd_of h
  cases h
  exact z_xnret X hQ g32 dX11_isTight_32 rfl [2, 3, 4, 5] rfl (by decide) (by decide)
theorem bX11_isTight_0 {C : zCtx} (X : zFx C cX11_isTight 2 RX11 rmX11_isTight (some .boolean)) {base : Nat} (Y : zFy C base) {aO : Nat → Nat} {aP : Nat → Nat} {aX : Nat → Nat} {aL : Nat → Nat} {aW : Nat → Nat} {aV : Nat → Nat} {aF : Nat → Nat} {aK : Nat → Nat} {aZ : Nat → Nat} {aR : Nat → Nat} {aS : Nat → Nat} {aD : Nat → Nat} {aQ : Nat → Nat} {aN : Nat → Nat} {sO : zSt} {sP : zSt} {sW : zSt} {sS : zSt} {sD : zSt} {sQ : zSt} {x1 : Int32} {out : (String ⊕ Int32) × zSt × zSt × zSt × zSt} (hQ : zXi C out.1 [wX9 (zcT C) aW (aP 0) (aS 0) (aD 0) (aQ 0) out.2.1, wX7 (zcT C) aS out.2.2.1, wX1 (zcT C) aD out.2.2.2.1, wX4 (zcT C) aQ out.2.2.2.2] 3 18) (h : fX11_isTight sO sP sW sS sD sQ x1 = some out) : zG C 2 [2, 3, 4, 5] 0 0 [wX11 (zcT C) aO (aP 0) (aX 0) (aL 0) (aW 0) (aV 0) (aF 0) (aK 0) (aZ 0) (aR 0) aN sO, wX5 (zcT C) aP sP, wX9 (zcT C) aW (aP 0) (aS 0) (aD 0) (aQ 0) sW, wX7 (zcT C) aS sS, wX1 (zcT C) aD sD, wX4 (zcT C) aQ sQ] 0 [(0, .ref (aO 0)), (1, .int x1)] [] := by
  unfold fX11_isTight at h
  refine z_aload_n X dX11_isTight_0 0 rfl ?_
  refine z_iload_n X dX11_isTight_1 1 rfl ?_
  obtain ⟨o2, ho2, h⟩ := zbind_of h
  refine z_xcallVv (st := []) (ws2 := [wX11 (zcT C) aO (aP 0) (aX 0) (aL 0) (aW 0) (aV 0) (aF 0) (aK 0) (aZ 0) (aR 0) aN sO, wX5 (zcT C) aP sP, wX9 (zcT C) aW (aP 0) (aS 0) (aD 0) (aQ 0) sW, wX7 (zcT C) aS sS, wX1 (zcT C) aD sD, wX4 (zcT C) aQ sQ]) X Y (metX11_demandLiveRow (zcl C) Y.2.2.2.2.1 (zcD C) (zcT C) aO aP aX aL aW aV aF aK aZ aR aN ho2) zmX11_demandLiveRow zw990 dX11_isTight_2 0 0 12 rfl rfl rfl rfl [0, 1] rfl rfl [] rfl (by decide) trivial rfl rfl rfl (Nat.le_of_ble_eq_true rfl) rfl rfl ⟨Nat.le_of_ble_eq_true rfl, Nat.le_of_ble_eq_true rfl⟩ ⟨Nat.le_of_ble_eq_true rfl, Nat.le_of_ble_eq_true rfl⟩ (fun E2 hE2 => ?_) (fun r2 hr2 => ?_)
  · replace h := zsum_l h hE2
    cases h
    exact z_xouti X Y hQ rfl [2, 3, 4, 5] rfl (by decide) (by decide)
  replace h := zsum_r h hr2
  refine z_aload_n X dX11_isTight_5 0 rfl ?_
  obtain ⟨o6, ho6, h⟩ := zbind_of h
  refine z_xcallVv (st := []) (ws2 := [wX11 (zcT C) aO (aP 0) (aX 0) (aL 0) (aW 0) (aV 0) (aF 0) (aK 0) (aZ 0) (aR 0) aN sO, wX5 (zcT C) aP sP, wX9 (zcT C) aW (aP 0) (aS 0) (aD 0) (aQ 0) o6.2.1, wX7 (zcT C) aS o6.2.2.1, wX1 (zcT C) aD o6.2.2.2.1, wX4 (zcT C) aQ o6.2.2.2.2]) X Y (metX11_demandBest (zcl C) Y.2.2.2.2.1 (zcD C) (zcT C) aO aP aX aL aW aV aF aK aZ aR aS aD aQ aN ho6) zmX11_demandBest zw1120 dX11_isTight_6 0 0 12 rfl rfl rfl rfl [0, 1, 2, 3, 4, 5] rfl rfl [2, 3, 4, 5] rfl (by decide) ⟨zsX9 , ⟨zsX7 , ⟨zsX1 , ⟨zsX4 , trivial⟩⟩⟩⟩ rfl rfl rfl (Nat.le_of_ble_eq_true rfl) rfl rfl ⟨Nat.le_of_ble_eq_true rfl, Nat.le_of_ble_eq_true rfl⟩ ⟨Nat.le_of_ble_eq_true rfl, Nat.le_of_ble_eq_true rfl⟩ (fun E6 hE6 => ?_) (fun r6 hr6 => ?_)
  · replace h := zsum_l h hE6
    cases h
    exact z_xouti X Y hQ rfl [2, 3, 4, 5] rfl (by decide) (by decide)
  replace h := zsum_r h hr6
  refine z_aload_n X dX11_isTight_9 0 rfl ?_
  refine z_get (v := .ref (aP 0)) X 0 0 12 0 ziX11 rfl (by decide) zw373 rfl dX11_isTight_10 rfl rfl rfl ?_
  refine z_iload_n X dX11_isTight_13 1 rfl ?_
  refine z_aload_n X dX11_isTight_14 0 rfl ?_
  refine z_get (v := .ref (aW 0)) X 0 0 12 3 ziX11 rfl (by decide) zw376 rfl dX11_isTight_15 rfl rfl rfl ?_
  refine z_getN (v := .ref (aQ 0)) X 2 0 10 3 ziX9 rfl (by decide) zw245 rfl dX11_isTight_18 rfl rfl rfl ?_
  obtain ⟨o21, ho21, h⟩ := zbind_of h
  refine z_callVi (st := []) (ws2 := [wX11 (zcT C) aO (aP 0) (aX 0) (aL 0) (aW 0) (aV 0) (aF 0) (aK 0) (aZ 0) (aR 0) aN sO, wX5 (zcT C) aP sP, wX9 (zcT C) aW (aP 0) (aS 0) (aD 0) (aQ 0) o6.2.1, wX7 (zcT C) aS o6.2.2.1, wX1 (zcT C) aD o6.2.2.2.1, wX4 (zcT C) aQ o6.2.2.2.2]) X (metX5_sideOf (zcl C) (zcD C) (zcT C) aP aQ ho21) zmX5_sideOf zw1190 dX11_isTight_21 1 0 6 rfl rfl rfl rfl [1, 5] rfl rfl [] rfl (by decide) trivial rfl rfl rfl (Nat.le_of_ble_eq_true rfl) rfl rfl ⟨Nat.le_of_ble_eq_true rfl, Nat.le_of_ble_eq_true rfl⟩ ⟨Nat.le_of_ble_eq_true rfl, Nat.le_of_ble_eq_true rfl⟩ ?_
  refine z_if_ne (tgt := 31) X dX11_isTight_24 (by decide) (fun c24 => ?_) (fun c24 => ?_)
  · replace h := zif_f h c24
    refine z_iconst (v := (0 : Int32)) X dX11_isTight_31 rfl ?_
    exact z_wid (c2 := 3) (s2 := 18) (by decide) (by decide) <| z_at (pc2 := 32) (lv2 := []) (st2 := [.int (0 : Int32)]) (ws2 := [wX11 (zcT C) aO (aP 0) (aX 0) (aL 0) (aW 0) (aV 0) (aF 0) (aK 0) (aZ 0) (aR 0) aN sO, wX5 (zcT C) aP sP, wX9 (zcT C) aW (aP 0) (aS 0) (aD 0) (aQ 0) o6.2.1, wX7 (zcT C) aS o6.2.2.1, wX1 (zcT C) aD o6.2.2.2.1, wX4 (zcT C) aQ o6.2.2.2.2]) rfl rfl rfl [] rfl (bX11_isTight_32 X Y hQ  h)
  · replace h := zif_t h c24
    refine z_iconst (v := (1 : Int32)) X dX11_isTight_27 rfl ?_
    refine z_goto (tgt := 32) X dX11_isTight_28 (by decide) ?_
    exact z_wid (c2 := 3) (s2 := 18) (by decide) (by decide) <| z_at (pc2 := 32) (lv2 := []) (st2 := [.int (1 : Int32)]) (ws2 := [wX11 (zcT C) aO (aP 0) (aX 0) (aL 0) (aW 0) (aV 0) (aF 0) (aK 0) (aZ 0) (aR 0) aN sO, wX5 (zcT C) aP sP, wX9 (zcT C) aW (aP 0) (aS 0) (aD 0) (aQ 0) o6.2.1, wX7 (zcT C) aS o6.2.2.1, wX1 (zcT C) aD o6.2.2.2.1, wX4 (zcT C) aQ o6.2.2.2.2]) rfl rfl rfl [] rfl (bX11_isTight_32 X Y hQ  h)
theorem metX11_isTight (l : Launch) (hst : l.stackTraces = false) (D : va_G) (T : Nat → ClassId) (aO : Nat → Nat) (aP : Nat → Nat) (aX : Nat → Nat) (aL : Nat → Nat) (aW : Nat → Nat) (aV : Nat → Nat) (aF : Nat → Nat) (aK : Nat → Nat) (aZ : Nat → Nat) (aR : Nat → Nat) (aS : Nat → Nat) (aD : Nat → Nat) (aQ : Nat → Nat) (aN : Nat → Nat) {sO : zSt} {sP : zSt} {sW : zSt} {sS : zSt} {sD : zSt} {sQ : zSt} {x1 : Int32} {out : (String ⊕ Int32) × zSt × zSt × zSt × zSt} (hf : fX11_isTight sO sP sW sS sD sQ x1 = some out) (base sz : Nat) : vx_Met l yX11_isTight (zws yX11_isTight cX11_isTight 2 (some .boolean)) rmX11_isTight (zPx D T [.ref (aO 0), .int x1] [wX11 T aO (aP 0) (aX 0) (aL 0) (aW 0) (aV 0) (aF 0) (aK 0) (aZ 0) (aR 0) aN sO, wX5 T aP sP, wX9 T aW (aP 0) (aS 0) (aD 0) (aQ 0) sW, wX7 T aS sS, wX1 T aD sD, wX4 T aQ sQ] [wX9 T aW (aP 0) (aS 0) (aD 0) (aQ 0) sW, wX7 T aS sS, wX1 T aD sD, wX4 T aQ sQ] base sz) (zQxi D out.1 [wX9 T aW (aP 0) (aS 0) (aD 0) (aQ 0) out.2.1, wX7 T aS out.2.2.1, wX1 T aD out.2.2.2.1, wX4 T aQ out.2.2.2.2] (zA [wX9 T aW (aP 0) (aS 0) (aD 0) (aQ 0) sW, wX7 T aS sS, wX1 T aD sD, wX4 T aQ sQ] sz)) (zXxi D out.1 [wX9 T aW (aP 0) (aS 0) (aD 0) (aQ 0) out.2.1, wX7 T aS out.2.2.1, wX1 T aD out.2.2.2.1, wX4 T aQ out.2.2.2.2] (zA [wX9 T aW (aP 0) (aS 0) (aD 0) (aQ 0) sW, wX7 T aS sS, wX1 T aD sD, wX4 T aQ sQ] sz)) 3 18 (zA [wX9 T aW (aP 0) (aS 0) (aD 0) (aQ 0) sW, wX7 T aS sS, wX1 T aD sD, wX4 T aQ sQ] sz) :=
  zMetXi hst (D := D) (T := T) (av := [.ref (aO 0), .int x1]) (ws := fun T => [wX11 T aO (aP 0) (aX 0) (aL 0) (aW 0) (aV 0) (aF 0) (aK 0) (aZ 0) (aR 0) aN sO, wX5 T aP sP, wX9 T aW (aP 0) (aS 0) (aD 0) (aQ 0) sW, wX7 T aS sS, wX1 T aD sD, wX4 T aQ sQ]) (wm := fun T => [wX9 T aW (aP 0) (aS 0) (aD 0) (aQ 0) sW, wX7 T aS sS, wX1 T aD sD, wX4 T aQ sQ]) (gm1 := fun T => [wX9 T aW (aP 0) (aS 0) (aD 0) (aQ 0) out.2.1, wX7 T aS out.2.2.1, wX1 T aD out.2.2.2.1, wX4 T aQ out.2.2.2.2]) (o := out.1) (lv0 := [(0, .ref (aO 0)), (1, .int x1)]) [2, 3, 4, 5] (by decide +kernel) rfl (Nat.le_of_ble_eq_true rfl) rfl (fun C base X Y hQ => bX11_isTight_0 X Y hQ hf) base sz
/-- public int tight() throws java.util.NoSuchElementException; of Tableaufloor -/
abbrev rmX11_tight : Room := { frames := 7, cells := 1, slots := 6, locals := 147 }
def fX11_tight (sO : zSt) (sP : zSt) (sW : zSt) (sS : zSt) (sD : zSt) (sQ : zSt) : Option ((String ⊕ Int32) × zSt × zSt × zSt × zSt) :=
  ((fX11_demandBest sO sP sW sS sD sQ).bind (fun o1 =>
    (Sum.elim (fun E1 => some (.inl E1, o1.2.1, o1.2.2.1, o1.2.2.2.1, o1.2.2.2.2)) (fun r1 =>
    ((fX5_tightRows sP o1.2.2.2.2).bind (fun o15 =>
    ((fX5_tightBounds sP o1.2.2.2.2).bind (fun o29 =>
    some (.inr (o15 + o29), o1.2.1, o1.2.2.1, o1.2.2.2.1, o1.2.2.2.2)))))) o1.1)))
theorem bX11_tight_0 {C : zCtx} (X : zFx C cX11_tight 1 RX11 rmX11_tight (some .int)) {base : Nat} (Y : zFy C base) {aO : Nat → Nat} {aP : Nat → Nat} {aX : Nat → Nat} {aL : Nat → Nat} {aW : Nat → Nat} {aV : Nat → Nat} {aF : Nat → Nat} {aK : Nat → Nat} {aZ : Nat → Nat} {aR : Nat → Nat} {aS : Nat → Nat} {aD : Nat → Nat} {aQ : Nat → Nat} {aN : Nat → Nat} {sO : zSt} {sP : zSt} {sW : zSt} {sS : zSt} {sD : zSt} {sQ : zSt} {out : (String ⊕ Int32) × zSt × zSt × zSt × zSt} (hQ : zXi C out.1 [wX9 (zcT C) aW (aP 0) (aS 0) (aD 0) (aQ 0) out.2.1, wX7 (zcT C) aS out.2.2.1, wX1 (zcT C) aD out.2.2.2.1, wX4 (zcT C) aQ out.2.2.2.2] 1 6) (h : fX11_tight sO sP sW sS sD sQ = some out) : zG C 1 [2, 3, 4, 5] 0 0 [wX11 (zcT C) aO (aP 0) (aX 0) (aL 0) (aW 0) (aV 0) (aF 0) (aK 0) (aZ 0) (aR 0) aN sO, wX5 (zcT C) aP sP, wX9 (zcT C) aW (aP 0) (aS 0) (aD 0) (aQ 0) sW, wX7 (zcT C) aS sS, wX1 (zcT C) aD sD, wX4 (zcT C) aQ sQ] 0 [(0, .ref (aO 0))] [] := by
  unfold fX11_tight at h
  refine z_aload_n X dX11_tight_0 0 rfl ?_
  obtain ⟨o1, ho1, h⟩ := zbind_of h
  refine z_xcallVv (st := []) (ws2 := [wX11 (zcT C) aO (aP 0) (aX 0) (aL 0) (aW 0) (aV 0) (aF 0) (aK 0) (aZ 0) (aR 0) aN sO, wX5 (zcT C) aP sP, wX9 (zcT C) aW (aP 0) (aS 0) (aD 0) (aQ 0) o1.2.1, wX7 (zcT C) aS o1.2.2.1, wX1 (zcT C) aD o1.2.2.2.1, wX4 (zcT C) aQ o1.2.2.2.2]) X Y (metX11_demandBest (zcl C) Y.2.2.2.2.1 (zcD C) (zcT C) aO aP aX aL aW aV aF aK aZ aR aS aD aQ aN ho1) zmX11_demandBest zw1120 dX11_tight_1 0 0 12 rfl rfl rfl rfl [0, 1, 2, 3, 4, 5] rfl rfl [2, 3, 4, 5] rfl (by decide) ⟨zsX9 , ⟨zsX7 , ⟨zsX1 , ⟨zsX4 , trivial⟩⟩⟩⟩ rfl rfl rfl (Nat.le_of_ble_eq_true rfl) rfl rfl ⟨Nat.le_of_ble_eq_true rfl, Nat.le_of_ble_eq_true rfl⟩ ⟨Nat.le_of_ble_eq_true rfl, Nat.le_of_ble_eq_true rfl⟩ (fun E1 hE1 => ?_) (fun r1 hr1 => ?_)
  · replace h := zsum_l h hE1
    cases h
    exact z_xouti X Y hQ rfl [2, 3, 4, 5] rfl (by decide) (by decide)
  replace h := zsum_r h hr1
  refine z_aload_n X dX11_tight_4 0 rfl ?_
  refine z_get (v := .ref (aP 0)) X 0 0 12 0 ziX11 rfl (by decide) zw373 rfl dX11_tight_5 rfl rfl rfl ?_
  refine z_aload_n X dX11_tight_8 0 rfl ?_
  refine z_get (v := .ref (aW 0)) X 0 0 12 3 ziX11 rfl (by decide) zw376 rfl dX11_tight_9 rfl rfl rfl ?_
  refine z_getN (v := .ref (aQ 0)) X 2 0 10 3 ziX9 rfl (by decide) zw245 rfl dX11_tight_12 rfl rfl rfl ?_
  obtain ⟨o15, ho15, h⟩ := zbind_of h
  refine z_callVi (st := []) (ws2 := [wX11 (zcT C) aO (aP 0) (aX 0) (aL 0) (aW 0) (aV 0) (aF 0) (aK 0) (aZ 0) (aR 0) aN sO, wX5 (zcT C) aP sP, wX9 (zcT C) aW (aP 0) (aS 0) (aD 0) (aQ 0) o1.2.1, wX7 (zcT C) aS o1.2.2.1, wX1 (zcT C) aD o1.2.2.2.1, wX4 (zcT C) aQ o1.2.2.2.2]) X (metX5_tightRows (zcl C) (zcD C) (zcT C) aP aQ ho15) zmX5_tightRows zw1198 dX11_tight_15 1 0 6 rfl rfl rfl rfl [1, 5] rfl rfl [] rfl (by decide) trivial rfl rfl rfl (Nat.le_of_ble_eq_true rfl) rfl rfl ⟨Nat.le_of_ble_eq_true rfl, Nat.le_of_ble_eq_true rfl⟩ ⟨Nat.le_of_ble_eq_true rfl, Nat.le_of_ble_eq_true rfl⟩ ?_
  refine z_aload_n X dX11_tight_18 0 rfl ?_
  refine z_get (v := .ref (aP 0)) X 0 0 12 0 ziX11 rfl (by decide) zw373 rfl dX11_tight_19 rfl rfl rfl ?_
  refine z_aload_n X dX11_tight_22 0 rfl ?_
  refine z_get (v := .ref (aW 0)) X 0 0 12 3 ziX11 rfl (by decide) zw376 rfl dX11_tight_23 rfl rfl rfl ?_
  refine z_getN (v := .ref (aQ 0)) X 2 0 10 3 ziX9 rfl (by decide) zw245 rfl dX11_tight_26 rfl rfl rfl ?_
  obtain ⟨o29, ho29, h⟩ := zbind_of h
  refine z_callVi (st := [.int o15]) (ws2 := [wX11 (zcT C) aO (aP 0) (aX 0) (aL 0) (aW 0) (aV 0) (aF 0) (aK 0) (aZ 0) (aR 0) aN sO, wX5 (zcT C) aP sP, wX9 (zcT C) aW (aP 0) (aS 0) (aD 0) (aQ 0) o1.2.1, wX7 (zcT C) aS o1.2.2.1, wX1 (zcT C) aD o1.2.2.2.1, wX4 (zcT C) aQ o1.2.2.2.2]) X (metX5_tightBounds (zcl C) (zcD C) (zcT C) aP aQ ho29) zmX5_tightBounds zw1202 dX11_tight_29 1 0 6 rfl rfl rfl rfl [1, 5] rfl rfl [] rfl (by decide) trivial rfl rfl rfl (Nat.le_of_ble_eq_true rfl) rfl rfl ⟨Nat.le_of_ble_eq_true rfl, Nat.le_of_ble_eq_true rfl⟩ ⟨Nat.le_of_ble_eq_true rfl, Nat.le_of_ble_eq_true rfl⟩ ?_
  refine z_iadd X dX11_tight_32 ?_
  cases h
  exact z_xiret X hQ dX11_tight_33 rfl [2, 3, 4, 5] rfl (by decide) (by decide)
theorem metX11_tight (l : Launch) (hst : l.stackTraces = false) (D : va_G) (T : Nat → ClassId) (aO : Nat → Nat) (aP : Nat → Nat) (aX : Nat → Nat) (aL : Nat → Nat) (aW : Nat → Nat) (aV : Nat → Nat) (aF : Nat → Nat) (aK : Nat → Nat) (aZ : Nat → Nat) (aR : Nat → Nat) (aS : Nat → Nat) (aD : Nat → Nat) (aQ : Nat → Nat) (aN : Nat → Nat) {sO : zSt} {sP : zSt} {sW : zSt} {sS : zSt} {sD : zSt} {sQ : zSt} {out : (String ⊕ Int32) × zSt × zSt × zSt × zSt} (hf : fX11_tight sO sP sW sS sD sQ = some out) (base sz : Nat) : vx_Met l yX11_tight (zws yX11_tight cX11_tight 1 (some .int)) rmX11_tight (zPx D T [.ref (aO 0)] [wX11 T aO (aP 0) (aX 0) (aL 0) (aW 0) (aV 0) (aF 0) (aK 0) (aZ 0) (aR 0) aN sO, wX5 T aP sP, wX9 T aW (aP 0) (aS 0) (aD 0) (aQ 0) sW, wX7 T aS sS, wX1 T aD sD, wX4 T aQ sQ] [wX9 T aW (aP 0) (aS 0) (aD 0) (aQ 0) sW, wX7 T aS sS, wX1 T aD sD, wX4 T aQ sQ] base sz) (zQxi D out.1 [wX9 T aW (aP 0) (aS 0) (aD 0) (aQ 0) out.2.1, wX7 T aS out.2.2.1, wX1 T aD out.2.2.2.1, wX4 T aQ out.2.2.2.2] (zA [wX9 T aW (aP 0) (aS 0) (aD 0) (aQ 0) sW, wX7 T aS sS, wX1 T aD sD, wX4 T aQ sQ] sz)) (zXxi D out.1 [wX9 T aW (aP 0) (aS 0) (aD 0) (aQ 0) out.2.1, wX7 T aS out.2.2.1, wX1 T aD out.2.2.2.1, wX4 T aQ out.2.2.2.2] (zA [wX9 T aW (aP 0) (aS 0) (aD 0) (aQ 0) sW, wX7 T aS sS, wX1 T aD sD, wX4 T aQ sQ] sz)) 1 6 (zA [wX9 T aW (aP 0) (aS 0) (aD 0) (aQ 0) sW, wX7 T aS sS, wX1 T aD sD, wX4 T aQ sQ] sz) :=
  zMetXi hst (D := D) (T := T) (av := [.ref (aO 0)]) (ws := fun T => [wX11 T aO (aP 0) (aX 0) (aL 0) (aW 0) (aV 0) (aF 0) (aK 0) (aZ 0) (aR 0) aN sO, wX5 T aP sP, wX9 T aW (aP 0) (aS 0) (aD 0) (aQ 0) sW, wX7 T aS sS, wX1 T aD sD, wX4 T aQ sQ]) (wm := fun T => [wX9 T aW (aP 0) (aS 0) (aD 0) (aQ 0) sW, wX7 T aS sS, wX1 T aD sD, wX4 T aQ sQ]) (gm1 := fun T => [wX9 T aW (aP 0) (aS 0) (aD 0) (aQ 0) out.2.1, wX7 T aS out.2.2.1, wX1 T aD out.2.2.2.1, wX4 T aQ out.2.2.2.2]) (o := out.1) (lv0 := [(0, .ref (aO 0))]) [2, 3, 4, 5] (by decide +kernel) rfl (Nat.le_of_ble_eq_true rfl) rfl (fun C base X Y hQ => bX11_tight_0 X Y hQ hf) base sz
/-- public boolean isProved(); of Tableaufloor -/
abbrev rmX11_isProved : Room := { frames := 5, cells := 0, slots := 0, locals := 127 }
def fX11_isProved_32 (sO : zSt) (sP : zSt) (sW : zSt) (sS : zSt) (sD : zSt) (sQ : zSt) (sF : zSt) (y0 : Int32) : Option (Int32 × zSt × zSt × zSt × zSt × zSt) :=
  (if znar .boolean y0 = true then
    some (y0, sW, sS, sD, sQ, sF) else none)
def fX11_isProved_27 (sO : zSt) (sP : zSt) (sW : zSt) (sS : zSt) (sD : zSt) (sQ : zSt) (sF : zSt) : Option (Int32 × zSt × zSt × zSt × zSt × zSt) :=
  (fX11_isProved_32 sO sP sW sS sD sQ sF (1 : Int32))
def fX11_isProved (sO : zSt) (sP : zSt) (sW : zSt) (sS : zSt) (sD : zSt) (sQ : zSt) (sF : zSt) : Option (Int32 × zSt × zSt × zSt × zSt × zSt) :=
  ((fX9_findAll sW sP sS sD sQ).bind (fun o4 =>
    (if (zgi sP 11) = 0 then
    (fX11_isProved_27 sO sP o4.1 o4.2.1 o4.2.2.1 o4.2.2.2 sF)
  else
    ((fX6_isSound sF sP o4.1 o4.2.1 o4.2.2.1 o4.2.2.2).bind (fun o21 =>
      (if o21.1 = 0 then
      (fX11_isProved_32 sO sP o4.1 o4.2.1 o4.2.2.1 o4.2.2.2 o21.2 (0 : Int32))
    else
      (fX11_isProved_27 sO sP o4.1 o4.2.1 o4.2.2.1 o4.2.2.2 o21.2)))))))
theorem bX11_isProved_32 {C : zCtx} (X : zFx C cX11_isProved 1 RX11 rmX11_isProved (some .boolean)) {aO : Nat → Nat} {aP : Nat → Nat} {aX : Nat → Nat} {aL : Nat → Nat} {aW : Nat → Nat} {aV : Nat → Nat} {aF : Nat → Nat} {aK : Nat → Nat} {aZ : Nat → Nat} {aR : Nat → Nat} {aS : Nat → Nat} {aD : Nat → Nat} {aQ : Nat → Nat} {aN : Nat → Nat} {sO : zSt} {sP : zSt} {sW : zSt} {sS : zSt} {sD : zSt} {sQ : zSt} {sF : zSt} {y0 : Int32} {out : Int32 × zSt × zSt × zSt × zSt × zSt} (hQ : zHi C out.1 [wX9 (zcT C) aW (aP 0) (aS 0) (aD 0) (aQ 0) out.2.1, wX7 (zcT C) aS out.2.2.1, wX1 (zcT C) aD out.2.2.2.1, wX4 (zcT C) aQ out.2.2.2.2.1, wX6 (zcT C) aF (aP 0) (aW 0) out.2.2.2.2.2] 0 0) (h : fX11_isProved_32 sO sP sW sS sD sQ sF y0 = some out) : zG C 1 [2, 3, 4, 5, 6] 0 0 [wX11 (zcT C) aO (aP 0) (aX 0) (aL 0) (aW 0) (aV 0) (aF 0) (aK 0) (aZ 0) (aR 0) aN sO, wX5 (zcT C) aP sP, wX9 (zcT C) aW (aP 0) (aS 0) (aD 0) (aQ 0) sW, wX7 (zcT C) aS sS, wX1 (zcT C) aD sD, wX4 (zcT C) aQ sQ, wX6 (zcT C) aF (aP 0) (aW 0) sF] 32 [] [.int y0] := by
  unfold fX11_isProved_32 at h
  obtain ⟨g32, h⟩ := zgd_of h
  cases h
  exact z_nret X hQ g32 dX11_isProved_32 rfl [2, 3, 4, 5, 6] rfl (by decide) (by decide)
theorem bX11_isProved_27 {C : zCtx} (X : zFx C cX11_isProved 1 RX11 rmX11_isProved (some .boolean)) {aO : Nat → Nat} {aP : Nat → Nat} {aX : Nat → Nat} {aL : Nat → Nat} {aW : Nat → Nat} {aV : Nat → Nat} {aF : Nat → Nat} {aK : Nat → Nat} {aZ : Nat → Nat} {aR : Nat → Nat} {aS : Nat → Nat} {aD : Nat → Nat} {aQ : Nat → Nat} {aN : Nat → Nat} {sO : zSt} {sP : zSt} {sW : zSt} {sS : zSt} {sD : zSt} {sQ : zSt} {sF : zSt} {out : Int32 × zSt × zSt × zSt × zSt × zSt} (hQ : zHi C out.1 [wX9 (zcT C) aW (aP 0) (aS 0) (aD 0) (aQ 0) out.2.1, wX7 (zcT C) aS out.2.2.1, wX1 (zcT C) aD out.2.2.2.1, wX4 (zcT C) aQ out.2.2.2.2.1, wX6 (zcT C) aF (aP 0) (aW 0) out.2.2.2.2.2] 0 0) (h : fX11_isProved_27 sO sP sW sS sD sQ sF = some out) : zG C 1 [2, 3, 4, 5, 6] 0 0 [wX11 (zcT C) aO (aP 0) (aX 0) (aL 0) (aW 0) (aV 0) (aF 0) (aK 0) (aZ 0) (aR 0) aN sO, wX5 (zcT C) aP sP, wX9 (zcT C) aW (aP 0) (aS 0) (aD 0) (aQ 0) sW, wX7 (zcT C) aS sS, wX1 (zcT C) aD sD, wX4 (zcT C) aQ sQ, wX6 (zcT C) aF (aP 0) (aW 0) sF] 27 [] [] := by
  unfold fX11_isProved_27 at h
  refine z_iconst (v := (1 : Int32)) X dX11_isProved_27 rfl ?_
  refine z_goto (tgt := 32) X dX11_isProved_28 (by decide) ?_
  exact z_at (pc2 := 32) (lv2 := []) (st2 := [.int (1 : Int32)]) (ws2 := [wX11 (zcT C) aO (aP 0) (aX 0) (aL 0) (aW 0) (aV 0) (aF 0) (aK 0) (aZ 0) (aR 0) aN sO, wX5 (zcT C) aP sP, wX9 (zcT C) aW (aP 0) (aS 0) (aD 0) (aQ 0) sW, wX7 (zcT C) aS sS, wX1 (zcT C) aD sD, wX4 (zcT C) aQ sQ, wX6 (zcT C) aF (aP 0) (aW 0) sF]) rfl rfl rfl [] rfl (bX11_isProved_32 X hQ  h)
theorem bX11_isProved_0 {C : zCtx} (X : zFx C cX11_isProved 1 RX11 rmX11_isProved (some .boolean)) {aO : Nat → Nat} {aP : Nat → Nat} {aX : Nat → Nat} {aL : Nat → Nat} {aW : Nat → Nat} {aV : Nat → Nat} {aF : Nat → Nat} {aK : Nat → Nat} {aZ : Nat → Nat} {aR : Nat → Nat} {aS : Nat → Nat} {aD : Nat → Nat} {aQ : Nat → Nat} {aN : Nat → Nat} {sO : zSt} {sP : zSt} {sW : zSt} {sS : zSt} {sD : zSt} {sQ : zSt} {sF : zSt} {out : Int32 × zSt × zSt × zSt × zSt × zSt} (hQ : zHi C out.1 [wX9 (zcT C) aW (aP 0) (aS 0) (aD 0) (aQ 0) out.2.1, wX7 (zcT C) aS out.2.2.1, wX1 (zcT C) aD out.2.2.2.1, wX4 (zcT C) aQ out.2.2.2.2.1, wX6 (zcT C) aF (aP 0) (aW 0) out.2.2.2.2.2] 0 0) (h : fX11_isProved sO sP sW sS sD sQ sF = some out) : zG C 1 [2, 3, 4, 5, 6] 0 0 [wX11 (zcT C) aO (aP 0) (aX 0) (aL 0) (aW 0) (aV 0) (aF 0) (aK 0) (aZ 0) (aR 0) aN sO, wX5 (zcT C) aP sP, wX9 (zcT C) aW (aP 0) (aS 0) (aD 0) (aQ 0) sW, wX7 (zcT C) aS sS, wX1 (zcT C) aD sD, wX4 (zcT C) aQ sQ, wX6 (zcT C) aF (aP 0) (aW 0) sF] 0 [(0, .ref (aO 0))] [] := by
  unfold fX11_isProved at h
  refine z_aload_n X dX11_isProved_0 0 rfl ?_
  refine z_get (v := .ref (aW 0)) X 0 0 12 3 ziX11 rfl (by decide) zw376 rfl dX11_isProved_1 rfl rfl rfl ?_
  obtain ⟨o4, ho4, h⟩ := zbind_of h
  refine z_callVv (st := []) (ws2 := [wX11 (zcT C) aO (aP 0) (aX 0) (aL 0) (aW 0) (aV 0) (aF 0) (aK 0) (aZ 0) (aR 0) aN sO, wX5 (zcT C) aP sP, wX9 (zcT C) aW (aP 0) (aS 0) (aD 0) (aQ 0) o4.1, wX7 (zcT C) aS o4.2.1, wX1 (zcT C) aD o4.2.2.1, wX4 (zcT C) aQ o4.2.2.2, wX6 (zcT C) aF (aP 0) (aW 0) sF]) X (metX9_findAll (zcl C) (zcD C) (zcT C) aW aP aS aD aQ ho4) zmX9_findAll zw488 dX11_isProved_4 2 0 10 rfl rfl rfl rfl [2, 1, 3, 4, 5] rfl rfl [2, 3, 4, 5] rfl (by decide) ⟨zsX9 , ⟨zsX7 , ⟨zsX1 , ⟨zsX4 , trivial⟩⟩⟩⟩ rfl rfl rfl (Nat.le_of_ble_eq_true rfl) rfl rfl ⟨Nat.le_of_ble_eq_true rfl, Nat.le_of_ble_eq_true rfl⟩ ⟨Nat.le_of_ble_eq_true rfl, Nat.le_of_ble_eq_true rfl⟩ ?_
  refine z_aload_n X dX11_isProved_7 0 rfl ?_
  refine z_get (v := .ref (aP 0)) X 0 0 12 0 ziX11 rfl (by decide) zw373 rfl dX11_isProved_8 rfl rfl rfl ?_
  refine z_getN (v := .int (zgi sP 11)) X 1 0 6 11 ziX5 rfl (by decide) zw72 rfl dX11_isProved_11 rfl rfl rfl ?_
  refine z_if_eq (tgt := 27) X dX11_isProved_14 (by decide) (fun c14 => ?_) (fun c14 => ?_)
  · replace h := zif_t h c14
    exact z_at (pc2 := 27) (lv2 := []) (st2 := []) (ws2 := [wX11 (zcT C) aO (aP 0) (aX 0) (aL 0) (aW 0) (aV 0) (aF 0) (aK 0) (aZ 0) (aR 0) aN sO, wX5 (zcT C) aP sP, wX9 (zcT C) aW (aP 0) (aS 0) (aD 0) (aQ 0) o4.1, wX7 (zcT C) aS o4.2.1, wX1 (zcT C) aD o4.2.2.1, wX4 (zcT C) aQ o4.2.2.2, wX6 (zcT C) aF (aP 0) (aW 0) sF]) rfl rfl rfl [] rfl (bX11_isProved_27 X hQ  h)
  · replace h := zif_f h c14
    refine z_aload_n X dX11_isProved_17 0 rfl ?_
    refine z_get (v := .ref (aF 0)) X 0 0 12 5 ziX11 rfl (by decide) zw378 rfl dX11_isProved_18 rfl rfl rfl ?_
    obtain ⟨o21, ho21, h⟩ := zbind_of h
    refine z_callVi (st := []) (ws2 := [wX11 (zcT C) aO (aP 0) (aX 0) (aL 0) (aW 0) (aV 0) (aF 0) (aK 0) (aZ 0) (aR 0) aN sO, wX5 (zcT C) aP sP, wX9 (zcT C) aW (aP 0) (aS 0) (aD 0) (aQ 0) o4.1, wX7 (zcT C) aS o4.2.1, wX1 (zcT C) aD o4.2.2.1, wX4 (zcT C) aQ o4.2.2.2, wX6 (zcT C) aF (aP 0) (aW 0) o21.2]) X (metX6_isSound (zcl C) (zcD C) (zcT C) aF aP aW aS aD aQ ho21) zmX6_isSound zw662 dX11_isProved_21 6 0 7 rfl rfl rfl rfl [6, 1, 2, 3, 4, 5] rfl rfl [6] rfl (by decide) ⟨zsX6 , trivial⟩ rfl rfl rfl (Nat.le_of_ble_eq_true rfl) rfl rfl ⟨Nat.le_of_ble_eq_true rfl, Nat.le_of_ble_eq_true rfl⟩ ⟨Nat.le_of_ble_eq_true rfl, Nat.le_of_ble_eq_true rfl⟩ ?_
    refine z_if_eq (tgt := 31) X dX11_isProved_24 (by decide) (fun c24 => ?_) (fun c24 => ?_)
    · replace h := zif_t h c24
      refine z_iconst (v := (0 : Int32)) X dX11_isProved_31 rfl ?_
      exact z_at (pc2 := 32) (lv2 := []) (st2 := [.int (0 : Int32)]) (ws2 := [wX11 (zcT C) aO (aP 0) (aX 0) (aL 0) (aW 0) (aV 0) (aF 0) (aK 0) (aZ 0) (aR 0) aN sO, wX5 (zcT C) aP sP, wX9 (zcT C) aW (aP 0) (aS 0) (aD 0) (aQ 0) o4.1, wX7 (zcT C) aS o4.2.1, wX1 (zcT C) aD o4.2.2.1, wX4 (zcT C) aQ o4.2.2.2, wX6 (zcT C) aF (aP 0) (aW 0) o21.2]) rfl rfl rfl [] rfl (bX11_isProved_32 X hQ  h)
    · replace h := zif_f h c24
      exact z_at (pc2 := 27) (lv2 := []) (st2 := []) (ws2 := [wX11 (zcT C) aO (aP 0) (aX 0) (aL 0) (aW 0) (aV 0) (aF 0) (aK 0) (aZ 0) (aR 0) aN sO, wX5 (zcT C) aP sP, wX9 (zcT C) aW (aP 0) (aS 0) (aD 0) (aQ 0) o4.1, wX7 (zcT C) aS o4.2.1, wX1 (zcT C) aD o4.2.2.1, wX4 (zcT C) aQ o4.2.2.2, wX6 (zcT C) aF (aP 0) (aW 0) o21.2]) rfl rfl rfl [] rfl (bX11_isProved_27 X hQ  h)
theorem metX11_isProved (l : Launch) (D : va_G) (T : Nat → ClassId) (aO : Nat → Nat) (aP : Nat → Nat) (aX : Nat → Nat) (aL : Nat → Nat) (aW : Nat → Nat) (aV : Nat → Nat) (aF : Nat → Nat) (aK : Nat → Nat) (aZ : Nat → Nat) (aR : Nat → Nat) (aS : Nat → Nat) (aD : Nat → Nat) (aQ : Nat → Nat) (aN : Nat → Nat) {sO : zSt} {sP : zSt} {sW : zSt} {sS : zSt} {sD : zSt} {sQ : zSt} {sF : zSt} {out : Int32 × zSt × zSt × zSt × zSt × zSt} (hf : fX11_isProved sO sP sW sS sD sQ sF = some out) (sz : Nat) : Met l yX11_isProved (zws yX11_isProved cX11_isProved 1 (some .boolean)) rmX11_isProved (zPc D T [.ref (aO 0)] [wX11 T aO (aP 0) (aX 0) (aL 0) (aW 0) (aV 0) (aF 0) (aK 0) (aZ 0) (aR 0) aN sO, wX5 T aP sP, wX9 T aW (aP 0) (aS 0) (aD 0) (aQ 0) sW, wX7 T aS sS, wX1 T aD sD, wX4 T aQ sQ, wX6 T aF (aP 0) (aW 0) sF] sz) (zQi D out.1 [wX9 T aW (aP 0) (aS 0) (aD 0) (aQ 0) out.2.1, wX7 T aS out.2.2.1, wX1 T aD out.2.2.2.1, wX4 T aQ out.2.2.2.2.1, wX6 T aF (aP 0) (aW 0) out.2.2.2.2.2] (zA [wX9 T aW (aP 0) (aS 0) (aD 0) (aQ 0) sW, wX7 T aS sS, wX1 T aD sD, wX4 T aQ sQ, wX6 T aF (aP 0) (aW 0) sF] sz)) 0 0 (zA [wX9 T aW (aP 0) (aS 0) (aD 0) (aQ 0) sW, wX7 T aS sS, wX1 T aD sD, wX4 T aQ sQ, wX6 T aF (aP 0) (aW 0) sF] sz) :=
  zMet (D := D) (T := T) (av := [.ref (aO 0)]) (ws := fun T => [wX11 T aO (aP 0) (aX 0) (aL 0) (aW 0) (aV 0) (aF 0) (aK 0) (aZ 0) (aR 0) aN sO, wX5 T aP sP, wX9 T aW (aP 0) (aS 0) (aD 0) (aQ 0) sW, wX7 T aS sS, wX1 T aD sD, wX4 T aQ sQ, wX6 T aF (aP 0) (aW 0) sF]) (wm := fun T => [wX9 T aW (aP 0) (aS 0) (aD 0) (aQ 0) sW, wX7 T aS sS, wX1 T aD sD, wX4 T aQ sQ, wX6 T aF (aP 0) (aW 0) sF]) (lv0 := [(0, .ref (aO 0))]) [2, 3, 4, 5, 6] (Qc := fun D T A => zQi D out.1 [wX9 T aW (aP 0) (aS 0) (aD 0) (aQ 0) out.2.1, wX7 T aS out.2.2.1, wX1 T aD out.2.2.2.1, wX4 T aQ out.2.2.2.2.1, wX6 T aF (aP 0) (aW 0) out.2.2.2.2.2] A) (by decide +kernel) rfl (Nat.le_of_ble_eq_true rfl) rfl (fun C X hQ => bX11_isProved_0 X hQ hf) sz
/-- private void findWorth(int); of Tableaufloor -/
abbrev rmX11_findWorth : Room := { frames := 8, cells := 3, slots := 18, locals := 128 }
def fX11_findWorth_55 (sO : zSt) (sP : zSt) (sW : zSt) (sS : zSt) (sD : zSt) (sQ : zSt) (sV : zSt) (sSv : zSt) (sDv : zSt) (sQv : zSt) (sR : zSt) : Option ((String ⊕ Unit) × zSt × zSt × zSt × zSt × zSt × zSt × zSt × zSt × zSt) :=
  some (.inl "java/util/NoSuchElementException", sW, sS, sD, sQ, sV, sSv, sDv, sQv, sR)
def fX11_findWorth (sO : zSt) (sP : zSt) (sW : zSt) (sS : zSt) (sD : zSt) (sQ : zSt) (sV : zSt) (sSv : zSt) (sDv : zSt) (sQv : zSt) (sR : zSt) (x1 : Int32) : Option ((String ⊕ Unit) × zSt × zSt × zSt × zSt × zSt × zSt × zSt × zSt × zSt) :=
  ((fX11_demandLiveRow sO sP x1).bind (fun o2 =>
    (Sum.elim (fun E2 => some (.inl E2, sW, sS, sD, sQ, sV, sSv, sDv, sQv, sR)) (fun r2 =>
    (if (zgi sP 11) = 0 then
    some (.inl "java/lang/IllegalStateException", sW, sS, sD, sQ, sV, sSv, sDv, sQv, sR)
  else
    ((fX9_findAll sW sP sS sD sQ).bind (fun o30 =>
      ((fX9_hasValue o30.1 (0 : Int32)).bind (fun o38 =>
      (if o38 = 0 then
      (fX11_findWorth_55 sO sP o30.1 o30.2.1 o30.2.2.1 o30.2.2.2 sV sSv sDv sQv sR)
    else
      ((fX9_findsFirstValue sV sP sSv sDv sQv x1).bind (fun o49 =>
        (if o49.1 = 0 then
        (fX11_findWorth_55 sO sP o30.1 o30.2.1 o30.2.2.1 o30.2.2.2 o49.2.1 o49.2.2.1 o49.2.2.2.1 o49.2.2.2.2 sR)
      else
        ((fX5_aimSum sP o49.2.2.2.2 (0 : Int32)).bind (fun o92 =>
          ((fX5_aimSum sP o30.2.2.2 (0 : Int32)).bind (fun o106 =>
          ((fX2_put sR ((o92 * (zgl o30.2.2.2 1)) - (o106 * (zgl o49.2.2.2.2 1))) ((zgl o30.2.2.2 1) * (zgl o49.2.2.2.2 1))).bind (fun o124 =>
          some (.inr (), o30.1, o30.2.1, o30.2.2.1, o30.2.2.2, o49.2.1, o49.2.2.1, o49.2.2.2.1, o49.2.2.2.2, o124))))))))))))))))) o2)))
theorem bX11_findWorth_55 {C : zCtx} (X : zFx C cX11_findWorth 4 RX11 rmX11_findWorth none) {base : Nat} (Y : zFy C base) {aO : Nat → Nat} {aP : Nat → Nat} {aX : Nat → Nat} {aL : Nat → Nat} {aW : Nat → Nat} {aV : Nat → Nat} {aF : Nat → Nat} {aK : Nat → Nat} {aZ : Nat → Nat} {aR : Nat → Nat} {aS : Nat → Nat} {aD : Nat → Nat} {aQ : Nat → Nat} {aSv : Nat → Nat} {aDv : Nat → Nat} {aQv : Nat → Nat} {aN : Nat → Nat} {sO : zSt} {sP : zSt} {sW : zSt} {sS : zSt} {sD : zSt} {sQ : zSt} {sV : zSt} {sSv : zSt} {sDv : zSt} {sQv : zSt} {sR : zSt} {out : (String ⊕ Unit) × zSt × zSt × zSt × zSt × zSt × zSt × zSt × zSt × zSt} (hQ : zXv C out.1 [wX9 (zcT C) aW (aP 0) (aS 0) (aD 0) (aQ 0) out.2.1, wX7 (zcT C) aS out.2.2.1, wX1 (zcT C) aD out.2.2.2.1, wX4 (zcT C) aQ out.2.2.2.2.1, wX9 (zcT C) aV (aP 0) (aSv 0) (aDv 0) (aQv 0) out.2.2.2.2.2.1, wX7 (zcT C) aSv out.2.2.2.2.2.2.1, wX1 (zcT C) aDv out.2.2.2.2.2.2.2.1, wX4 (zcT C) aQv out.2.2.2.2.2.2.2.2.1, wX2 (zcT C) aR out.2.2.2.2.2.2.2.2.2] 3 18) (h : fX11_findWorth_55 sO sP sW sS sD sQ sV sSv sDv sQv sR = some out) : zG C 4 [2, 3, 4, 5, 6, 7, 8, 9, 10] 2 12 [wX11 (zcT C) aO (aP 0) (aX 0) (aL 0) (aW 0) (aV 0) (aF 0) (aK 0) (aZ 0) (aR 0) aN sO, wX5 (zcT C) aP sP, wX9 (zcT C) aW (aP 0) (aS 0) (aD 0) (aQ 0) sW, wX7 (zcT C) aS sS, wX1 (zcT C) aD sD, wX4 (zcT C) aQ sQ, wX9 (zcT C) aV (aP 0) (aSv 0) (aDv 0) (aQv 0) sV, wX7 (zcT C) aSv sSv, wX1 (zcT C) aDv sDv, wX4 (zcT C) aQv sQv, wX2 (zcT C) aR sR] 55 [] [] := by
  unfold fX11_findWorth_55 at h
  cases h
  exact z_throwNWv X Y hQ rfl zt_RX11_155 zs_1222 dX11_findWorth_55 dX11_findWorth_58 dX11_findWorth_59 dX11_findWorth_62 dX11_findWorth_65 [2, 3, 4, 5, 6, 7, 8, 9, 10] rfl (by decide) (by decide) (by decide) (by decide) (by decide) (by decide)
theorem bX11_findWorth_0 {C : zCtx} (X : zFx C cX11_findWorth 4 RX11 rmX11_findWorth none) {base : Nat} (Y : zFy C base) {aO : Nat → Nat} {aP : Nat → Nat} {aX : Nat → Nat} {aL : Nat → Nat} {aW : Nat → Nat} {aV : Nat → Nat} {aF : Nat → Nat} {aK : Nat → Nat} {aZ : Nat → Nat} {aR : Nat → Nat} {aS : Nat → Nat} {aD : Nat → Nat} {aQ : Nat → Nat} {aSv : Nat → Nat} {aDv : Nat → Nat} {aQv : Nat → Nat} {aN : Nat → Nat} {sO : zSt} {sP : zSt} {sW : zSt} {sS : zSt} {sD : zSt} {sQ : zSt} {sV : zSt} {sSv : zSt} {sDv : zSt} {sQv : zSt} {sR : zSt} {x1 : Int32} {out : (String ⊕ Unit) × zSt × zSt × zSt × zSt × zSt × zSt × zSt × zSt × zSt} (hQ : zXv C out.1 [wX9 (zcT C) aW (aP 0) (aS 0) (aD 0) (aQ 0) out.2.1, wX7 (zcT C) aS out.2.2.1, wX1 (zcT C) aD out.2.2.2.1, wX4 (zcT C) aQ out.2.2.2.2.1, wX9 (zcT C) aV (aP 0) (aSv 0) (aDv 0) (aQv 0) out.2.2.2.2.2.1, wX7 (zcT C) aSv out.2.2.2.2.2.2.1, wX1 (zcT C) aDv out.2.2.2.2.2.2.2.1, wX4 (zcT C) aQv out.2.2.2.2.2.2.2.2.1, wX2 (zcT C) aR out.2.2.2.2.2.2.2.2.2] 3 18) (h : fX11_findWorth sO sP sW sS sD sQ sV sSv sDv sQv sR x1 = some out) : zG C 4 [2, 3, 4, 5, 6, 7, 8, 9, 10] 0 0 [wX11 (zcT C) aO (aP 0) (aX 0) (aL 0) (aW 0) (aV 0) (aF 0) (aK 0) (aZ 0) (aR 0) aN sO, wX5 (zcT C) aP sP, wX9 (zcT C) aW (aP 0) (aS 0) (aD 0) (aQ 0) sW, wX7 (zcT C) aS sS, wX1 (zcT C) aD sD, wX4 (zcT C) aQ sQ, wX9 (zcT C) aV (aP 0) (aSv 0) (aDv 0) (aQv 0) sV, wX7 (zcT C) aSv sSv, wX1 (zcT C) aDv sDv, wX4 (zcT C) aQv sQv, wX2 (zcT C) aR sR] 0 [(0, .ref (aO 0)), (1, .int x1)] [] := by
  unfold fX11_findWorth at h
  refine z_aload_n X dX11_findWorth_0 0 rfl ?_
  refine z_iload_n X dX11_findWorth_1 1 rfl ?_
  obtain ⟨o2, ho2, h⟩ := zbind_of h
  refine z_xcallVv (st := []) (ws2 := [wX11 (zcT C) aO (aP 0) (aX 0) (aL 0) (aW 0) (aV 0) (aF 0) (aK 0) (aZ 0) (aR 0) aN sO, wX5 (zcT C) aP sP, wX9 (zcT C) aW (aP 0) (aS 0) (aD 0) (aQ 0) sW, wX7 (zcT C) aS sS, wX1 (zcT C) aD sD, wX4 (zcT C) aQ sQ, wX9 (zcT C) aV (aP 0) (aSv 0) (aDv 0) (aQv 0) sV, wX7 (zcT C) aSv sSv, wX1 (zcT C) aDv sDv, wX4 (zcT C) aQv sQv, wX2 (zcT C) aR sR]) X Y (metX11_demandLiveRow (zcl C) Y.2.2.2.2.1 (zcD C) (zcT C) aO aP aX aL aW aV aF aK aZ aR aN ho2) zmX11_demandLiveRow zw990 dX11_findWorth_2 0 0 12 rfl rfl rfl rfl [0, 1] rfl rfl [] rfl (by decide) trivial rfl rfl rfl (Nat.le_of_ble_eq_true rfl) rfl rfl ⟨Nat.le_of_ble_eq_true rfl, Nat.le_of_ble_eq_true rfl⟩ ⟨Nat.le_of_ble_eq_true rfl, Nat.le_of_ble_eq_true rfl⟩ (fun E2 hE2 => ?_) (fun r2 hr2 => ?_)
  · replace h := zsum_l h hE2
    cases h
    exact z_xoutv X Y hQ rfl [2, 3, 4, 5, 6, 7, 8, 9, 10] rfl (by decide) (by decide)
  replace h := zsum_r h hr2
  refine z_aload_n X dX11_findWorth_5 0 rfl ?_
  refine z_get (v := .ref (aP 0)) X 0 0 12 0 ziX11 rfl (by decide) zw373 rfl dX11_findWorth_6 rfl rfl rfl ?_
  refine z_getN (v := .int (zgi sP 11)) X 1 0 6 11 ziX5 rfl (by decide) zw72 rfl dX11_findWorth_9 rfl rfl rfl ?_
  refine z_if_ne (tgt := 26) X dX11_findWorth_12 (by decide) (fun c12 => ?_) (fun c12 => ?_)
  · replace h := zif_f h c12
    refine z_aload_n X dX11_findWorth_26 0 rfl ?_
    refine z_get (v := .ref (aW 0)) X 0 0 12 3 ziX11 rfl (by decide) zw376 rfl dX11_findWorth_27 rfl rfl rfl ?_
    obtain ⟨o30, ho30, h⟩ := zbind_of h
    refine z_callVv (st := []) (ws2 := [wX11 (zcT C) aO (aP 0) (aX 0) (aL 0) (aW 0) (aV 0) (aF 0) (aK 0) (aZ 0) (aR 0) aN sO, wX5 (zcT C) aP sP, wX9 (zcT C) aW (aP 0) (aS 0) (aD 0) (aQ 0) o30.1, wX7 (zcT C) aS o30.2.1, wX1 (zcT C) aD o30.2.2.1, wX4 (zcT C) aQ o30.2.2.2, wX9 (zcT C) aV (aP 0) (aSv 0) (aDv 0) (aQv 0) sV, wX7 (zcT C) aSv sSv, wX1 (zcT C) aDv sDv, wX4 (zcT C) aQv sQv, wX2 (zcT C) aR sR]) X (metX9_findAll (zcl C) (zcD C) (zcT C) aW aP aS aD aQ ho30) zmX9_findAll zw488 dX11_findWorth_30 2 0 10 rfl rfl rfl rfl [2, 1, 3, 4, 5] rfl rfl [2, 3, 4, 5] rfl (by decide) ⟨zsX9 , ⟨zsX7 , ⟨zsX1 , ⟨zsX4 , trivial⟩⟩⟩⟩ rfl rfl rfl (Nat.le_of_ble_eq_true rfl) rfl rfl ⟨Nat.le_of_ble_eq_true rfl, Nat.le_of_ble_eq_true rfl⟩ ⟨Nat.le_of_ble_eq_true rfl, Nat.le_of_ble_eq_true rfl⟩ ?_
    refine z_aload_n X dX11_findWorth_33 0 rfl ?_
    refine z_get (v := .ref (aW 0)) X 0 0 12 3 ziX11 rfl (by decide) zw376 rfl dX11_findWorth_34 rfl rfl rfl ?_
    refine z_iconst (v := (0 : Int32)) X dX11_findWorth_37 rfl ?_
    obtain ⟨o38, ho38, h⟩ := zbind_of h
    refine z_callVi (st := []) (ws2 := [wX11 (zcT C) aO (aP 0) (aX 0) (aL 0) (aW 0) (aV 0) (aF 0) (aK 0) (aZ 0) (aR 0) aN sO, wX5 (zcT C) aP sP, wX9 (zcT C) aW (aP 0) (aS 0) (aD 0) (aQ 0) o30.1, wX7 (zcT C) aS o30.2.1, wX1 (zcT C) aD o30.2.2.1, wX4 (zcT C) aQ o30.2.2.2, wX9 (zcT C) aV (aP 0) (aSv 0) (aDv 0) (aQv 0) sV, wX7 (zcT C) aSv sSv, wX1 (zcT C) aDv sDv, wX4 (zcT C) aQv sQv, wX2 (zcT C) aR sR]) X (metX9_hasValue (zcl C) (zcD C) (zcT C) aW aP aS aD aQ ho38) zmX9_hasValue zw1093 dX11_findWorth_38 2 0 10 rfl rfl rfl rfl [2] rfl rfl [] rfl (by decide) trivial rfl rfl rfl (Nat.le_of_ble_eq_true rfl) rfl rfl ⟨Nat.le_of_ble_eq_true rfl, Nat.le_of_ble_eq_true rfl⟩ ⟨Nat.le_of_ble_eq_true rfl, Nat.le_of_ble_eq_true rfl⟩ ?_
    refine z_if_eq (tgt := 55) X dX11_findWorth_41 (by decide) (fun c41 => ?_) (fun c41 => ?_)
    · replace h := zif_t h c41
      exact z_wid (c2 := 2) (s2 := 12) (by decide) (by decide) <| z_at (pc2 := 55) (lv2 := []) (st2 := []) (ws2 := [wX11 (zcT C) aO (aP 0) (aX 0) (aL 0) (aW 0) (aV 0) (aF 0) (aK 0) (aZ 0) (aR 0) aN sO, wX5 (zcT C) aP sP, wX9 (zcT C) aW (aP 0) (aS 0) (aD 0) (aQ 0) o30.1, wX7 (zcT C) aS o30.2.1, wX1 (zcT C) aD o30.2.2.1, wX4 (zcT C) aQ o30.2.2.2, wX9 (zcT C) aV (aP 0) (aSv 0) (aDv 0) (aQv 0) sV, wX7 (zcT C) aSv sSv, wX1 (zcT C) aDv sDv, wX4 (zcT C) aQv sQv, wX2 (zcT C) aR sR]) rfl rfl rfl [] rfl (bX11_findWorth_55 X Y hQ  h)
    · replace h := zif_f h c41
      refine z_aload_n X dX11_findWorth_44 0 rfl ?_
      refine z_get (v := .ref (aV 0)) X 0 0 12 4 ziX11 rfl (by decide) zw377 rfl dX11_findWorth_45 rfl rfl rfl ?_
      refine z_iload_n X dX11_findWorth_48 1 rfl ?_
      obtain ⟨o49, ho49, h⟩ := zbind_of h
      refine z_callVi (st := []) (ws2 := [wX11 (zcT C) aO (aP 0) (aX 0) (aL 0) (aW 0) (aV 0) (aF 0) (aK 0) (aZ 0) (aR 0) aN sO, wX5 (zcT C) aP sP, wX9 (zcT C) aW (aP 0) (aS 0) (aD 0) (aQ 0) o30.1, wX7 (zcT C) aS o30.2.1, wX1 (zcT C) aD o30.2.2.1, wX4 (zcT C) aQ o30.2.2.2, wX9 (zcT C) aV (aP 0) (aSv 0) (aDv 0) (aQv 0) o49.2.1, wX7 (zcT C) aSv o49.2.2.1, wX1 (zcT C) aDv o49.2.2.2.1, wX4 (zcT C) aQv o49.2.2.2.2, wX2 (zcT C) aR sR]) X (metX9_findsFirstValue (zcl C) (zcD C) (zcT C) aV aP aSv aDv aQv ho49) zmX9_findsFirstValue zw1218 dX11_findWorth_49 6 0 10 rfl rfl rfl rfl [6, 1, 7, 8, 9] rfl rfl [6, 7, 8, 9] rfl (by decide) ⟨zsX9 , ⟨zsX7 , ⟨zsX1 , ⟨zsX4 , trivial⟩⟩⟩⟩ rfl rfl rfl (Nat.le_of_ble_eq_true rfl) rfl rfl ⟨Nat.le_of_ble_eq_true rfl, Nat.le_of_ble_eq_true rfl⟩ ⟨Nat.le_of_ble_eq_true rfl, Nat.le_of_ble_eq_true rfl⟩ ?_
      refine z_if_ne (tgt := 66) X dX11_findWorth_52 (by decide) (fun c52 => ?_) (fun c52 => ?_)
      · replace h := zif_f h c52
        refine z_aload_n X dX11_findWorth_66 0 rfl ?_
        refine z_get (v := .ref (aW 0)) X 0 0 12 3 ziX11 rfl (by decide) zw376 rfl dX11_findWorth_67 rfl rfl rfl ?_
        refine z_getN (v := .ref (aQ 0)) X 2 0 10 3 ziX9 rfl (by decide) zw245 rfl dX11_findWorth_70 rfl rfl rfl ?_
        refine z_astore_n (lv2 := [(2, .ref (aQ 0)), (0, .ref (aO 0)), (1, .int x1)]) X dX11_findWorth_73 rfl (by decide) rfl ?_
        refine z_aload_n X dX11_findWorth_74 1 rfl ?_
        refine z_get (v := .ref (aV 0)) X 0 0 12 4 ziX11 rfl (by decide) zw377 rfl dX11_findWorth_75 rfl rfl rfl ?_
        refine z_getN (v := .ref (aQv 0)) X 6 0 10 3 ziX9 rfl (by decide) zw245 rfl dX11_findWorth_78 rfl rfl rfl ?_
        refine z_astore_n (lv2 := [(3, .ref (aQv 0)), (2, .ref (aQ 0)), (0, .ref (aO 0)), (1, .int x1)]) X dX11_findWorth_81 rfl (by decide) rfl ?_
        refine z_aload_n X dX11_findWorth_82 2 rfl ?_
        refine z_get (v := .ref (aR 0)) X 0 0 12 8 ziX11 rfl (by decide) zw381 rfl dX11_findWorth_83 rfl rfl rfl ?_
        refine z_aload_n X dX11_findWorth_86 2 rfl ?_
        refine z_get (v := .ref (aP 0)) X 0 0 12 0 ziX11 rfl (by decide) zw373 rfl dX11_findWorth_87 rfl rfl rfl ?_
        refine z_iconst (v := (0 : Int32)) X dX11_findWorth_90 rfl ?_
        refine z_aload_n X dX11_findWorth_91 0 rfl ?_
        obtain ⟨o92, ho92, h⟩ := zbind_of h
        refine z_callVl (st := [.ref (aR 0)]) (ws2 := [wX11 (zcT C) aO (aP 0) (aX 0) (aL 0) (aW 0) (aV 0) (aF 0) (aK 0) (aZ 0) (aR 0) aN sO, wX5 (zcT C) aP sP, wX9 (zcT C) aW (aP 0) (aS 0) (aD 0) (aQ 0) o30.1, wX7 (zcT C) aS o30.2.1, wX1 (zcT C) aD o30.2.2.1, wX4 (zcT C) aQ o30.2.2.2, wX9 (zcT C) aV (aP 0) (aSv 0) (aDv 0) (aQv 0) o49.2.1, wX7 (zcT C) aSv o49.2.2.1, wX1 (zcT C) aDv o49.2.2.2.1, wX4 (zcT C) aQv o49.2.2.2.2, wX2 (zcT C) aR sR]) X (metX5_aimSum (zcl C) (zcD C) (zcT C) aP aQv ho92) zmX5_aimSum zw1098 dX11_findWorth_92 1 0 6 rfl rfl rfl rfl [1, 9] rfl rfl [] rfl (by decide) trivial rfl rfl rfl (Nat.le_of_ble_eq_true rfl) rfl rfl ⟨Nat.le_of_ble_eq_true rfl, Nat.le_of_ble_eq_true rfl⟩ ⟨Nat.le_of_ble_eq_true rfl, Nat.le_of_ble_eq_true rfl⟩ ?_
        refine z_aload_n X dX11_findWorth_95 1 rfl ?_
        refine z_getN (v := .long (zgl o30.2.2.2 1)) X 5 0 5 1 ziX4 rfl (by decide) zw223 rfl dX11_findWorth_96 rfl rfl rfl ?_
        refine z_lmul X dX11_findWorth_99 ?_
        refine z_aload_n X dX11_findWorth_100 2 rfl ?_
        refine z_get (v := .ref (aP 0)) X 0 0 12 0 ziX11 rfl (by decide) zw373 rfl dX11_findWorth_101 rfl rfl rfl ?_
        refine z_iconst (v := (0 : Int32)) X dX11_findWorth_104 rfl ?_
        refine z_aload_n X dX11_findWorth_105 1 rfl ?_
        obtain ⟨o106, ho106, h⟩ := zbind_of h
        refine z_callVl (st := [.long (o92 * (zgl o30.2.2.2 1)), .ref (aR 0)]) (ws2 := [wX11 (zcT C) aO (aP 0) (aX 0) (aL 0) (aW 0) (aV 0) (aF 0) (aK 0) (aZ 0) (aR 0) aN sO, wX5 (zcT C) aP sP, wX9 (zcT C) aW (aP 0) (aS 0) (aD 0) (aQ 0) o30.1, wX7 (zcT C) aS o30.2.1, wX1 (zcT C) aD o30.2.2.1, wX4 (zcT C) aQ o30.2.2.2, wX9 (zcT C) aV (aP 0) (aSv 0) (aDv 0) (aQv 0) o49.2.1, wX7 (zcT C) aSv o49.2.2.1, wX1 (zcT C) aDv o49.2.2.2.1, wX4 (zcT C) aQv o49.2.2.2.2, wX2 (zcT C) aR sR]) X (metX5_aimSum (zcl C) (zcD C) (zcT C) aP aQ ho106) zmX5_aimSum zw1098 dX11_findWorth_106 1 0 6 rfl rfl rfl rfl [1, 5] rfl rfl [] rfl (by decide) trivial rfl rfl rfl (Nat.le_of_ble_eq_true rfl) rfl rfl ⟨Nat.le_of_ble_eq_true rfl, Nat.le_of_ble_eq_true rfl⟩ ⟨Nat.le_of_ble_eq_true rfl, Nat.le_of_ble_eq_true rfl⟩ ?_
        refine z_aload_n X dX11_findWorth_109 0 rfl ?_
        refine z_getN (v := .long (zgl o49.2.2.2.2 1)) X 9 0 5 1 ziX4 rfl (by decide) zw223 rfl dX11_findWorth_110 rfl rfl rfl ?_
        refine z_lmul X dX11_findWorth_113 ?_
        refine z_lsub X dX11_findWorth_114 ?_
        refine z_aload_n X dX11_findWorth_115 1 rfl ?_
        refine z_getN (v := .long (zgl o30.2.2.2 1)) X 5 0 5 1 ziX4 rfl (by decide) zw223 rfl dX11_findWorth_116 rfl rfl rfl ?_
        refine z_aload_n X dX11_findWorth_119 0 rfl ?_
        refine z_getN (v := .long (zgl o49.2.2.2.2 1)) X 9 0 5 1 ziX4 rfl (by decide) zw223 rfl dX11_findWorth_120 rfl rfl rfl ?_
        refine z_lmul X dX11_findWorth_123 ?_
        obtain ⟨o124, ho124, h⟩ := zbind_of h
        refine z_callVv (st := []) (ws2 := [wX11 (zcT C) aO (aP 0) (aX 0) (aL 0) (aW 0) (aV 0) (aF 0) (aK 0) (aZ 0) (aR 0) aN sO, wX5 (zcT C) aP sP, wX9 (zcT C) aW (aP 0) (aS 0) (aD 0) (aQ 0) o30.1, wX7 (zcT C) aS o30.2.1, wX1 (zcT C) aD o30.2.2.1, wX4 (zcT C) aQ o30.2.2.2, wX9 (zcT C) aV (aP 0) (aSv 0) (aDv 0) (aQv 0) o49.2.1, wX7 (zcT C) aSv o49.2.2.1, wX1 (zcT C) aDv o49.2.2.2.1, wX4 (zcT C) aQv o49.2.2.2.2, wX2 (zcT C) aR o124]) X (metX2_put (zcl C) (zcD C) (zcT C) aR ho124) zmX2_put zw1099 dX11_findWorth_124 10 0 3 rfl rfl rfl rfl [10] rfl rfl [10] rfl (by decide) ⟨zsX2 , trivial⟩ rfl rfl rfl (Nat.le_of_ble_eq_true rfl) rfl rfl ⟨Nat.le_of_ble_eq_true rfl, Nat.le_of_ble_eq_true rfl⟩ ⟨Nat.le_of_ble_eq_true rfl, Nat.le_of_ble_eq_true rfl⟩ ?_
        cases h
        exact z_xvret X hQ dX11_findWorth_127 rfl [2, 3, 4, 5, 6, 7, 8, 9, 10] rfl (by decide) (by decide)
      · replace h := zif_t h c52
        exact z_wid (c2 := 2) (s2 := 12) (by decide) (by decide) <| z_at (pc2 := 55) (lv2 := []) (st2 := []) (ws2 := [wX11 (zcT C) aO (aP 0) (aX 0) (aL 0) (aW 0) (aV 0) (aF 0) (aK 0) (aZ 0) (aR 0) aN sO, wX5 (zcT C) aP sP, wX9 (zcT C) aW (aP 0) (aS 0) (aD 0) (aQ 0) o30.1, wX7 (zcT C) aS o30.2.1, wX1 (zcT C) aD o30.2.2.1, wX4 (zcT C) aQ o30.2.2.2, wX9 (zcT C) aV (aP 0) (aSv 0) (aDv 0) (aQv 0) o49.2.1, wX7 (zcT C) aSv o49.2.2.1, wX1 (zcT C) aDv o49.2.2.2.1, wX4 (zcT C) aQv o49.2.2.2.2, wX2 (zcT C) aR sR]) rfl rfl rfl [] rfl (bX11_findWorth_55 X Y hQ  h)
  · replace h := zif_t h c12
    cases h
    exact z_throwWv X Y hQ rfl zt_RX11_98 zs_1217 dX11_findWorth_15 dX11_findWorth_18 dX11_findWorth_19 dX11_findWorth_22 dX11_findWorth_25 [2, 3, 4, 5, 6, 7, 8, 9, 10] rfl (by decide) (by decide) (by decide) (by decide) (by decide) (by decide)
theorem metX11_findWorth (l : Launch) (hst : l.stackTraces = false) (D : va_G) (T : Nat → ClassId) (aO : Nat → Nat) (aP : Nat → Nat) (aX : Nat → Nat) (aL : Nat → Nat) (aW : Nat → Nat) (aV : Nat → Nat) (aF : Nat → Nat) (aK : Nat → Nat) (aZ : Nat → Nat) (aR : Nat → Nat) (aS : Nat → Nat) (aD : Nat → Nat) (aQ : Nat → Nat) (aSv : Nat → Nat) (aDv : Nat → Nat) (aQv : Nat → Nat) (aN : Nat → Nat) {sO : zSt} {sP : zSt} {sW : zSt} {sS : zSt} {sD : zSt} {sQ : zSt} {sV : zSt} {sSv : zSt} {sDv : zSt} {sQv : zSt} {sR : zSt} {x1 : Int32} {out : (String ⊕ Unit) × zSt × zSt × zSt × zSt × zSt × zSt × zSt × zSt × zSt} (hf : fX11_findWorth sO sP sW sS sD sQ sV sSv sDv sQv sR x1 = some out) (base sz : Nat) : vx_Met l yX11_findWorth (zws yX11_findWorth cX11_findWorth 4 none) rmX11_findWorth (zPx D T [.ref (aO 0), .int x1] [wX11 T aO (aP 0) (aX 0) (aL 0) (aW 0) (aV 0) (aF 0) (aK 0) (aZ 0) (aR 0) aN sO, wX5 T aP sP, wX9 T aW (aP 0) (aS 0) (aD 0) (aQ 0) sW, wX7 T aS sS, wX1 T aD sD, wX4 T aQ sQ, wX9 T aV (aP 0) (aSv 0) (aDv 0) (aQv 0) sV, wX7 T aSv sSv, wX1 T aDv sDv, wX4 T aQv sQv, wX2 T aR sR] [wX9 T aW (aP 0) (aS 0) (aD 0) (aQ 0) sW, wX7 T aS sS, wX1 T aD sD, wX4 T aQ sQ, wX9 T aV (aP 0) (aSv 0) (aDv 0) (aQv 0) sV, wX7 T aSv sSv, wX1 T aDv sDv, wX4 T aQv sQv, wX2 T aR sR] base sz) (zQxv D out.1 [wX9 T aW (aP 0) (aS 0) (aD 0) (aQ 0) out.2.1, wX7 T aS out.2.2.1, wX1 T aD out.2.2.2.1, wX4 T aQ out.2.2.2.2.1, wX9 T aV (aP 0) (aSv 0) (aDv 0) (aQv 0) out.2.2.2.2.2.1, wX7 T aSv out.2.2.2.2.2.2.1, wX1 T aDv out.2.2.2.2.2.2.2.1, wX4 T aQv out.2.2.2.2.2.2.2.2.1, wX2 T aR out.2.2.2.2.2.2.2.2.2] (zA [wX9 T aW (aP 0) (aS 0) (aD 0) (aQ 0) sW, wX7 T aS sS, wX1 T aD sD, wX4 T aQ sQ, wX9 T aV (aP 0) (aSv 0) (aDv 0) (aQv 0) sV, wX7 T aSv sSv, wX1 T aDv sDv, wX4 T aQv sQv, wX2 T aR sR] sz)) (zXxv D out.1 [wX9 T aW (aP 0) (aS 0) (aD 0) (aQ 0) out.2.1, wX7 T aS out.2.2.1, wX1 T aD out.2.2.2.1, wX4 T aQ out.2.2.2.2.1, wX9 T aV (aP 0) (aSv 0) (aDv 0) (aQv 0) out.2.2.2.2.2.1, wX7 T aSv out.2.2.2.2.2.2.1, wX1 T aDv out.2.2.2.2.2.2.2.1, wX4 T aQv out.2.2.2.2.2.2.2.2.1, wX2 T aR out.2.2.2.2.2.2.2.2.2] (zA [wX9 T aW (aP 0) (aS 0) (aD 0) (aQ 0) sW, wX7 T aS sS, wX1 T aD sD, wX4 T aQ sQ, wX9 T aV (aP 0) (aSv 0) (aDv 0) (aQv 0) sV, wX7 T aSv sSv, wX1 T aDv sDv, wX4 T aQv sQv, wX2 T aR sR] sz)) 3 18 (zA [wX9 T aW (aP 0) (aS 0) (aD 0) (aQ 0) sW, wX7 T aS sS, wX1 T aD sD, wX4 T aQ sQ, wX9 T aV (aP 0) (aSv 0) (aDv 0) (aQv 0) sV, wX7 T aSv sSv, wX1 T aDv sDv, wX4 T aQv sQv, wX2 T aR sR] sz) :=
  zMetXv hst (D := D) (T := T) (av := [.ref (aO 0), .int x1]) (ws := fun T => [wX11 T aO (aP 0) (aX 0) (aL 0) (aW 0) (aV 0) (aF 0) (aK 0) (aZ 0) (aR 0) aN sO, wX5 T aP sP, wX9 T aW (aP 0) (aS 0) (aD 0) (aQ 0) sW, wX7 T aS sS, wX1 T aD sD, wX4 T aQ sQ, wX9 T aV (aP 0) (aSv 0) (aDv 0) (aQv 0) sV, wX7 T aSv sSv, wX1 T aDv sDv, wX4 T aQv sQv, wX2 T aR sR]) (wm := fun T => [wX9 T aW (aP 0) (aS 0) (aD 0) (aQ 0) sW, wX7 T aS sS, wX1 T aD sD, wX4 T aQ sQ, wX9 T aV (aP 0) (aSv 0) (aDv 0) (aQv 0) sV, wX7 T aSv sSv, wX1 T aDv sDv, wX4 T aQv sQv, wX2 T aR sR]) (gm1 := fun T => [wX9 T aW (aP 0) (aS 0) (aD 0) (aQ 0) out.2.1, wX7 T aS out.2.2.1, wX1 T aD out.2.2.2.1, wX4 T aQ out.2.2.2.2.1, wX9 T aV (aP 0) (aSv 0) (aDv 0) (aQv 0) out.2.2.2.2.2.1, wX7 T aSv out.2.2.2.2.2.2.1, wX1 T aDv out.2.2.2.2.2.2.2.1, wX4 T aQv out.2.2.2.2.2.2.2.2.1, wX2 T aR out.2.2.2.2.2.2.2.2.2]) (o := out.1) (lv0 := [(0, .ref (aO 0)), (1, .int x1)]) [2, 3, 4, 5, 6, 7, 8, 9, 10] (by decide +kernel) rfl (Nat.le_of_ble_eq_true rfl) rfl (fun C base X Y hQ => bX11_findWorth_0 X Y hQ hf) base sz
/-- public long worthTop(int) throws java.lang.IndexOutOfBoundsException, java.lang.IllegalStateException, java.util.NoSuchElementException; of Tableaufloor -/
abbrev rmX11_worthTop : Room := { frames := 9, cells := 3, slots := 18, locals := 151 }
def fX11_worthTop (sO : zSt) (sP : zSt) (sW : zSt) (sS : zSt) (sD : zSt) (sQ : zSt) (sV : zSt) (sSv : zSt) (sDv : zSt) (sQv : zSt) (sR : zSt) (x1 : Int32) : Option ((String ⊕ Int64) × zSt × zSt × zSt × zSt × zSt × zSt × zSt × zSt × zSt) :=
  ((fX11_findWorth sO sP sW sS sD sQ sV sSv sDv sQv sR x1).bind (fun o2 =>
    (Sum.elim (fun E2 => some (.inl E2, o2.2.1, o2.2.2.1, o2.2.2.2.1, o2.2.2.2.2.1, o2.2.2.2.2.2.1, o2.2.2.2.2.2.2.1, o2.2.2.2.2.2.2.2.1, o2.2.2.2.2.2.2.2.2.1, o2.2.2.2.2.2.2.2.2.2)) (fun r2 =>
    some (.inr (zgl o2.2.2.2.2.2.2.2.2.2 0), o2.2.1, o2.2.2.1, o2.2.2.2.1, o2.2.2.2.2.1, o2.2.2.2.2.2.1, o2.2.2.2.2.2.2.1, o2.2.2.2.2.2.2.2.1, o2.2.2.2.2.2.2.2.2.1, o2.2.2.2.2.2.2.2.2.2)) o2.1)))
theorem bX11_worthTop_0 {C : zCtx} (X : zFx C cX11_worthTop 2 RX11 rmX11_worthTop (some .long)) {base : Nat} (Y : zFy C base) {aO : Nat → Nat} {aP : Nat → Nat} {aX : Nat → Nat} {aL : Nat → Nat} {aW : Nat → Nat} {aV : Nat → Nat} {aF : Nat → Nat} {aK : Nat → Nat} {aZ : Nat → Nat} {aR : Nat → Nat} {aS : Nat → Nat} {aD : Nat → Nat} {aQ : Nat → Nat} {aSv : Nat → Nat} {aDv : Nat → Nat} {aQv : Nat → Nat} {aN : Nat → Nat} {sO : zSt} {sP : zSt} {sW : zSt} {sS : zSt} {sD : zSt} {sQ : zSt} {sV : zSt} {sSv : zSt} {sDv : zSt} {sQv : zSt} {sR : zSt} {x1 : Int32} {out : (String ⊕ Int64) × zSt × zSt × zSt × zSt × zSt × zSt × zSt × zSt × zSt} (hQ : zXl C out.1 [wX9 (zcT C) aW (aP 0) (aS 0) (aD 0) (aQ 0) out.2.1, wX7 (zcT C) aS out.2.2.1, wX1 (zcT C) aD out.2.2.2.1, wX4 (zcT C) aQ out.2.2.2.2.1, wX9 (zcT C) aV (aP 0) (aSv 0) (aDv 0) (aQv 0) out.2.2.2.2.2.1, wX7 (zcT C) aSv out.2.2.2.2.2.2.1, wX1 (zcT C) aDv out.2.2.2.2.2.2.2.1, wX4 (zcT C) aQv out.2.2.2.2.2.2.2.2.1, wX2 (zcT C) aR out.2.2.2.2.2.2.2.2.2] 3 18) (h : fX11_worthTop sO sP sW sS sD sQ sV sSv sDv sQv sR x1 = some out) : zG C 2 [2, 3, 4, 5, 6, 7, 8, 9, 10] 0 0 [wX11 (zcT C) aO (aP 0) (aX 0) (aL 0) (aW 0) (aV 0) (aF 0) (aK 0) (aZ 0) (aR 0) aN sO, wX5 (zcT C) aP sP, wX9 (zcT C) aW (aP 0) (aS 0) (aD 0) (aQ 0) sW, wX7 (zcT C) aS sS, wX1 (zcT C) aD sD, wX4 (zcT C) aQ sQ, wX9 (zcT C) aV (aP 0) (aSv 0) (aDv 0) (aQv 0) sV, wX7 (zcT C) aSv sSv, wX1 (zcT C) aDv sDv, wX4 (zcT C) aQv sQv, wX2 (zcT C) aR sR] 0 [(0, .ref (aO 0)), (1, .int x1)] [] := by
  unfold fX11_worthTop at h
  refine z_aload_n X dX11_worthTop_0 0 rfl ?_
  refine z_iload_n X dX11_worthTop_1 1 rfl ?_
  obtain ⟨o2, ho2, h⟩ := zbind_of h
  refine z_xcallVv (st := []) (ws2 := [wX11 (zcT C) aO (aP 0) (aX 0) (aL 0) (aW 0) (aV 0) (aF 0) (aK 0) (aZ 0) (aR 0) aN sO, wX5 (zcT C) aP sP, wX9 (zcT C) aW (aP 0) (aS 0) (aD 0) (aQ 0) o2.2.1, wX7 (zcT C) aS o2.2.2.1, wX1 (zcT C) aD o2.2.2.2.1, wX4 (zcT C) aQ o2.2.2.2.2.1, wX9 (zcT C) aV (aP 0) (aSv 0) (aDv 0) (aQv 0) o2.2.2.2.2.2.1, wX7 (zcT C) aSv o2.2.2.2.2.2.2.1, wX1 (zcT C) aDv o2.2.2.2.2.2.2.2.1, wX4 (zcT C) aQv o2.2.2.2.2.2.2.2.2.1, wX2 (zcT C) aR o2.2.2.2.2.2.2.2.2.2]) X Y (metX11_findWorth (zcl C) Y.2.2.2.2.1 (zcD C) (zcT C) aO aP aX aL aW aV aF aK aZ aR aS aD aQ aSv aDv aQv aN ho2) zmX11_findWorth zw1213 dX11_worthTop_2 0 0 12 rfl rfl rfl rfl [0, 1, 2, 3, 4, 5, 6, 7, 8, 9, 10] rfl rfl [2, 3, 4, 5, 6, 7, 8, 9, 10] rfl (by decide) ⟨zsX9 , ⟨zsX7 , ⟨zsX1 , ⟨zsX4 , ⟨zsX9 , ⟨zsX7 , ⟨zsX1 , ⟨zsX4 , ⟨zsX2 , trivial⟩⟩⟩⟩⟩⟩⟩⟩⟩ rfl rfl rfl (Nat.le_of_ble_eq_true rfl) rfl rfl ⟨Nat.le_of_ble_eq_true rfl, Nat.le_of_ble_eq_true rfl⟩ ⟨Nat.le_of_ble_eq_true rfl, Nat.le_of_ble_eq_true rfl⟩ (fun E2 hE2 => ?_) (fun r2 hr2 => ?_)
  · replace h := zsum_l h hE2
    cases h
    exact z_xoutl X Y hQ rfl [2, 3, 4, 5, 6, 7, 8, 9, 10] rfl (by decide) (by decide)
  replace h := zsum_r h hr2
  refine z_aload_n X dX11_worthTop_5 0 rfl ?_
  refine z_get (v := .ref (aR 0)) X 0 0 12 8 ziX11 rfl (by decide) zw381 rfl dX11_worthTop_6 rfl rfl rfl ?_
  refine z_getN (v := .long (zgl o2.2.2.2.2.2.2.2.2.2 0)) X 10 0 3 0 ziX2 rfl (by decide) zw362 rfl dX11_worthTop_9 rfl rfl rfl ?_
  cases h
  exact z_xlret X hQ dX11_worthTop_12 rfl [2, 3, 4, 5, 6, 7, 8, 9, 10] rfl (by decide) (by decide)
theorem metX11_worthTop (l : Launch) (hst : l.stackTraces = false) (D : va_G) (T : Nat → ClassId) (aO : Nat → Nat) (aP : Nat → Nat) (aX : Nat → Nat) (aL : Nat → Nat) (aW : Nat → Nat) (aV : Nat → Nat) (aF : Nat → Nat) (aK : Nat → Nat) (aZ : Nat → Nat) (aR : Nat → Nat) (aS : Nat → Nat) (aD : Nat → Nat) (aQ : Nat → Nat) (aSv : Nat → Nat) (aDv : Nat → Nat) (aQv : Nat → Nat) (aN : Nat → Nat) {sO : zSt} {sP : zSt} {sW : zSt} {sS : zSt} {sD : zSt} {sQ : zSt} {sV : zSt} {sSv : zSt} {sDv : zSt} {sQv : zSt} {sR : zSt} {x1 : Int32} {out : (String ⊕ Int64) × zSt × zSt × zSt × zSt × zSt × zSt × zSt × zSt × zSt} (hf : fX11_worthTop sO sP sW sS sD sQ sV sSv sDv sQv sR x1 = some out) (base sz : Nat) : vx_Met l yX11_worthTop (zws yX11_worthTop cX11_worthTop 2 (some .long)) rmX11_worthTop (zPx D T [.ref (aO 0), .int x1] [wX11 T aO (aP 0) (aX 0) (aL 0) (aW 0) (aV 0) (aF 0) (aK 0) (aZ 0) (aR 0) aN sO, wX5 T aP sP, wX9 T aW (aP 0) (aS 0) (aD 0) (aQ 0) sW, wX7 T aS sS, wX1 T aD sD, wX4 T aQ sQ, wX9 T aV (aP 0) (aSv 0) (aDv 0) (aQv 0) sV, wX7 T aSv sSv, wX1 T aDv sDv, wX4 T aQv sQv, wX2 T aR sR] [wX9 T aW (aP 0) (aS 0) (aD 0) (aQ 0) sW, wX7 T aS sS, wX1 T aD sD, wX4 T aQ sQ, wX9 T aV (aP 0) (aSv 0) (aDv 0) (aQv 0) sV, wX7 T aSv sSv, wX1 T aDv sDv, wX4 T aQv sQv, wX2 T aR sR] base sz) (zQxl D out.1 [wX9 T aW (aP 0) (aS 0) (aD 0) (aQ 0) out.2.1, wX7 T aS out.2.2.1, wX1 T aD out.2.2.2.1, wX4 T aQ out.2.2.2.2.1, wX9 T aV (aP 0) (aSv 0) (aDv 0) (aQv 0) out.2.2.2.2.2.1, wX7 T aSv out.2.2.2.2.2.2.1, wX1 T aDv out.2.2.2.2.2.2.2.1, wX4 T aQv out.2.2.2.2.2.2.2.2.1, wX2 T aR out.2.2.2.2.2.2.2.2.2] (zA [wX9 T aW (aP 0) (aS 0) (aD 0) (aQ 0) sW, wX7 T aS sS, wX1 T aD sD, wX4 T aQ sQ, wX9 T aV (aP 0) (aSv 0) (aDv 0) (aQv 0) sV, wX7 T aSv sSv, wX1 T aDv sDv, wX4 T aQv sQv, wX2 T aR sR] sz)) (zXxl D out.1 [wX9 T aW (aP 0) (aS 0) (aD 0) (aQ 0) out.2.1, wX7 T aS out.2.2.1, wX1 T aD out.2.2.2.1, wX4 T aQ out.2.2.2.2.1, wX9 T aV (aP 0) (aSv 0) (aDv 0) (aQv 0) out.2.2.2.2.2.1, wX7 T aSv out.2.2.2.2.2.2.1, wX1 T aDv out.2.2.2.2.2.2.2.1, wX4 T aQv out.2.2.2.2.2.2.2.2.1, wX2 T aR out.2.2.2.2.2.2.2.2.2] (zA [wX9 T aW (aP 0) (aS 0) (aD 0) (aQ 0) sW, wX7 T aS sS, wX1 T aD sD, wX4 T aQ sQ, wX9 T aV (aP 0) (aSv 0) (aDv 0) (aQv 0) sV, wX7 T aSv sSv, wX1 T aDv sDv, wX4 T aQv sQv, wX2 T aR sR] sz)) 3 18 (zA [wX9 T aW (aP 0) (aS 0) (aD 0) (aQ 0) sW, wX7 T aS sS, wX1 T aD sD, wX4 T aQ sQ, wX9 T aV (aP 0) (aSv 0) (aDv 0) (aQv 0) sV, wX7 T aSv sSv, wX1 T aDv sDv, wX4 T aQv sQv, wX2 T aR sR] sz) :=
  zMetXl hst (D := D) (T := T) (av := [.ref (aO 0), .int x1]) (ws := fun T => [wX11 T aO (aP 0) (aX 0) (aL 0) (aW 0) (aV 0) (aF 0) (aK 0) (aZ 0) (aR 0) aN sO, wX5 T aP sP, wX9 T aW (aP 0) (aS 0) (aD 0) (aQ 0) sW, wX7 T aS sS, wX1 T aD sD, wX4 T aQ sQ, wX9 T aV (aP 0) (aSv 0) (aDv 0) (aQv 0) sV, wX7 T aSv sSv, wX1 T aDv sDv, wX4 T aQv sQv, wX2 T aR sR]) (wm := fun T => [wX9 T aW (aP 0) (aS 0) (aD 0) (aQ 0) sW, wX7 T aS sS, wX1 T aD sD, wX4 T aQ sQ, wX9 T aV (aP 0) (aSv 0) (aDv 0) (aQv 0) sV, wX7 T aSv sSv, wX1 T aDv sDv, wX4 T aQv sQv, wX2 T aR sR]) (gm1 := fun T => [wX9 T aW (aP 0) (aS 0) (aD 0) (aQ 0) out.2.1, wX7 T aS out.2.2.1, wX1 T aD out.2.2.2.1, wX4 T aQ out.2.2.2.2.1, wX9 T aV (aP 0) (aSv 0) (aDv 0) (aQv 0) out.2.2.2.2.2.1, wX7 T aSv out.2.2.2.2.2.2.1, wX1 T aDv out.2.2.2.2.2.2.2.1, wX4 T aQv out.2.2.2.2.2.2.2.2.1, wX2 T aR out.2.2.2.2.2.2.2.2.2]) (o := out.1) (lv0 := [(0, .ref (aO 0)), (1, .int x1)]) [2, 3, 4, 5, 6, 7, 8, 9, 10] (by decide +kernel) rfl (Nat.le_of_ble_eq_true rfl) rfl (fun C base X Y hQ => bX11_worthTop_0 X Y hQ hf) base sz
/-- public long worthBottom(int) throws java.lang.IndexOutOfBoundsException, java.lang.IllegalStateException, java.util.NoSuchElementException; of Tableaufloor -/
abbrev rmX11_worthBottom : Room := { frames := 9, cells := 3, slots := 18, locals := 151 }
def fX11_worthBottom (sO : zSt) (sP : zSt) (sW : zSt) (sS : zSt) (sD : zSt) (sQ : zSt) (sV : zSt) (sSv : zSt) (sDv : zSt) (sQv : zSt) (sR : zSt) (x1 : Int32) : Option ((String ⊕ Int64) × zSt × zSt × zSt × zSt × zSt × zSt × zSt × zSt × zSt) :=
  ((fX11_findWorth sO sP sW sS sD sQ sV sSv sDv sQv sR x1).bind (fun o2 =>
    (Sum.elim (fun E2 => some (.inl E2, o2.2.1, o2.2.2.1, o2.2.2.2.1, o2.2.2.2.2.1, o2.2.2.2.2.2.1, o2.2.2.2.2.2.2.1, o2.2.2.2.2.2.2.2.1, o2.2.2.2.2.2.2.2.2.1, o2.2.2.2.2.2.2.2.2.2)) (fun r2 =>
    some (.inr (zgl o2.2.2.2.2.2.2.2.2.2 1), o2.2.1, o2.2.2.1, o2.2.2.2.1, o2.2.2.2.2.1, o2.2.2.2.2.2.1, o2.2.2.2.2.2.2.1, o2.2.2.2.2.2.2.2.1, o2.2.2.2.2.2.2.2.2.1, o2.2.2.2.2.2.2.2.2.2)) o2.1)))
theorem bX11_worthBottom_0 {C : zCtx} (X : zFx C cX11_worthBottom 2 RX11 rmX11_worthBottom (some .long)) {base : Nat} (Y : zFy C base) {aO : Nat → Nat} {aP : Nat → Nat} {aX : Nat → Nat} {aL : Nat → Nat} {aW : Nat → Nat} {aV : Nat → Nat} {aF : Nat → Nat} {aK : Nat → Nat} {aZ : Nat → Nat} {aR : Nat → Nat} {aS : Nat → Nat} {aD : Nat → Nat} {aQ : Nat → Nat} {aSv : Nat → Nat} {aDv : Nat → Nat} {aQv : Nat → Nat} {aN : Nat → Nat} {sO : zSt} {sP : zSt} {sW : zSt} {sS : zSt} {sD : zSt} {sQ : zSt} {sV : zSt} {sSv : zSt} {sDv : zSt} {sQv : zSt} {sR : zSt} {x1 : Int32} {out : (String ⊕ Int64) × zSt × zSt × zSt × zSt × zSt × zSt × zSt × zSt × zSt} (hQ : zXl C out.1 [wX9 (zcT C) aW (aP 0) (aS 0) (aD 0) (aQ 0) out.2.1, wX7 (zcT C) aS out.2.2.1, wX1 (zcT C) aD out.2.2.2.1, wX4 (zcT C) aQ out.2.2.2.2.1, wX9 (zcT C) aV (aP 0) (aSv 0) (aDv 0) (aQv 0) out.2.2.2.2.2.1, wX7 (zcT C) aSv out.2.2.2.2.2.2.1, wX1 (zcT C) aDv out.2.2.2.2.2.2.2.1, wX4 (zcT C) aQv out.2.2.2.2.2.2.2.2.1, wX2 (zcT C) aR out.2.2.2.2.2.2.2.2.2] 3 18) (h : fX11_worthBottom sO sP sW sS sD sQ sV sSv sDv sQv sR x1 = some out) : zG C 2 [2, 3, 4, 5, 6, 7, 8, 9, 10] 0 0 [wX11 (zcT C) aO (aP 0) (aX 0) (aL 0) (aW 0) (aV 0) (aF 0) (aK 0) (aZ 0) (aR 0) aN sO, wX5 (zcT C) aP sP, wX9 (zcT C) aW (aP 0) (aS 0) (aD 0) (aQ 0) sW, wX7 (zcT C) aS sS, wX1 (zcT C) aD sD, wX4 (zcT C) aQ sQ, wX9 (zcT C) aV (aP 0) (aSv 0) (aDv 0) (aQv 0) sV, wX7 (zcT C) aSv sSv, wX1 (zcT C) aDv sDv, wX4 (zcT C) aQv sQv, wX2 (zcT C) aR sR] 0 [(0, .ref (aO 0)), (1, .int x1)] [] := by
  unfold fX11_worthBottom at h
  refine z_aload_n X dX11_worthBottom_0 0 rfl ?_
  refine z_iload_n X dX11_worthBottom_1 1 rfl ?_
  obtain ⟨o2, ho2, h⟩ := zbind_of h
  refine z_xcallVv (st := []) (ws2 := [wX11 (zcT C) aO (aP 0) (aX 0) (aL 0) (aW 0) (aV 0) (aF 0) (aK 0) (aZ 0) (aR 0) aN sO, wX5 (zcT C) aP sP, wX9 (zcT C) aW (aP 0) (aS 0) (aD 0) (aQ 0) o2.2.1, wX7 (zcT C) aS o2.2.2.1, wX1 (zcT C) aD o2.2.2.2.1, wX4 (zcT C) aQ o2.2.2.2.2.1, wX9 (zcT C) aV (aP 0) (aSv 0) (aDv 0) (aQv 0) o2.2.2.2.2.2.1, wX7 (zcT C) aSv o2.2.2.2.2.2.2.1, wX1 (zcT C) aDv o2.2.2.2.2.2.2.2.1, wX4 (zcT C) aQv o2.2.2.2.2.2.2.2.2.1, wX2 (zcT C) aR o2.2.2.2.2.2.2.2.2.2]) X Y (metX11_findWorth (zcl C) Y.2.2.2.2.1 (zcD C) (zcT C) aO aP aX aL aW aV aF aK aZ aR aS aD aQ aSv aDv aQv aN ho2) zmX11_findWorth zw1213 dX11_worthBottom_2 0 0 12 rfl rfl rfl rfl [0, 1, 2, 3, 4, 5, 6, 7, 8, 9, 10] rfl rfl [2, 3, 4, 5, 6, 7, 8, 9, 10] rfl (by decide) ⟨zsX9 , ⟨zsX7 , ⟨zsX1 , ⟨zsX4 , ⟨zsX9 , ⟨zsX7 , ⟨zsX1 , ⟨zsX4 , ⟨zsX2 , trivial⟩⟩⟩⟩⟩⟩⟩⟩⟩ rfl rfl rfl (Nat.le_of_ble_eq_true rfl) rfl rfl ⟨Nat.le_of_ble_eq_true rfl, Nat.le_of_ble_eq_true rfl⟩ ⟨Nat.le_of_ble_eq_true rfl, Nat.le_of_ble_eq_true rfl⟩ (fun E2 hE2 => ?_) (fun r2 hr2 => ?_)
  · replace h := zsum_l h hE2
    cases h
    exact z_xoutl X Y hQ rfl [2, 3, 4, 5, 6, 7, 8, 9, 10] rfl (by decide) (by decide)
  replace h := zsum_r h hr2
  refine z_aload_n X dX11_worthBottom_5 0 rfl ?_
  refine z_get (v := .ref (aR 0)) X 0 0 12 8 ziX11 rfl (by decide) zw381 rfl dX11_worthBottom_6 rfl rfl rfl ?_
  refine z_getN (v := .long (zgl o2.2.2.2.2.2.2.2.2.2 1)) X 10 0 3 1 ziX2 rfl (by decide) zw364 rfl dX11_worthBottom_9 rfl rfl rfl ?_
  cases h
  exact z_xlret X hQ dX11_worthBottom_12 rfl [2, 3, 4, 5, 6, 7, 8, 9, 10] rfl (by decide) (by decide)
theorem metX11_worthBottom (l : Launch) (hst : l.stackTraces = false) (D : va_G) (T : Nat → ClassId) (aO : Nat → Nat) (aP : Nat → Nat) (aX : Nat → Nat) (aL : Nat → Nat) (aW : Nat → Nat) (aV : Nat → Nat) (aF : Nat → Nat) (aK : Nat → Nat) (aZ : Nat → Nat) (aR : Nat → Nat) (aS : Nat → Nat) (aD : Nat → Nat) (aQ : Nat → Nat) (aSv : Nat → Nat) (aDv : Nat → Nat) (aQv : Nat → Nat) (aN : Nat → Nat) {sO : zSt} {sP : zSt} {sW : zSt} {sS : zSt} {sD : zSt} {sQ : zSt} {sV : zSt} {sSv : zSt} {sDv : zSt} {sQv : zSt} {sR : zSt} {x1 : Int32} {out : (String ⊕ Int64) × zSt × zSt × zSt × zSt × zSt × zSt × zSt × zSt × zSt} (hf : fX11_worthBottom sO sP sW sS sD sQ sV sSv sDv sQv sR x1 = some out) (base sz : Nat) : vx_Met l yX11_worthBottom (zws yX11_worthBottom cX11_worthBottom 2 (some .long)) rmX11_worthBottom (zPx D T [.ref (aO 0), .int x1] [wX11 T aO (aP 0) (aX 0) (aL 0) (aW 0) (aV 0) (aF 0) (aK 0) (aZ 0) (aR 0) aN sO, wX5 T aP sP, wX9 T aW (aP 0) (aS 0) (aD 0) (aQ 0) sW, wX7 T aS sS, wX1 T aD sD, wX4 T aQ sQ, wX9 T aV (aP 0) (aSv 0) (aDv 0) (aQv 0) sV, wX7 T aSv sSv, wX1 T aDv sDv, wX4 T aQv sQv, wX2 T aR sR] [wX9 T aW (aP 0) (aS 0) (aD 0) (aQ 0) sW, wX7 T aS sS, wX1 T aD sD, wX4 T aQ sQ, wX9 T aV (aP 0) (aSv 0) (aDv 0) (aQv 0) sV, wX7 T aSv sSv, wX1 T aDv sDv, wX4 T aQv sQv, wX2 T aR sR] base sz) (zQxl D out.1 [wX9 T aW (aP 0) (aS 0) (aD 0) (aQ 0) out.2.1, wX7 T aS out.2.2.1, wX1 T aD out.2.2.2.1, wX4 T aQ out.2.2.2.2.1, wX9 T aV (aP 0) (aSv 0) (aDv 0) (aQv 0) out.2.2.2.2.2.1, wX7 T aSv out.2.2.2.2.2.2.1, wX1 T aDv out.2.2.2.2.2.2.2.1, wX4 T aQv out.2.2.2.2.2.2.2.2.1, wX2 T aR out.2.2.2.2.2.2.2.2.2] (zA [wX9 T aW (aP 0) (aS 0) (aD 0) (aQ 0) sW, wX7 T aS sS, wX1 T aD sD, wX4 T aQ sQ, wX9 T aV (aP 0) (aSv 0) (aDv 0) (aQv 0) sV, wX7 T aSv sSv, wX1 T aDv sDv, wX4 T aQv sQv, wX2 T aR sR] sz)) (zXxl D out.1 [wX9 T aW (aP 0) (aS 0) (aD 0) (aQ 0) out.2.1, wX7 T aS out.2.2.1, wX1 T aD out.2.2.2.1, wX4 T aQ out.2.2.2.2.1, wX9 T aV (aP 0) (aSv 0) (aDv 0) (aQv 0) out.2.2.2.2.2.1, wX7 T aSv out.2.2.2.2.2.2.1, wX1 T aDv out.2.2.2.2.2.2.2.1, wX4 T aQv out.2.2.2.2.2.2.2.2.1, wX2 T aR out.2.2.2.2.2.2.2.2.2] (zA [wX9 T aW (aP 0) (aS 0) (aD 0) (aQ 0) sW, wX7 T aS sS, wX1 T aD sD, wX4 T aQ sQ, wX9 T aV (aP 0) (aSv 0) (aDv 0) (aQv 0) sV, wX7 T aSv sSv, wX1 T aDv sDv, wX4 T aQv sQv, wX2 T aR sR] sz)) 3 18 (zA [wX9 T aW (aP 0) (aS 0) (aD 0) (aQ 0) sW, wX7 T aS sS, wX1 T aD sD, wX4 T aQ sQ, wX9 T aV (aP 0) (aSv 0) (aDv 0) (aQv 0) sV, wX7 T aSv sSv, wX1 T aDv sDv, wX4 T aQv sQv, wX2 T aR sR] sz) :=
  zMetXl hst (D := D) (T := T) (av := [.ref (aO 0), .int x1]) (ws := fun T => [wX11 T aO (aP 0) (aX 0) (aL 0) (aW 0) (aV 0) (aF 0) (aK 0) (aZ 0) (aR 0) aN sO, wX5 T aP sP, wX9 T aW (aP 0) (aS 0) (aD 0) (aQ 0) sW, wX7 T aS sS, wX1 T aD sD, wX4 T aQ sQ, wX9 T aV (aP 0) (aSv 0) (aDv 0) (aQv 0) sV, wX7 T aSv sSv, wX1 T aDv sDv, wX4 T aQv sQv, wX2 T aR sR]) (wm := fun T => [wX9 T aW (aP 0) (aS 0) (aD 0) (aQ 0) sW, wX7 T aS sS, wX1 T aD sD, wX4 T aQ sQ, wX9 T aV (aP 0) (aSv 0) (aDv 0) (aQv 0) sV, wX7 T aSv sSv, wX1 T aDv sDv, wX4 T aQv sQv, wX2 T aR sR]) (gm1 := fun T => [wX9 T aW (aP 0) (aS 0) (aD 0) (aQ 0) out.2.1, wX7 T aS out.2.2.1, wX1 T aD out.2.2.2.1, wX4 T aQ out.2.2.2.2.1, wX9 T aV (aP 0) (aSv 0) (aDv 0) (aQv 0) out.2.2.2.2.2.1, wX7 T aSv out.2.2.2.2.2.2.1, wX1 T aDv out.2.2.2.2.2.2.2.1, wX4 T aQv out.2.2.2.2.2.2.2.2.1, wX2 T aR out.2.2.2.2.2.2.2.2.2]) (o := out.1) (lv0 := [(0, .ref (aO 0)), (1, .int x1)]) [2, 3, 4, 5, 6, 7, 8, 9, 10] (by decide +kernel) rfl (Nat.le_of_ble_eq_true rfl) rfl (fun C base X Y hQ => bX11_worthBottom_0 X Y hQ hf) base sz
/-- public int conflict() throws java.lang.IllegalStateException; of Tableaufloor -/
abbrev rmX11_conflict : Room := { frames := 6, cells := 1, slots := 6, locals := 127 }
def fX11_conflict_90 (sO : zSt) (sP : zSt) (k36 : zSt → zSt → zSt → zSt → zSt → zSt → zSt → Int32 → Int32 → Int32 → Option ((String ⊕ Int32) × zSt × zSt × zSt × zSt × zSt × zSt × zSt)) (sW : zSt) (sS : zSt) (sD : zSt) (sQ : zSt) (sV : zSt) (sSv : zSt) (sDv : zSt) (x1 : Int32) (x2 : Int32) (x3 : Int32) : Option ((String ⊕ Int32) × zSt × zSt × zSt × zSt × zSt × zSt × zSt) :=
  (zlet (x3 + 1) (fun v90 =>
    (k36 sW sS sD sQ sV sSv sDv x1 x2 v90)))
def fX11_conflict_36 (sO : zSt) (sP : zSt) : Nat → zSt → zSt → zSt → zSt → zSt → zSt → zSt → Int32 → Int32 → Int32 → Option ((String ⊕ Int32) × zSt × zSt × zSt × zSt × zSt × zSt × zSt)
  | 0, _, _, _, _, _, _, _, _, _, _ => none
  | n + 1, sW, sS, sD, sQ, sV, sSv, sDv, x1, x2, x3 =>
    (if (zgi sP 9) ≤ x3 then
      some (.inr x2, sW, sS, sD, sQ, sV, sSv, sDv)
    else
      ((fX5_isLive sP x3).bind (fun o52 =>
        (if o52 = 0 then
        (fX11_conflict_90 sO sP (fX11_conflict_36 sO sP n) sW sS sD sQ sV sSv sDv x1 x2 x3)
      else
        (zlet ((1 : Int32) <<< (x3 &&& 31)) (fun v61 =>
          ((fX9_findsFit sV sP sSv sDv (x1 ||| v61)).bind (fun o71 =>
          (if o71.1 = 0 then
          (zlet (x1 ||| v61) (fun v89 =>
            (fX11_conflict_90 sO sP (fX11_conflict_36 sO sP n) sW sS sD sQ o71.2.1 o71.2.2.1 o71.2.2.2 v89 x2 x3)))
        else
          (zlet (x2 ||| v61) (fun v81 =>
            (fX11_conflict_90 sO sP (fX11_conflict_36 sO sP n) sW sS sD sQ o71.2.1 o71.2.2.1 o71.2.2.2 x1 v81 x3))))))))))))
def fX11_conflict (sO : zSt) (sP : zSt) (sW : zSt) (sS : zSt) (sD : zSt) (sQ : zSt) (sV : zSt) (sSv : zSt) (sDv : zSt) : Option ((String ⊕ Int32) × zSt × zSt × zSt × zSt × zSt × zSt × zSt) :=
  ((fX9_findAll sW sP sS sD sQ).bind (fun o4 =>
    (if (zgi o4.1 5) = (105 : Int32) then
    (fX11_conflict_36 sO sP 6000 o4.1 o4.2.1 o4.2.2.1 o4.2.2.2 sV sSv sDv (0 : Int32) (0 : Int32) (0 : Int32))
  else
    some (.inl "java/lang/IllegalStateException", o4.1, o4.2.1, o4.2.2.1, o4.2.2.2, sV, sSv, sDv))))
theorem bX11_conflict_90 {C : zCtx} (X : zFx C cX11_conflict 5 RX11 rmX11_conflict (some .int)) {base : Nat} (Y : zFy C base) {aO : Nat → Nat} {aP : Nat → Nat} {aX : Nat → Nat} {aL : Nat → Nat} {aW : Nat → Nat} {aV : Nat → Nat} {aF : Nat → Nat} {aK : Nat → Nat} {aZ : Nat → Nat} {aR : Nat → Nat} {aS : Nat → Nat} {aD : Nat → Nat} {aQ : Nat → Nat} {aSv : Nat → Nat} {aDv : Nat → Nat} {aQv : Nat → Nat} {aN : Nat → Nat} {sO : zSt} {sP : zSt} {k36 : zSt → zSt → zSt → zSt → zSt → zSt → zSt → Int32 → Int32 → Int32 → Option ((String ⊕ Int32) × zSt × zSt × zSt × zSt × zSt × zSt × zSt)} {sW : zSt} {sS : zSt} {sD : zSt} {sQ : zSt} {sV : zSt} {sSv : zSt} {sDv : zSt} {x1 : Int32} {x2 : Int32} {x3 : Int32} {out : (String ⊕ Int32) × zSt × zSt × zSt × zSt × zSt × zSt × zSt} (hQ : zXi C out.1 [wX9 (zcT C) aW (aP 0) (aS 0) (aD 0) (aQ 0) out.2.1, wX7 (zcT C) aS out.2.2.1, wX1 (zcT C) aD out.2.2.2.1, wX4 (zcT C) aQ out.2.2.2.2.1, wX9 (zcT C) aV (aP 0) (aSv 0) (aDv 0) (aQv 0) out.2.2.2.2.2.1, wX7 (zcT C) aSv out.2.2.2.2.2.2.1, wX1 (zcT C) aDv out.2.2.2.2.2.2.2] 1 6) (hk36 : ∀ (sW : zSt) (sS : zSt) (sD : zSt) (sQ : zSt) (sV : zSt) (sSv : zSt) (sDv : zSt) (x1 : Int32) (x2 : Int32) (x3 : Int32), k36 sW sS sD sQ sV sSv sDv x1 x2 x3 = some out → zG C 5 [2, 3, 4, 5, 6, 7, 8] 0 0 [wX11 (zcT C) aO (aP 0) (aX 0) (aL 0) (aW 0) (aV 0) (aF 0) (aK 0) (aZ 0) (aR 0) aN sO, wX5 (zcT C) aP sP, wX9 (zcT C) aW (aP 0) (aS 0) (aD 0) (aQ 0) sW, wX7 (zcT C) aS sS, wX1 (zcT C) aD sD, wX4 (zcT C) aQ sQ, wX9 (zcT C) aV (aP 0) (aSv 0) (aDv 0) (aQv 0) sV, wX7 (zcT C) aSv sSv, wX1 (zcT C) aDv sDv] 36 [(0, .ref (aO 0)), (1, .int x1), (2, .int x2), (3, .int x3)] []) (h : fX11_conflict_90 sO sP k36 sW sS sD sQ sV sSv sDv x1 x2 x3 = some out) : zG C 5 [2, 3, 4, 5, 6, 7, 8] 0 0 [wX11 (zcT C) aO (aP 0) (aX 0) (aL 0) (aW 0) (aV 0) (aF 0) (aK 0) (aZ 0) (aR 0) aN sO, wX5 (zcT C) aP sP, wX9 (zcT C) aW (aP 0) (aS 0) (aD 0) (aQ 0) sW, wX7 (zcT C) aS sS, wX1 (zcT C) aD sD, wX4 (zcT C) aQ sQ, wX9 (zcT C) aV (aP 0) (aSv 0) (aDv 0) (aQv 0) sV, wX7 (zcT C) aSv sSv, wX1 (zcT C) aDv sDv] 90 [(0, .ref (aO 0)), (1, .int x1), (2, .int x2), (3, .int x3)] [] := by
  unfold fX11_conflict_90 at h
  obtain ⟨v90, ev90, h⟩ := zlet_of h
  refine z_iinc (v := v90) (lv2 := [(3, .int v90), (0, .ref (aO 0)), (1, .int x1), (2, .int x2)]) X dX11_conflict_90 (k := 3) rfl (by rw [ev90]; rfl) (by decide) rfl ?_
  refine z_goto (tgt := 36) X dX11_conflict_93 (by decide) ?_
  exact z_wid (c2 := 0) (s2 := 0) (by decide) (by decide) <| z_at (pc2 := 36) (lv2 := [(0, .ref (aO 0)), (1, .int x1), (2, .int x2), (3, .int v90)]) (st2 := []) (ws2 := [wX11 (zcT C) aO (aP 0) (aX 0) (aL 0) (aW 0) (aV 0) (aF 0) (aK 0) (aZ 0) (aR 0) aN sO, wX5 (zcT C) aP sP, wX9 (zcT C) aW (aP 0) (aS 0) (aD 0) (aQ 0) sW, wX7 (zcT C) aS sS, wX1 (zcT C) aD sD, wX4 (zcT C) aQ sQ, wX9 (zcT C) aV (aP 0) (aSv 0) (aDv 0) (aQv 0) sV, wX7 (zcT C) aSv sSv, wX1 (zcT C) aDv sDv]) rfl rfl rfl [1, 2, 3, 0] rfl (hk36 sW sS sD sQ sV sSv sDv x1 x2 v90 h)
theorem bX11_conflict_36 {C : zCtx} (X : zFx C cX11_conflict 5 RX11 rmX11_conflict (some .int)) {base : Nat} (Y : zFy C base) {aO : Nat → Nat} {aP : Nat → Nat} {aX : Nat → Nat} {aL : Nat → Nat} {aW : Nat → Nat} {aV : Nat → Nat} {aF : Nat → Nat} {aK : Nat → Nat} {aZ : Nat → Nat} {aR : Nat → Nat} {aS : Nat → Nat} {aD : Nat → Nat} {aQ : Nat → Nat} {aSv : Nat → Nat} {aDv : Nat → Nat} {aQv : Nat → Nat} {aN : Nat → Nat} {sO : zSt} {sP : zSt} {out : (String ⊕ Int32) × zSt × zSt × zSt × zSt × zSt × zSt × zSt} (hQ : zXi C out.1 [wX9 (zcT C) aW (aP 0) (aS 0) (aD 0) (aQ 0) out.2.1, wX7 (zcT C) aS out.2.2.1, wX1 (zcT C) aD out.2.2.2.1, wX4 (zcT C) aQ out.2.2.2.2.1, wX9 (zcT C) aV (aP 0) (aSv 0) (aDv 0) (aQv 0) out.2.2.2.2.2.1, wX7 (zcT C) aSv out.2.2.2.2.2.2.1, wX1 (zcT C) aDv out.2.2.2.2.2.2.2] 1 6) : ∀ (n : Nat) (sW : zSt) (sS : zSt) (sD : zSt) (sQ : zSt) (sV : zSt) (sSv : zSt) (sDv : zSt) (x1 : Int32) (x2 : Int32) (x3 : Int32), fX11_conflict_36 sO sP n sW sS sD sQ sV sSv sDv x1 x2 x3 = some out → zG C 5 [2, 3, 4, 5, 6, 7, 8] 0 0 [wX11 (zcT C) aO (aP 0) (aX 0) (aL 0) (aW 0) (aV 0) (aF 0) (aK 0) (aZ 0) (aR 0) aN sO, wX5 (zcT C) aP sP, wX9 (zcT C) aW (aP 0) (aS 0) (aD 0) (aQ 0) sW, wX7 (zcT C) aS sS, wX1 (zcT C) aD sD, wX4 (zcT C) aQ sQ, wX9 (zcT C) aV (aP 0) (aSv 0) (aDv 0) (aQv 0) sV, wX7 (zcT C) aSv sSv, wX1 (zcT C) aDv sDv] 36 [(0, .ref (aO 0)), (1, .int x1), (2, .int x2), (3, .int x3)] [] := by
  intro n
  induction n with
  | zero =>
    intro sW sS sD sQ sV sSv sDv x1 x2 x3 h
    rw [fX11_conflict_36] at h
    exact zno h
  | succ n ih =>
    intro sW sS sD sQ sV sSv sDv x1 x2 x3 h
    rw [fX11_conflict_36] at h
    refine z_iload_n X dX11_conflict_36 3 rfl ?_
    refine z_aload_n X dX11_conflict_37 0 rfl ?_
    refine z_get (v := .ref (aP 0)) X 0 0 12 0 ziX11 rfl (by decide) zw373 rfl dX11_conflict_38 rfl rfl rfl ?_
    refine z_getN (v := .int (zgi sP 9)) X 1 0 6 9 ziX5 rfl (by decide) zw66 rfl dX11_conflict_41 rfl rfl rfl ?_
    refine z_icmp_ge (tgt := 96) X dX11_conflict_44 (by decide) (fun c44 => ?_) (fun c44 => ?_)
    · replace h := zif_t h c44
      refine z_iload_n X dX11_conflict_96 2 rfl ?_
      cases h
      exact z_xiret X hQ dX11_conflict_97 rfl [2, 3, 4, 5, 6, 7, 8] rfl (by decide) (by decide)
    · replace h := zif_f h c44
      refine z_aload_n X dX11_conflict_47 0 rfl ?_
      refine z_get (v := .ref (aP 0)) X 0 0 12 0 ziX11 rfl (by decide) zw373 rfl dX11_conflict_48 rfl rfl rfl ?_
      refine z_iload_n X dX11_conflict_51 3 rfl ?_
      obtain ⟨o52, ho52, h⟩ := zbind_of h
      refine z_callVi (st := []) (ws2 := [wX11 (zcT C) aO (aP 0) (aX 0) (aL 0) (aW 0) (aV 0) (aF 0) (aK 0) (aZ 0) (aR 0) aN sO, wX5 (zcT C) aP sP, wX9 (zcT C) aW (aP 0) (aS 0) (aD 0) (aQ 0) sW, wX7 (zcT C) aS sS, wX1 (zcT C) aD sD, wX4 (zcT C) aQ sQ, wX9 (zcT C) aV (aP 0) (aSv 0) (aDv 0) (aQv 0) sV, wX7 (zcT C) aSv sSv, wX1 (zcT C) aDv sDv]) X (metX5_isLive (zcl C) (zcD C) (zcT C) aP ho52) zmX5_isLive zw999 dX11_conflict_52 1 0 6 rfl rfl rfl rfl [1] rfl rfl [] rfl (by decide) trivial rfl rfl rfl (Nat.le_of_ble_eq_true rfl) rfl rfl ⟨Nat.le_of_ble_eq_true rfl, Nat.le_of_ble_eq_true rfl⟩ ⟨Nat.le_of_ble_eq_true rfl, Nat.le_of_ble_eq_true rfl⟩ ?_
      refine z_if_eq (tgt := 90) X dX11_conflict_55 (by decide) (fun c55 => ?_) (fun c55 => ?_)
      · replace h := zif_t h c55
        exact z_wid (c2 := 0) (s2 := 0) (by decide) (by decide) <| z_at (pc2 := 90) (lv2 := [(0, .ref (aO 0)), (1, .int x1), (2, .int x2), (3, .int x3)]) (st2 := []) (ws2 := [wX11 (zcT C) aO (aP 0) (aX 0) (aL 0) (aW 0) (aV 0) (aF 0) (aK 0) (aZ 0) (aR 0) aN sO, wX5 (zcT C) aP sP, wX9 (zcT C) aW (aP 0) (aS 0) (aD 0) (aQ 0) sW, wX7 (zcT C) aS sS, wX1 (zcT C) aD sD, wX4 (zcT C) aQ sQ, wX9 (zcT C) aV (aP 0) (aSv 0) (aDv 0) (aQv 0) sV, wX7 (zcT C) aSv sSv, wX1 (zcT C) aDv sDv]) rfl rfl rfl [0, 1, 2, 3] rfl (bX11_conflict_90 X Y hQ ih h)
      · replace h := zif_f h c55
        refine z_iconst (v := (1 : Int32)) X dX11_conflict_58 rfl ?_
        refine z_iload_n X dX11_conflict_59 3 rfl ?_
        refine z_ishl X dX11_conflict_60 ?_
        obtain ⟨v61, ev61, h⟩ := zlet_of h
        refine z_topi ev61 ?_
        refine z_istore (lv2 := [(4, .int v61), (0, .ref (aO 0)), (1, .int x1), (2, .int x2), (3, .int x3)]) X dX11_conflict_61 (by decide) rfl ?_
        refine z_aload_n X dX11_conflict_63 1 rfl ?_
        refine z_get (v := .ref (aV 0)) X 0 0 12 4 ziX11 rfl (by decide) zw377 rfl dX11_conflict_64 rfl rfl rfl ?_
        refine z_iload_n X dX11_conflict_67 2 rfl ?_
        refine z_iload X dX11_conflict_68 0 rfl ?_
        refine z_ior X dX11_conflict_70 ?_
        obtain ⟨o71, ho71, h⟩ := zbind_of h
        refine z_callVi (st := []) (ws2 := [wX11 (zcT C) aO (aP 0) (aX 0) (aL 0) (aW 0) (aV 0) (aF 0) (aK 0) (aZ 0) (aR 0) aN sO, wX5 (zcT C) aP sP, wX9 (zcT C) aW (aP 0) (aS 0) (aD 0) (aQ 0) sW, wX7 (zcT C) aS sS, wX1 (zcT C) aD sD, wX4 (zcT C) aQ sQ, wX9 (zcT C) aV (aP 0) (aSv 0) (aDv 0) (aQv 0) o71.2.1, wX7 (zcT C) aSv o71.2.2.1, wX1 (zcT C) aDv o71.2.2.2]) X (metX9_findsFit (zcl C) (zcD C) (zcT C) aV aP aSv aDv aQv ho71) zmX9_findsFit zw1238 dX11_conflict_71 6 0 10 rfl rfl rfl rfl [6, 1, 7, 8] rfl rfl [6, 7, 8] rfl (by decide) ⟨zsX9 , ⟨zsX7 , ⟨zsX1 , trivial⟩⟩⟩ rfl rfl rfl (Nat.le_of_ble_eq_true rfl) rfl rfl ⟨Nat.le_of_ble_eq_true rfl, Nat.le_of_ble_eq_true rfl⟩ ⟨Nat.le_of_ble_eq_true rfl, Nat.le_of_ble_eq_true rfl⟩ ?_
        refine z_if_eq (tgt := 85) X dX11_conflict_74 (by decide) (fun c74 => ?_) (fun c74 => ?_)
        · replace h := zif_t h c74
          refine z_iload_n X dX11_conflict_85 2 rfl ?_
          refine z_iload X dX11_conflict_86 0 rfl ?_
          refine z_ior X dX11_conflict_88 ?_
          obtain ⟨v89, ev89, h⟩ := zlet_of h
          refine z_topi ev89 ?_
          refine z_istore_n (lv2 := [(1, .int v89), (4, .int v61), (0, .ref (aO 0)), (2, .int x2), (3, .int x3)]) X dX11_conflict_89 rfl (by decide) rfl ?_
          exact z_wid (c2 := 0) (s2 := 0) (by decide) (by decide) <| z_at (pc2 := 90) (lv2 := [(0, .ref (aO 0)), (1, .int v89), (2, .int x2), (3, .int x3)]) (st2 := []) (ws2 := [wX11 (zcT C) aO (aP 0) (aX 0) (aL 0) (aW 0) (aV 0) (aF 0) (aK 0) (aZ 0) (aR 0) aN sO, wX5 (zcT C) aP sP, wX9 (zcT C) aW (aP 0) (aS 0) (aD 0) (aQ 0) sW, wX7 (zcT C) aS sS, wX1 (zcT C) aD sD, wX4 (zcT C) aQ sQ, wX9 (zcT C) aV (aP 0) (aSv 0) (aDv 0) (aQv 0) o71.2.1, wX7 (zcT C) aSv o71.2.2.1, wX1 (zcT C) aDv o71.2.2.2]) rfl rfl rfl [2, 0, 3, 4] rfl (bX11_conflict_90 X Y hQ ih h)
        · replace h := zif_f h c74
          refine z_iload_n X dX11_conflict_77 3 rfl ?_
          refine z_iload X dX11_conflict_78 0 rfl ?_
          refine z_ior X dX11_conflict_80 ?_
          obtain ⟨v81, ev81, h⟩ := zlet_of h
          refine z_topi ev81 ?_
          refine z_istore_n (lv2 := [(2, .int v81), (4, .int v61), (0, .ref (aO 0)), (1, .int x1), (3, .int x3)]) X dX11_conflict_81 rfl (by decide) rfl ?_
          refine z_goto (tgt := 90) X dX11_conflict_82 (by decide) ?_
          exact z_wid (c2 := 0) (s2 := 0) (by decide) (by decide) <| z_at (pc2 := 90) (lv2 := [(0, .ref (aO 0)), (1, .int x1), (2, .int v81), (3, .int x3)]) (st2 := []) (ws2 := [wX11 (zcT C) aO (aP 0) (aX 0) (aL 0) (aW 0) (aV 0) (aF 0) (aK 0) (aZ 0) (aR 0) aN sO, wX5 (zcT C) aP sP, wX9 (zcT C) aW (aP 0) (aS 0) (aD 0) (aQ 0) sW, wX7 (zcT C) aS sS, wX1 (zcT C) aD sD, wX4 (zcT C) aQ sQ, wX9 (zcT C) aV (aP 0) (aSv 0) (aDv 0) (aQv 0) o71.2.1, wX7 (zcT C) aSv o71.2.2.1, wX1 (zcT C) aDv o71.2.2.2]) rfl rfl rfl [2, 3, 0, 4] rfl (bX11_conflict_90 X Y hQ ih h)
theorem bX11_conflict_0 {C : zCtx} (X : zFx C cX11_conflict 5 RX11 rmX11_conflict (some .int)) {base : Nat} (Y : zFy C base) {aO : Nat → Nat} {aP : Nat → Nat} {aX : Nat → Nat} {aL : Nat → Nat} {aW : Nat → Nat} {aV : Nat → Nat} {aF : Nat → Nat} {aK : Nat → Nat} {aZ : Nat → Nat} {aR : Nat → Nat} {aS : Nat → Nat} {aD : Nat → Nat} {aQ : Nat → Nat} {aSv : Nat → Nat} {aDv : Nat → Nat} {aQv : Nat → Nat} {aN : Nat → Nat} {sO : zSt} {sP : zSt} {sW : zSt} {sS : zSt} {sD : zSt} {sQ : zSt} {sV : zSt} {sSv : zSt} {sDv : zSt} {out : (String ⊕ Int32) × zSt × zSt × zSt × zSt × zSt × zSt × zSt} (hQ : zXi C out.1 [wX9 (zcT C) aW (aP 0) (aS 0) (aD 0) (aQ 0) out.2.1, wX7 (zcT C) aS out.2.2.1, wX1 (zcT C) aD out.2.2.2.1, wX4 (zcT C) aQ out.2.2.2.2.1, wX9 (zcT C) aV (aP 0) (aSv 0) (aDv 0) (aQv 0) out.2.2.2.2.2.1, wX7 (zcT C) aSv out.2.2.2.2.2.2.1, wX1 (zcT C) aDv out.2.2.2.2.2.2.2] 1 6) (h : fX11_conflict sO sP sW sS sD sQ sV sSv sDv = some out) : zG C 5 [2, 3, 4, 5, 6, 7, 8] 0 0 [wX11 (zcT C) aO (aP 0) (aX 0) (aL 0) (aW 0) (aV 0) (aF 0) (aK 0) (aZ 0) (aR 0) aN sO, wX5 (zcT C) aP sP, wX9 (zcT C) aW (aP 0) (aS 0) (aD 0) (aQ 0) sW, wX7 (zcT C) aS sS, wX1 (zcT C) aD sD, wX4 (zcT C) aQ sQ, wX9 (zcT C) aV (aP 0) (aSv 0) (aDv 0) (aQv 0) sV, wX7 (zcT C) aSv sSv, wX1 (zcT C) aDv sDv] 0 [(0, .ref (aO 0))] [] := by
  unfold fX11_conflict at h
  refine z_aload_n X dX11_conflict_0 0 rfl ?_
  refine z_get (v := .ref (aW 0)) X 0 0 12 3 ziX11 rfl (by decide) zw376 rfl dX11_conflict_1 rfl rfl rfl ?_
  obtain ⟨o4, ho4, h⟩ := zbind_of h
  refine z_callVv (st := []) (ws2 := [wX11 (zcT C) aO (aP 0) (aX 0) (aL 0) (aW 0) (aV 0) (aF 0) (aK 0) (aZ 0) (aR 0) aN sO, wX5 (zcT C) aP sP, wX9 (zcT C) aW (aP 0) (aS 0) (aD 0) (aQ 0) o4.1, wX7 (zcT C) aS o4.2.1, wX1 (zcT C) aD o4.2.2.1, wX4 (zcT C) aQ o4.2.2.2, wX9 (zcT C) aV (aP 0) (aSv 0) (aDv 0) (aQv 0) sV, wX7 (zcT C) aSv sSv, wX1 (zcT C) aDv sDv]) X (metX9_findAll (zcl C) (zcD C) (zcT C) aW aP aS aD aQ ho4) zmX9_findAll zw488 dX11_conflict_4 2 0 10 rfl rfl rfl rfl [2, 1, 3, 4, 5] rfl rfl [2, 3, 4, 5] rfl (by decide) ⟨zsX9 , ⟨zsX7 , ⟨zsX1 , ⟨zsX4 , trivial⟩⟩⟩⟩ rfl rfl rfl (Nat.le_of_ble_eq_true rfl) rfl rfl ⟨Nat.le_of_ble_eq_true rfl, Nat.le_of_ble_eq_true rfl⟩ ⟨Nat.le_of_ble_eq_true rfl, Nat.le_of_ble_eq_true rfl⟩ ?_
  refine z_aload_n X dX11_conflict_7 0 rfl ?_
  refine z_get (v := .ref (aW 0)) X 0 0 12 3 ziX11 rfl (by decide) zw376 rfl dX11_conflict_8 rfl rfl rfl ?_
  refine z_getN (v := .int (zgi o4.1 5)) X 2 0 10 5 ziX9 rfl (by decide) zw249 rfl dX11_conflict_11 rfl rfl rfl ?_
  refine z_bipush (v := (105 : Int32)) X dX11_conflict_14 rfl ?_
  refine z_icmp_eq (tgt := 30) X dX11_conflict_16 (by decide) (fun c16 => ?_) (fun c16 => ?_)
  · replace h := zif_t h c16
    refine z_iconst (v := (0 : Int32)) X dX11_conflict_30 rfl ?_
    refine z_istore_n (lv2 := [(1, .int (0 : Int32)), (0, .ref (aO 0))]) X dX11_conflict_31 rfl (by decide) rfl ?_
    refine z_iconst (v := (0 : Int32)) X dX11_conflict_32 rfl ?_
    refine z_istore_n (lv2 := [(2, .int (0 : Int32)), (1, .int (0 : Int32)), (0, .ref (aO 0))]) X dX11_conflict_33 rfl (by decide) rfl ?_
    refine z_iconst (v := (0 : Int32)) X dX11_conflict_34 rfl ?_
    refine z_istore_n (lv2 := [(3, .int (0 : Int32)), (2, .int (0 : Int32)), (1, .int (0 : Int32)), (0, .ref (aO 0))]) X dX11_conflict_35 rfl (by decide) rfl ?_
    exact z_wid (c2 := 0) (s2 := 0) (by decide) (by decide) <| z_at (pc2 := 36) (lv2 := [(0, .ref (aO 0)), (1, .int (0 : Int32)), (2, .int (0 : Int32)), (3, .int (0 : Int32))]) (st2 := []) (ws2 := [wX11 (zcT C) aO (aP 0) (aX 0) (aL 0) (aW 0) (aV 0) (aF 0) (aK 0) (aZ 0) (aR 0) aN sO, wX5 (zcT C) aP sP, wX9 (zcT C) aW (aP 0) (aS 0) (aD 0) (aQ 0) o4.1, wX7 (zcT C) aS o4.2.1, wX1 (zcT C) aD o4.2.2.1, wX4 (zcT C) aQ o4.2.2.2, wX9 (zcT C) aV (aP 0) (aSv 0) (aDv 0) (aQv 0) sV, wX7 (zcT C) aSv sSv, wX1 (zcT C) aDv sDv]) rfl rfl rfl [3, 2, 1, 0] rfl (bX11_conflict_36 X Y hQ  6000 o4.1 o4.2.1 o4.2.2.1 o4.2.2.2 sV sSv sDv (0 : Int32) (0 : Int32) (0 : Int32) h)
  · replace h := zif_f h c16
    cases h
    exact z_throwWi X Y hQ rfl zt_RX11_98 zs_1237 dX11_conflict_19 dX11_conflict_22 dX11_conflict_23 dX11_conflict_26 dX11_conflict_29 [2, 3, 4, 5, 6, 7, 8] rfl (by decide) (by decide) (by decide) (by decide) (by decide) (by decide)
theorem metX11_conflict (l : Launch) (hst : l.stackTraces = false) (D : va_G) (T : Nat → ClassId) (aO : Nat → Nat) (aP : Nat → Nat) (aX : Nat → Nat) (aL : Nat → Nat) (aW : Nat → Nat) (aV : Nat → Nat) (aF : Nat → Nat) (aK : Nat → Nat) (aZ : Nat → Nat) (aR : Nat → Nat) (aS : Nat → Nat) (aD : Nat → Nat) (aQ : Nat → Nat) (aSv : Nat → Nat) (aDv : Nat → Nat) (aQv : Nat → Nat) (aN : Nat → Nat) {sO : zSt} {sP : zSt} {sW : zSt} {sS : zSt} {sD : zSt} {sQ : zSt} {sV : zSt} {sSv : zSt} {sDv : zSt} {out : (String ⊕ Int32) × zSt × zSt × zSt × zSt × zSt × zSt × zSt} (hf : fX11_conflict sO sP sW sS sD sQ sV sSv sDv = some out) (base sz : Nat) : vx_Met l yX11_conflict (zws yX11_conflict cX11_conflict 5 (some .int)) rmX11_conflict (zPx D T [.ref (aO 0)] [wX11 T aO (aP 0) (aX 0) (aL 0) (aW 0) (aV 0) (aF 0) (aK 0) (aZ 0) (aR 0) aN sO, wX5 T aP sP, wX9 T aW (aP 0) (aS 0) (aD 0) (aQ 0) sW, wX7 T aS sS, wX1 T aD sD, wX4 T aQ sQ, wX9 T aV (aP 0) (aSv 0) (aDv 0) (aQv 0) sV, wX7 T aSv sSv, wX1 T aDv sDv] [wX9 T aW (aP 0) (aS 0) (aD 0) (aQ 0) sW, wX7 T aS sS, wX1 T aD sD, wX4 T aQ sQ, wX9 T aV (aP 0) (aSv 0) (aDv 0) (aQv 0) sV, wX7 T aSv sSv, wX1 T aDv sDv] base sz) (zQxi D out.1 [wX9 T aW (aP 0) (aS 0) (aD 0) (aQ 0) out.2.1, wX7 T aS out.2.2.1, wX1 T aD out.2.2.2.1, wX4 T aQ out.2.2.2.2.1, wX9 T aV (aP 0) (aSv 0) (aDv 0) (aQv 0) out.2.2.2.2.2.1, wX7 T aSv out.2.2.2.2.2.2.1, wX1 T aDv out.2.2.2.2.2.2.2] (zA [wX9 T aW (aP 0) (aS 0) (aD 0) (aQ 0) sW, wX7 T aS sS, wX1 T aD sD, wX4 T aQ sQ, wX9 T aV (aP 0) (aSv 0) (aDv 0) (aQv 0) sV, wX7 T aSv sSv, wX1 T aDv sDv] sz)) (zXxi D out.1 [wX9 T aW (aP 0) (aS 0) (aD 0) (aQ 0) out.2.1, wX7 T aS out.2.2.1, wX1 T aD out.2.2.2.1, wX4 T aQ out.2.2.2.2.1, wX9 T aV (aP 0) (aSv 0) (aDv 0) (aQv 0) out.2.2.2.2.2.1, wX7 T aSv out.2.2.2.2.2.2.1, wX1 T aDv out.2.2.2.2.2.2.2] (zA [wX9 T aW (aP 0) (aS 0) (aD 0) (aQ 0) sW, wX7 T aS sS, wX1 T aD sD, wX4 T aQ sQ, wX9 T aV (aP 0) (aSv 0) (aDv 0) (aQv 0) sV, wX7 T aSv sSv, wX1 T aDv sDv] sz)) 1 6 (zA [wX9 T aW (aP 0) (aS 0) (aD 0) (aQ 0) sW, wX7 T aS sS, wX1 T aD sD, wX4 T aQ sQ, wX9 T aV (aP 0) (aSv 0) (aDv 0) (aQv 0) sV, wX7 T aSv sSv, wX1 T aDv sDv] sz) :=
  zMetXi hst (D := D) (T := T) (av := [.ref (aO 0)]) (ws := fun T => [wX11 T aO (aP 0) (aX 0) (aL 0) (aW 0) (aV 0) (aF 0) (aK 0) (aZ 0) (aR 0) aN sO, wX5 T aP sP, wX9 T aW (aP 0) (aS 0) (aD 0) (aQ 0) sW, wX7 T aS sS, wX1 T aD sD, wX4 T aQ sQ, wX9 T aV (aP 0) (aSv 0) (aDv 0) (aQv 0) sV, wX7 T aSv sSv, wX1 T aDv sDv]) (wm := fun T => [wX9 T aW (aP 0) (aS 0) (aD 0) (aQ 0) sW, wX7 T aS sS, wX1 T aD sD, wX4 T aQ sQ, wX9 T aV (aP 0) (aSv 0) (aDv 0) (aQv 0) sV, wX7 T aSv sSv, wX1 T aDv sDv]) (gm1 := fun T => [wX9 T aW (aP 0) (aS 0) (aD 0) (aQ 0) out.2.1, wX7 T aS out.2.2.1, wX1 T aD out.2.2.2.1, wX4 T aQ out.2.2.2.2.1, wX9 T aV (aP 0) (aSv 0) (aDv 0) (aQv 0) out.2.2.2.2.2.1, wX7 T aSv out.2.2.2.2.2.2.1, wX1 T aDv out.2.2.2.2.2.2.2]) (o := out.1) (lv0 := [(0, .ref (aO 0))]) [2, 3, 4, 5, 6, 7, 8] (by decide +kernel) rfl (Nat.le_of_ble_eq_true rfl) rfl (fun C base X Y hQ => bX11_conflict_0 X Y hQ hf) base sz
/-- private void demandWhole(); of Tableaufloor -/
abbrev rmX11_demandWhole : Room := { frames := 6, cells := 1, slots := 6, locals := 131 }
def fX11_demandWhole (sO : zSt) (sP : zSt) (sZ : zSt) (sE : zSt) (sH : zSt) : Option ((String ⊕ Unit) × zSt × zSt × zSt) :=
  ((fX5_isNarrow sP).bind (fun o4 =>
    (if o4 = 0 then
    some (.inl "java/lang/UnsupportedOperationException", sZ, sE, sH)
  else
    ((fX10_look sZ sP sE sH).bind (fun o25 =>
      (if (zgi o25.1 3) = 0 then
      some (.inl "java/util/NoSuchElementException", o25.1, o25.2.1, o25.2.2)
    else
      some (.inr (), o25.1, o25.2.1, o25.2.2)))))))
theorem bX11_demandWhole_0 {C : zCtx} (X : zFx C cX11_demandWhole 1 RX11 rmX11_demandWhole none) {base : Nat} (Y : zFy C base) {aO : Nat → Nat} {aP : Nat → Nat} {aX : Nat → Nat} {aL : Nat → Nat} {aW : Nat → Nat} {aV : Nat → Nat} {aF : Nat → Nat} {aK : Nat → Nat} {aZ : Nat → Nat} {aR : Nat → Nat} {aE : Nat → Nat} {aH : Nat → Nat} {aN : Nat → Nat} {sO : zSt} {sP : zSt} {sZ : zSt} {sE : zSt} {sH : zSt} {out : (String ⊕ Unit) × zSt × zSt × zSt} (hQ : zXv C out.1 [wX10 (zcT C) aZ (aP 0) (aE 0) (aH 0) out.2.1, wX4 (zcT C) aE out.2.2.1, wX4 (zcT C) aH out.2.2.2] 1 6) (h : fX11_demandWhole sO sP sZ sE sH = some out) : zG C 1 [2, 3, 4] 0 0 [wX11 (zcT C) aO (aP 0) (aX 0) (aL 0) (aW 0) (aV 0) (aF 0) (aK 0) (aZ 0) (aR 0) aN sO, wX5 (zcT C) aP sP, wX10 (zcT C) aZ (aP 0) (aE 0) (aH 0) sZ, wX4 (zcT C) aE sE, wX4 (zcT C) aH sH] 0 [(0, .ref (aO 0))] [] := by
  unfold fX11_demandWhole at h
  refine z_aload_n X dX11_demandWhole_0 0 rfl ?_
  refine z_get (v := .ref (aP 0)) X 0 0 12 0 ziX11 rfl (by decide) zw373 rfl dX11_demandWhole_1 rfl rfl rfl ?_
  obtain ⟨o4, ho4, h⟩ := zbind_of h
  refine z_callVi (st := []) (ws2 := [wX11 (zcT C) aO (aP 0) (aX 0) (aL 0) (aW 0) (aV 0) (aF 0) (aK 0) (aZ 0) (aR 0) aN sO, wX5 (zcT C) aP sP, wX10 (zcT C) aZ (aP 0) (aE 0) (aH 0) sZ, wX4 (zcT C) aE sE, wX4 (zcT C) aH sH]) X (metX5_isNarrow (zcl C) (zcD C) (zcT C) aP ho4) zmX5_isNarrow zw1253 dX11_demandWhole_4 1 0 6 rfl rfl rfl rfl [1] rfl rfl [] rfl (by decide) trivial rfl rfl rfl (Nat.le_of_ble_eq_true rfl) rfl rfl ⟨Nat.le_of_ble_eq_true rfl, Nat.le_of_ble_eq_true rfl⟩ ⟨Nat.le_of_ble_eq_true rfl, Nat.le_of_ble_eq_true rfl⟩ ?_
  refine z_if_ne (tgt := 21) X dX11_demandWhole_7 (by decide) (fun c7 => ?_) (fun c7 => ?_)
  · replace h := zif_f h c7
    refine z_aload_n X dX11_demandWhole_21 0 rfl ?_
    refine z_get (v := .ref (aZ 0)) X 0 0 12 7 ziX11 rfl (by decide) zw380 rfl dX11_demandWhole_22 rfl rfl rfl ?_
    obtain ⟨o25, ho25, h⟩ := zbind_of h
    refine z_callVv (st := []) (ws2 := [wX11 (zcT C) aO (aP 0) (aX 0) (aL 0) (aW 0) (aV 0) (aF 0) (aK 0) (aZ 0) (aR 0) aN sO, wX5 (zcT C) aP sP, wX10 (zcT C) aZ (aP 0) (aE 0) (aH 0) o25.1, wX4 (zcT C) aE o25.2.1, wX4 (zcT C) aH o25.2.2]) X (metX10_look (zcl C) (zcD C) (zcT C) aZ aP aE aH ho25) zmX10_look zw1258 dX11_demandWhole_25 2 0 11 rfl rfl rfl rfl [2, 1, 3, 4] rfl rfl [2, 3, 4] rfl (by decide) ⟨zsX10 , ⟨zsX4 , ⟨zsX4 , trivial⟩⟩⟩ rfl rfl rfl (Nat.le_of_ble_eq_true rfl) rfl rfl ⟨Nat.le_of_ble_eq_true rfl, Nat.le_of_ble_eq_true rfl⟩ ⟨Nat.le_of_ble_eq_true rfl, Nat.le_of_ble_eq_true rfl⟩ ?_
    refine z_aload_n X dX11_demandWhole_28 0 rfl ?_
    refine z_get (v := .ref (aZ 0)) X 0 0 12 7 ziX11 rfl (by decide) zw380 rfl dX11_demandWhole_29 rfl rfl rfl ?_
    refine z_getN (v := .int (zgi o25.1 3)) X 2 0 11 3 ziX10 rfl (by decide) zw341 rfl dX11_demandWhole_32 rfl rfl rfl ?_
    refine z_if_ne (tgt := 49) X dX11_demandWhole_35 (by decide) (fun c35 => ?_) (fun c35 => ?_)
    · replace h := zif_f h c35
      cases h
      exact z_xvret X hQ dX11_demandWhole_49 rfl [2, 3, 4] rfl (by decide) (by decide)
    · replace h := zif_t h c35
      cases h
      exact z_throwNWv X Y hQ rfl zt_RX11_155 zs_1276 dX11_demandWhole_38 dX11_demandWhole_41 dX11_demandWhole_42 dX11_demandWhole_45 dX11_demandWhole_48 [2, 3, 4] rfl (by decide) (by decide) (by decide) (by decide) (by decide) (by decide)
  · replace h := zif_t h c7
    cases h
    exact z_throwWv X Y hQ rfl zt_RX11_166 zs_1257 dX11_demandWhole_10 dX11_demandWhole_13 dX11_demandWhole_14 dX11_demandWhole_17 dX11_demandWhole_20 [2, 3, 4] rfl (by decide) (by decide) (by decide) (by decide) (by decide) (by decide)
theorem metX11_demandWhole (l : Launch) (hst : l.stackTraces = false) (D : va_G) (T : Nat → ClassId) (aO : Nat → Nat) (aP : Nat → Nat) (aX : Nat → Nat) (aL : Nat → Nat) (aW : Nat → Nat) (aV : Nat → Nat) (aF : Nat → Nat) (aK : Nat → Nat) (aZ : Nat → Nat) (aR : Nat → Nat) (aE : Nat → Nat) (aH : Nat → Nat) (aN : Nat → Nat) {sO : zSt} {sP : zSt} {sZ : zSt} {sE : zSt} {sH : zSt} {out : (String ⊕ Unit) × zSt × zSt × zSt} (hf : fX11_demandWhole sO sP sZ sE sH = some out) (base sz : Nat) : vx_Met l yX11_demandWhole (zws yX11_demandWhole cX11_demandWhole 1 none) rmX11_demandWhole (zPx D T [.ref (aO 0)] [wX11 T aO (aP 0) (aX 0) (aL 0) (aW 0) (aV 0) (aF 0) (aK 0) (aZ 0) (aR 0) aN sO, wX5 T aP sP, wX10 T aZ (aP 0) (aE 0) (aH 0) sZ, wX4 T aE sE, wX4 T aH sH] [wX10 T aZ (aP 0) (aE 0) (aH 0) sZ, wX4 T aE sE, wX4 T aH sH] base sz) (zQxv D out.1 [wX10 T aZ (aP 0) (aE 0) (aH 0) out.2.1, wX4 T aE out.2.2.1, wX4 T aH out.2.2.2] (zA [wX10 T aZ (aP 0) (aE 0) (aH 0) sZ, wX4 T aE sE, wX4 T aH sH] sz)) (zXxv D out.1 [wX10 T aZ (aP 0) (aE 0) (aH 0) out.2.1, wX4 T aE out.2.2.1, wX4 T aH out.2.2.2] (zA [wX10 T aZ (aP 0) (aE 0) (aH 0) sZ, wX4 T aE sE, wX4 T aH sH] sz)) 1 6 (zA [wX10 T aZ (aP 0) (aE 0) (aH 0) sZ, wX4 T aE sE, wX4 T aH sH] sz) :=
  zMetXv hst (D := D) (T := T) (av := [.ref (aO 0)]) (ws := fun T => [wX11 T aO (aP 0) (aX 0) (aL 0) (aW 0) (aV 0) (aF 0) (aK 0) (aZ 0) (aR 0) aN sO, wX5 T aP sP, wX10 T aZ (aP 0) (aE 0) (aH 0) sZ, wX4 T aE sE, wX4 T aH sH]) (wm := fun T => [wX10 T aZ (aP 0) (aE 0) (aH 0) sZ, wX4 T aE sE, wX4 T aH sH]) (gm1 := fun T => [wX10 T aZ (aP 0) (aE 0) (aH 0) out.2.1, wX4 T aE out.2.2.1, wX4 T aH out.2.2.2]) (o := out.1) (lv0 := [(0, .ref (aO 0))]) [2, 3, 4] (by decide +kernel) rfl (Nat.le_of_ble_eq_true rfl) rfl (fun C base X Y hQ => bX11_demandWhole_0 X Y hQ hf) base sz
/-- public int wholeAt(int) throws java.lang.IndexOutOfBoundsException, java.lang.UnsupportedOperationException, java.util.NoSuchElementException; of Tableaufloor -/
abbrev rmX11_wholeAt : Room := { frames := 7, cells := 2, slots := 12, locals := 151 }
def fX11_wholeAt (sO : zSt) (sP : zSt) (sZ : zSt) (sE : zSt) (sH : zSt) (x1 : Int32) : Option ((String ⊕ Int32) × zSt × zSt × zSt) :=
  ((fX11_demandVariable sO sP x1).bind (fun o2 =>
    (Sum.elim (fun E2 => some (.inl E2, sZ, sE, sH)) (fun r2 =>
    ((fX11_demandWhole sO sP sZ sE sH).bind (fun o6 =>
    (Sum.elim (fun E6 => some (.inl E6, o6.2.1, o6.2.2.1, o6.2.2.2)) (fun r6 =>
    ((fX4_topOf o6.2.2.1 x1).bind (fun o17 =>
    some (.inr ((o17).toInt32), o6.2.1, o6.2.2.1, o6.2.2.2)))) o6.1)))) o2)))
theorem bX11_wholeAt_0 {C : zCtx} (X : zFx C cX11_wholeAt 2 RX11 rmX11_wholeAt (some .int)) {base : Nat} (Y : zFy C base) {aO : Nat → Nat} {aP : Nat → Nat} {aX : Nat → Nat} {aL : Nat → Nat} {aW : Nat → Nat} {aV : Nat → Nat} {aF : Nat → Nat} {aK : Nat → Nat} {aZ : Nat → Nat} {aR : Nat → Nat} {aE : Nat → Nat} {aH : Nat → Nat} {aN : Nat → Nat} {sO : zSt} {sP : zSt} {sZ : zSt} {sE : zSt} {sH : zSt} {x1 : Int32} {out : (String ⊕ Int32) × zSt × zSt × zSt} (hQ : zXi C out.1 [wX10 (zcT C) aZ (aP 0) (aE 0) (aH 0) out.2.1, wX4 (zcT C) aE out.2.2.1, wX4 (zcT C) aH out.2.2.2] 2 12) (h : fX11_wholeAt sO sP sZ sE sH x1 = some out) : zG C 2 [2, 3, 4] 0 0 [wX11 (zcT C) aO (aP 0) (aX 0) (aL 0) (aW 0) (aV 0) (aF 0) (aK 0) (aZ 0) (aR 0) aN sO, wX5 (zcT C) aP sP, wX10 (zcT C) aZ (aP 0) (aE 0) (aH 0) sZ, wX4 (zcT C) aE sE, wX4 (zcT C) aH sH] 0 [(0, .ref (aO 0)), (1, .int x1)] [] := by
  unfold fX11_wholeAt at h
  refine z_aload_n X dX11_wholeAt_0 0 rfl ?_
  refine z_iload_n X dX11_wholeAt_1 1 rfl ?_
  obtain ⟨o2, ho2, h⟩ := zbind_of h
  refine z_xcallVv (st := []) (ws2 := [wX11 (zcT C) aO (aP 0) (aX 0) (aL 0) (aW 0) (aV 0) (aF 0) (aK 0) (aZ 0) (aR 0) aN sO, wX5 (zcT C) aP sP, wX10 (zcT C) aZ (aP 0) (aE 0) (aH 0) sZ, wX4 (zcT C) aE sE, wX4 (zcT C) aH sH]) X Y (metX11_demandVariable (zcl C) Y.2.2.2.2.1 (zcD C) (zcT C) aO aP aX aL aW aV aF aK aZ aR aN ho2) zmX11_demandVariable zw858 dX11_wholeAt_2 0 0 12 rfl rfl rfl rfl [0, 1] rfl rfl [] rfl (by decide) trivial rfl rfl rfl (Nat.le_of_ble_eq_true rfl) rfl rfl ⟨Nat.le_of_ble_eq_true rfl, Nat.le_of_ble_eq_true rfl⟩ ⟨Nat.le_of_ble_eq_true rfl, Nat.le_of_ble_eq_true rfl⟩ (fun E2 hE2 => ?_) (fun r2 hr2 => ?_)
  · replace h := zsum_l h hE2
    cases h
    exact z_xouti X Y hQ rfl [2, 3, 4] rfl (by decide) (by decide)
  replace h := zsum_r h hr2
  refine z_aload_n X dX11_wholeAt_5 0 rfl ?_
  obtain ⟨o6, ho6, h⟩ := zbind_of h
  refine z_xcallVv (st := []) (ws2 := [wX11 (zcT C) aO (aP 0) (aX 0) (aL 0) (aW 0) (aV 0) (aF 0) (aK 0) (aZ 0) (aR 0) aN sO, wX5 (zcT C) aP sP, wX10 (zcT C) aZ (aP 0) (aE 0) (aH 0) o6.2.1, wX4 (zcT C) aE o6.2.2.1, wX4 (zcT C) aH o6.2.2.2]) X Y (metX11_demandWhole (zcl C) Y.2.2.2.2.1 (zcD C) (zcT C) aO aP aX aL aW aV aF aK aZ aR aE aH aN ho6) zmX11_demandWhole zw1249 dX11_wholeAt_6 0 0 12 rfl rfl rfl rfl [0, 1, 2, 3, 4] rfl rfl [2, 3, 4] rfl (by decide) ⟨zsX10 , ⟨zsX4 , ⟨zsX4 , trivial⟩⟩⟩ rfl rfl rfl (Nat.le_of_ble_eq_true rfl) rfl rfl ⟨Nat.le_of_ble_eq_true rfl, Nat.le_of_ble_eq_true rfl⟩ ⟨Nat.le_of_ble_eq_true rfl, Nat.le_of_ble_eq_true rfl⟩ (fun E6 hE6 => ?_) (fun r6 hr6 => ?_)
  · replace h := zsum_l h hE6
    cases h
    exact z_xouti X Y hQ rfl [2, 3, 4] rfl (by decide) (by decide)
  replace h := zsum_r h hr6
  refine z_aload_n X dX11_wholeAt_9 0 rfl ?_
  refine z_get (v := .ref (aZ 0)) X 0 0 12 7 ziX11 rfl (by decide) zw380 rfl dX11_wholeAt_10 rfl rfl rfl ?_
  refine z_getN (v := .ref (aE 0)) X 2 0 11 1 ziX10 rfl (by decide) zw338 rfl dX11_wholeAt_13 rfl rfl rfl ?_
  refine z_iload_n X dX11_wholeAt_16 1 rfl ?_
  obtain ⟨o17, ho17, h⟩ := zbind_of h
  refine z_callVl (st := []) (ws2 := [wX11 (zcT C) aO (aP 0) (aX 0) (aL 0) (aW 0) (aV 0) (aF 0) (aK 0) (aZ 0) (aR 0) aN sO, wX5 (zcT C) aP sP, wX10 (zcT C) aZ (aP 0) (aE 0) (aH 0) o6.2.1, wX4 (zcT C) aE o6.2.2.1, wX4 (zcT C) aH o6.2.2.2]) X (metX4_topOf (zcl C) (zcD C) (zcT C) aE ho17) zmX4_topOf zw1175 dX11_wholeAt_17 3 0 5 rfl rfl rfl rfl [3] rfl rfl [] rfl (by decide) trivial rfl rfl rfl (Nat.le_of_ble_eq_true rfl) rfl rfl ⟨Nat.le_of_ble_eq_true rfl, Nat.le_of_ble_eq_true rfl⟩ ⟨Nat.le_of_ble_eq_true rfl, Nat.le_of_ble_eq_true rfl⟩ ?_
  refine z_l2i X dX11_wholeAt_20 ?_
  cases h
  exact z_xiret X hQ dX11_wholeAt_21 rfl [2, 3, 4] rfl (by decide) (by decide)
theorem metX11_wholeAt (l : Launch) (hst : l.stackTraces = false) (D : va_G) (T : Nat → ClassId) (aO : Nat → Nat) (aP : Nat → Nat) (aX : Nat → Nat) (aL : Nat → Nat) (aW : Nat → Nat) (aV : Nat → Nat) (aF : Nat → Nat) (aK : Nat → Nat) (aZ : Nat → Nat) (aR : Nat → Nat) (aE : Nat → Nat) (aH : Nat → Nat) (aN : Nat → Nat) {sO : zSt} {sP : zSt} {sZ : zSt} {sE : zSt} {sH : zSt} {x1 : Int32} {out : (String ⊕ Int32) × zSt × zSt × zSt} (hf : fX11_wholeAt sO sP sZ sE sH x1 = some out) (base sz : Nat) : vx_Met l yX11_wholeAt (zws yX11_wholeAt cX11_wholeAt 2 (some .int)) rmX11_wholeAt (zPx D T [.ref (aO 0), .int x1] [wX11 T aO (aP 0) (aX 0) (aL 0) (aW 0) (aV 0) (aF 0) (aK 0) (aZ 0) (aR 0) aN sO, wX5 T aP sP, wX10 T aZ (aP 0) (aE 0) (aH 0) sZ, wX4 T aE sE, wX4 T aH sH] [wX10 T aZ (aP 0) (aE 0) (aH 0) sZ, wX4 T aE sE, wX4 T aH sH] base sz) (zQxi D out.1 [wX10 T aZ (aP 0) (aE 0) (aH 0) out.2.1, wX4 T aE out.2.2.1, wX4 T aH out.2.2.2] (zA [wX10 T aZ (aP 0) (aE 0) (aH 0) sZ, wX4 T aE sE, wX4 T aH sH] sz)) (zXxi D out.1 [wX10 T aZ (aP 0) (aE 0) (aH 0) out.2.1, wX4 T aE out.2.2.1, wX4 T aH out.2.2.2] (zA [wX10 T aZ (aP 0) (aE 0) (aH 0) sZ, wX4 T aE sE, wX4 T aH sH] sz)) 2 12 (zA [wX10 T aZ (aP 0) (aE 0) (aH 0) sZ, wX4 T aE sE, wX4 T aH sH] sz) :=
  zMetXi hst (D := D) (T := T) (av := [.ref (aO 0), .int x1]) (ws := fun T => [wX11 T aO (aP 0) (aX 0) (aL 0) (aW 0) (aV 0) (aF 0) (aK 0) (aZ 0) (aR 0) aN sO, wX5 T aP sP, wX10 T aZ (aP 0) (aE 0) (aH 0) sZ, wX4 T aE sE, wX4 T aH sH]) (wm := fun T => [wX10 T aZ (aP 0) (aE 0) (aH 0) sZ, wX4 T aE sE, wX4 T aH sH]) (gm1 := fun T => [wX10 T aZ (aP 0) (aE 0) (aH 0) out.2.1, wX4 T aE out.2.2.1, wX4 T aH out.2.2.2]) (o := out.1) (lv0 := [(0, .ref (aO 0)), (1, .int x1)]) [2, 3, 4] (by decide +kernel) rfl (Nat.le_of_ble_eq_true rfl) rfl (fun C base X Y hQ => bX11_wholeAt_0 X Y hQ hf) base sz
/-- public int wholeValue(int) throws java.lang.IndexOutOfBoundsException, java.lang.UnsupportedOperationException, java.util.NoSuchElementException; of Tableaufloor -/
abbrev rmX11_wholeValue : Room := { frames := 7, cells := 2, slots := 12, locals := 151 }
def fX11_wholeValue (sO : zSt) (sP : zSt) (sZ : zSt) (sE : zSt) (sH : zSt) (x1 : Int32) : Option ((String ⊕ Int32) × zSt × zSt × zSt) :=
  ((fX11_demandAim sO sP x1).bind (fun o2 =>
    (Sum.elim (fun E2 => some (.inl E2, sZ, sE, sH)) (fun r2 =>
    ((fX11_demandWhole sO sP sZ sE sH).bind (fun o6 =>
    (Sum.elim (fun E6 => some (.inl E6, o6.2.1, o6.2.2.1, o6.2.2.2)) (fun r6 =>
    ((fX5_aimSum sP o6.2.2.1 x1).bind (fun o21 =>
    some (.inr ((o21).toInt32), o6.2.1, o6.2.2.1, o6.2.2.2)))) o6.1)))) o2)))
theorem bX11_wholeValue_0 {C : zCtx} (X : zFx C cX11_wholeValue 2 RX11 rmX11_wholeValue (some .int)) {base : Nat} (Y : zFy C base) {aO : Nat → Nat} {aP : Nat → Nat} {aX : Nat → Nat} {aL : Nat → Nat} {aW : Nat → Nat} {aV : Nat → Nat} {aF : Nat → Nat} {aK : Nat → Nat} {aZ : Nat → Nat} {aR : Nat → Nat} {aE : Nat → Nat} {aH : Nat → Nat} {aN : Nat → Nat} {sO : zSt} {sP : zSt} {sZ : zSt} {sE : zSt} {sH : zSt} {x1 : Int32} {out : (String ⊕ Int32) × zSt × zSt × zSt} (hQ : zXi C out.1 [wX10 (zcT C) aZ (aP 0) (aE 0) (aH 0) out.2.1, wX4 (zcT C) aE out.2.2.1, wX4 (zcT C) aH out.2.2.2] 2 12) (h : fX11_wholeValue sO sP sZ sE sH x1 = some out) : zG C 2 [2, 3, 4] 0 0 [wX11 (zcT C) aO (aP 0) (aX 0) (aL 0) (aW 0) (aV 0) (aF 0) (aK 0) (aZ 0) (aR 0) aN sO, wX5 (zcT C) aP sP, wX10 (zcT C) aZ (aP 0) (aE 0) (aH 0) sZ, wX4 (zcT C) aE sE, wX4 (zcT C) aH sH] 0 [(0, .ref (aO 0)), (1, .int x1)] [] := by
  unfold fX11_wholeValue at h
  refine z_aload_n X dX11_wholeValue_0 0 rfl ?_
  refine z_iload_n X dX11_wholeValue_1 1 rfl ?_
  obtain ⟨o2, ho2, h⟩ := zbind_of h
  refine z_xcallVv (st := []) (ws2 := [wX11 (zcT C) aO (aP 0) (aX 0) (aL 0) (aW 0) (aV 0) (aF 0) (aK 0) (aZ 0) (aR 0) aN sO, wX5 (zcT C) aP sP, wX10 (zcT C) aZ (aP 0) (aE 0) (aH 0) sZ, wX4 (zcT C) aE sE, wX4 (zcT C) aH sH]) X Y (metX11_demandAim (zcl C) Y.2.2.2.2.1 (zcD C) (zcT C) aO aP aX aL aW aV aF aK aZ aR aN ho2) zmX11_demandAim zw1088 dX11_wholeValue_2 0 0 12 rfl rfl rfl rfl [0, 1] rfl rfl [] rfl (by decide) trivial rfl rfl rfl (Nat.le_of_ble_eq_true rfl) rfl rfl ⟨Nat.le_of_ble_eq_true rfl, Nat.le_of_ble_eq_true rfl⟩ ⟨Nat.le_of_ble_eq_true rfl, Nat.le_of_ble_eq_true rfl⟩ (fun E2 hE2 => ?_) (fun r2 hr2 => ?_)
  · replace h := zsum_l h hE2
    cases h
    exact z_xouti X Y hQ rfl [2, 3, 4] rfl (by decide) (by decide)
  replace h := zsum_r h hr2
  refine z_aload_n X dX11_wholeValue_5 0 rfl ?_
  obtain ⟨o6, ho6, h⟩ := zbind_of h
  refine z_xcallVv (st := []) (ws2 := [wX11 (zcT C) aO (aP 0) (aX 0) (aL 0) (aW 0) (aV 0) (aF 0) (aK 0) (aZ 0) (aR 0) aN sO, wX5 (zcT C) aP sP, wX10 (zcT C) aZ (aP 0) (aE 0) (aH 0) o6.2.1, wX4 (zcT C) aE o6.2.2.1, wX4 (zcT C) aH o6.2.2.2]) X Y (metX11_demandWhole (zcl C) Y.2.2.2.2.1 (zcD C) (zcT C) aO aP aX aL aW aV aF aK aZ aR aE aH aN ho6) zmX11_demandWhole zw1249 dX11_wholeValue_6 0 0 12 rfl rfl rfl rfl [0, 1, 2, 3, 4] rfl rfl [2, 3, 4] rfl (by decide) ⟨zsX10 , ⟨zsX4 , ⟨zsX4 , trivial⟩⟩⟩ rfl rfl rfl (Nat.le_of_ble_eq_true rfl) rfl rfl ⟨Nat.le_of_ble_eq_true rfl, Nat.le_of_ble_eq_true rfl⟩ ⟨Nat.le_of_ble_eq_true rfl, Nat.le_of_ble_eq_true rfl⟩ (fun E6 hE6 => ?_) (fun r6 hr6 => ?_)
  · replace h := zsum_l h hE6
    cases h
    exact z_xouti X Y hQ rfl [2, 3, 4] rfl (by decide) (by decide)
  replace h := zsum_r h hr6
  refine z_aload_n X dX11_wholeValue_9 0 rfl ?_
  refine z_get (v := .ref (aP 0)) X 0 0 12 0 ziX11 rfl (by decide) zw373 rfl dX11_wholeValue_10 rfl rfl rfl ?_
  refine z_iload_n X dX11_wholeValue_13 1 rfl ?_
  refine z_aload_n X dX11_wholeValue_14 0 rfl ?_
  refine z_get (v := .ref (aZ 0)) X 0 0 12 7 ziX11 rfl (by decide) zw380 rfl dX11_wholeValue_15 rfl rfl rfl ?_
  refine z_getN (v := .ref (aE 0)) X 2 0 11 1 ziX10 rfl (by decide) zw338 rfl dX11_wholeValue_18 rfl rfl rfl ?_
  obtain ⟨o21, ho21, h⟩ := zbind_of h
  refine z_callVl (st := []) (ws2 := [wX11 (zcT C) aO (aP 0) (aX 0) (aL 0) (aW 0) (aV 0) (aF 0) (aK 0) (aZ 0) (aR 0) aN sO, wX5 (zcT C) aP sP, wX10 (zcT C) aZ (aP 0) (aE 0) (aH 0) o6.2.1, wX4 (zcT C) aE o6.2.2.1, wX4 (zcT C) aH o6.2.2.2]) X (metX5_aimSum (zcl C) (zcD C) (zcT C) aP aE ho21) zmX5_aimSum zw1098 dX11_wholeValue_21 1 0 6 rfl rfl rfl rfl [1, 3] rfl rfl [] rfl (by decide) trivial rfl rfl rfl (Nat.le_of_ble_eq_true rfl) rfl rfl ⟨Nat.le_of_ble_eq_true rfl, Nat.le_of_ble_eq_true rfl⟩ ⟨Nat.le_of_ble_eq_true rfl, Nat.le_of_ble_eq_true rfl⟩ ?_
  refine z_l2i X dX11_wholeValue_24 ?_
  cases h
  exact z_xiret X hQ dX11_wholeValue_25 rfl [2, 3, 4] rfl (by decide) (by decide)
theorem metX11_wholeValue (l : Launch) (hst : l.stackTraces = false) (D : va_G) (T : Nat → ClassId) (aO : Nat → Nat) (aP : Nat → Nat) (aX : Nat → Nat) (aL : Nat → Nat) (aW : Nat → Nat) (aV : Nat → Nat) (aF : Nat → Nat) (aK : Nat → Nat) (aZ : Nat → Nat) (aR : Nat → Nat) (aE : Nat → Nat) (aH : Nat → Nat) (aN : Nat → Nat) {sO : zSt} {sP : zSt} {sZ : zSt} {sE : zSt} {sH : zSt} {x1 : Int32} {out : (String ⊕ Int32) × zSt × zSt × zSt} (hf : fX11_wholeValue sO sP sZ sE sH x1 = some out) (base sz : Nat) : vx_Met l yX11_wholeValue (zws yX11_wholeValue cX11_wholeValue 2 (some .int)) rmX11_wholeValue (zPx D T [.ref (aO 0), .int x1] [wX11 T aO (aP 0) (aX 0) (aL 0) (aW 0) (aV 0) (aF 0) (aK 0) (aZ 0) (aR 0) aN sO, wX5 T aP sP, wX10 T aZ (aP 0) (aE 0) (aH 0) sZ, wX4 T aE sE, wX4 T aH sH] [wX10 T aZ (aP 0) (aE 0) (aH 0) sZ, wX4 T aE sE, wX4 T aH sH] base sz) (zQxi D out.1 [wX10 T aZ (aP 0) (aE 0) (aH 0) out.2.1, wX4 T aE out.2.2.1, wX4 T aH out.2.2.2] (zA [wX10 T aZ (aP 0) (aE 0) (aH 0) sZ, wX4 T aE sE, wX4 T aH sH] sz)) (zXxi D out.1 [wX10 T aZ (aP 0) (aE 0) (aH 0) out.2.1, wX4 T aE out.2.2.1, wX4 T aH out.2.2.2] (zA [wX10 T aZ (aP 0) (aE 0) (aH 0) sZ, wX4 T aE sE, wX4 T aH sH] sz)) 2 12 (zA [wX10 T aZ (aP 0) (aE 0) (aH 0) sZ, wX4 T aE sE, wX4 T aH sH] sz) :=
  zMetXi hst (D := D) (T := T) (av := [.ref (aO 0), .int x1]) (ws := fun T => [wX11 T aO (aP 0) (aX 0) (aL 0) (aW 0) (aV 0) (aF 0) (aK 0) (aZ 0) (aR 0) aN sO, wX5 T aP sP, wX10 T aZ (aP 0) (aE 0) (aH 0) sZ, wX4 T aE sE, wX4 T aH sH]) (wm := fun T => [wX10 T aZ (aP 0) (aE 0) (aH 0) sZ, wX4 T aE sE, wX4 T aH sH]) (gm1 := fun T => [wX10 T aZ (aP 0) (aE 0) (aH 0) out.2.1, wX4 T aE out.2.2.1, wX4 T aH out.2.2.2]) (o := out.1) (lv0 := [(0, .ref (aO 0)), (1, .int x1)]) [2, 3, 4] (by decide +kernel) rfl (Nat.le_of_ble_eq_true rfl) rfl (fun C base X Y hQ => bX11_wholeValue_0 X Y hQ hf) base sz
/-- private char standingOf(Tableaufloor$Point); of Tableaufloor -/
abbrev rmX11_standingOf : Room := { frames := 5, cells := 0, slots := 0, locals := 127 }
def fX11_standingOf_38 (sO : zSt) (sP : zSt) (sq1 : zSt) (sW : zSt) (sS : zSt) (sD : zSt) (sQ : zSt) : Option (Int32 × zSt × zSt × zSt × zSt) :=
  some ((120 : Int32), sW, sS, sD, sQ)
def fX11_standingOf_81 (sO : zSt) (sP : zSt) (sq1 : zSt) (sW : zSt) (sS : zSt) (sD : zSt) (sQ : zSt) (y0 : Int32) : Option (Int32 × zSt × zSt × zSt × zSt) :=
  (if znar .char y0 = true then
    some (y0, sW, sS, sD, sQ) else none)
def fX11_standingOf_79 (sO : zSt) (sP : zSt) (sq1 : zSt) (sW : zSt) (sS : zSt) (sD : zSt) (sQ : zSt) : Option (Int32 × zSt × zSt × zSt × zSt) :=
  (fX11_standingOf_81 sO sP sq1 sW sS sD sQ (102 : Int32))
def fX11_standingOf (sO : zSt) (sP : zSt) (sW : zSt) (sS : zSt) (sD : zSt) (sQ : zSt) (sq1 : zSt) : Option (Int32 × zSt × zSt × zSt × zSt) :=
  (if (zgi sq1 2) = (-1 : Int32) then
    some ((45 : Int32), sW, sS, sD, sQ)
  else
    (if (zgi sq1 2) = (zgi sP 8) then
      ((fX5_breakerOf sP sq1).bind (fun o30 =>
        (if o30 = (100 : Int32) then
        ((fX9_findAll sW sP sS sD sQ).bind (fun o45 =>
          (if (zgi o45.1 5) = (111 : Int32) then
          ((fX4_isSame sq1 o45.2.2.2).bind (fun o68 =>
            (if o68 = 0 then
            (fX11_standingOf_79 sO sP sq1 o45.1 o45.2.1 o45.2.2.1 o45.2.2.2)
          else
            (fX11_standingOf_81 sO sP sq1 o45.1 o45.2.1 o45.2.2.1 o45.2.2.2 (98 : Int32)))))
        else
          (fX11_standingOf_79 sO sP sq1 o45.1 o45.2.1 o45.2.2.1 o45.2.2.2))))
      else
        (fX11_standingOf_38 sO sP sq1 sW sS sD sQ))))
    else
      (fX11_standingOf_38 sO sP sq1 sW sS sD sQ)))
theorem bX11_standingOf_38 {C : zCtx} (X : zFx C cX11_standingOf 2 RX11 rmX11_standingOf (some .char)) {aO : Nat → Nat} {aP : Nat → Nat} {aX : Nat → Nat} {aL : Nat → Nat} {aW : Nat → Nat} {aV : Nat → Nat} {aF : Nat → Nat} {aK : Nat → Nat} {aZ : Nat → Nat} {aR : Nat → Nat} {aS : Nat → Nat} {aD : Nat → Nat} {aQ : Nat → Nat} {aq1 : Nat → Nat} {aN : Nat → Nat} {sO : zSt} {sP : zSt} {sq1 : zSt} {sW : zSt} {sS : zSt} {sD : zSt} {sQ : zSt} {out : Int32 × zSt × zSt × zSt × zSt} (hQ : zHi C out.1 [wX9 (zcT C) aW (aP 0) (aS 0) (aD 0) (aQ 0) out.2.1, wX7 (zcT C) aS out.2.2.1, wX1 (zcT C) aD out.2.2.2.1, wX4 (zcT C) aQ out.2.2.2.2] 0 0) (h : fX11_standingOf_38 sO sP sq1 sW sS sD sQ = some out) : zG C 2 [2, 3, 4, 5] 0 0 [wX11 (zcT C) aO (aP 0) (aX 0) (aL 0) (aW 0) (aV 0) (aF 0) (aK 0) (aZ 0) (aR 0) aN sO, wX5 (zcT C) aP sP, wX9 (zcT C) aW (aP 0) (aS 0) (aD 0) (aQ 0) sW, wX7 (zcT C) aS sS, wX1 (zcT C) aD sD, wX4 (zcT C) aQ sQ, wX4 (zcT C) aq1 sq1] 38 [] [] := by
  unfold fX11_standingOf_38 at h
  refine z_bipush (v := (120 : Int32)) X dX11_standingOf_38 rfl ?_
  cases h
  exact z_nret X hQ rfl dX11_standingOf_40 rfl [2, 3, 4, 5] rfl (by decide) (by decide)
theorem bX11_standingOf_81 {C : zCtx} (X : zFx C cX11_standingOf 2 RX11 rmX11_standingOf (some .char)) {aO : Nat → Nat} {aP : Nat → Nat} {aX : Nat → Nat} {aL : Nat → Nat} {aW : Nat → Nat} {aV : Nat → Nat} {aF : Nat → Nat} {aK : Nat → Nat} {aZ : Nat → Nat} {aR : Nat → Nat} {aS : Nat → Nat} {aD : Nat → Nat} {aQ : Nat → Nat} {aq1 : Nat → Nat} {aN : Nat → Nat} {sO : zSt} {sP : zSt} {sq1 : zSt} {sW : zSt} {sS : zSt} {sD : zSt} {sQ : zSt} {y0 : Int32} {out : Int32 × zSt × zSt × zSt × zSt} (hQ : zHi C out.1 [wX9 (zcT C) aW (aP 0) (aS 0) (aD 0) (aQ 0) out.2.1, wX7 (zcT C) aS out.2.2.1, wX1 (zcT C) aD out.2.2.2.1, wX4 (zcT C) aQ out.2.2.2.2] 0 0) (h : fX11_standingOf_81 sO sP sq1 sW sS sD sQ y0 = some out) : zG C 2 [2, 3, 4, 5] 0 0 [wX11 (zcT C) aO (aP 0) (aX 0) (aL 0) (aW 0) (aV 0) (aF 0) (aK 0) (aZ 0) (aR 0) aN sO, wX5 (zcT C) aP sP, wX9 (zcT C) aW (aP 0) (aS 0) (aD 0) (aQ 0) sW, wX7 (zcT C) aS sS, wX1 (zcT C) aD sD, wX4 (zcT C) aQ sQ, wX4 (zcT C) aq1 sq1] 81 [] [.int y0] := by
  unfold fX11_standingOf_81 at h
  obtain ⟨g81, h⟩ := zgd_of h
  cases h
  exact z_nret X hQ g81 dX11_standingOf_81 rfl [2, 3, 4, 5] rfl (by decide) (by decide)
theorem bX11_standingOf_79 {C : zCtx} (X : zFx C cX11_standingOf 2 RX11 rmX11_standingOf (some .char)) {aO : Nat → Nat} {aP : Nat → Nat} {aX : Nat → Nat} {aL : Nat → Nat} {aW : Nat → Nat} {aV : Nat → Nat} {aF : Nat → Nat} {aK : Nat → Nat} {aZ : Nat → Nat} {aR : Nat → Nat} {aS : Nat → Nat} {aD : Nat → Nat} {aQ : Nat → Nat} {aq1 : Nat → Nat} {aN : Nat → Nat} {sO : zSt} {sP : zSt} {sq1 : zSt} {sW : zSt} {sS : zSt} {sD : zSt} {sQ : zSt} {out : Int32 × zSt × zSt × zSt × zSt} (hQ : zHi C out.1 [wX9 (zcT C) aW (aP 0) (aS 0) (aD 0) (aQ 0) out.2.1, wX7 (zcT C) aS out.2.2.1, wX1 (zcT C) aD out.2.2.2.1, wX4 (zcT C) aQ out.2.2.2.2] 0 0) (h : fX11_standingOf_79 sO sP sq1 sW sS sD sQ = some out) : zG C 2 [2, 3, 4, 5] 0 0 [wX11 (zcT C) aO (aP 0) (aX 0) (aL 0) (aW 0) (aV 0) (aF 0) (aK 0) (aZ 0) (aR 0) aN sO, wX5 (zcT C) aP sP, wX9 (zcT C) aW (aP 0) (aS 0) (aD 0) (aQ 0) sW, wX7 (zcT C) aS sS, wX1 (zcT C) aD sD, wX4 (zcT C) aQ sQ, wX4 (zcT C) aq1 sq1] 79 [] [] := by
  unfold fX11_standingOf_79 at h
  refine z_bipush (v := (102 : Int32)) X dX11_standingOf_79 rfl ?_
  exact z_at (pc2 := 81) (lv2 := []) (st2 := [.int (102 : Int32)]) (ws2 := [wX11 (zcT C) aO (aP 0) (aX 0) (aL 0) (aW 0) (aV 0) (aF 0) (aK 0) (aZ 0) (aR 0) aN sO, wX5 (zcT C) aP sP, wX9 (zcT C) aW (aP 0) (aS 0) (aD 0) (aQ 0) sW, wX7 (zcT C) aS sS, wX1 (zcT C) aD sD, wX4 (zcT C) aQ sQ, wX4 (zcT C) aq1 sq1]) rfl rfl rfl [] rfl (bX11_standingOf_81 X hQ  h)
theorem bX11_standingOf_0 {C : zCtx} (X : zFx C cX11_standingOf 2 RX11 rmX11_standingOf (some .char)) {aO : Nat → Nat} {aP : Nat → Nat} {aX : Nat → Nat} {aL : Nat → Nat} {aW : Nat → Nat} {aV : Nat → Nat} {aF : Nat → Nat} {aK : Nat → Nat} {aZ : Nat → Nat} {aR : Nat → Nat} {aS : Nat → Nat} {aD : Nat → Nat} {aQ : Nat → Nat} {aq1 : Nat → Nat} {aN : Nat → Nat} {sO : zSt} {sP : zSt} {sW : zSt} {sS : zSt} {sD : zSt} {sQ : zSt} {sq1 : zSt} {out : Int32 × zSt × zSt × zSt × zSt} (hQ : zHi C out.1 [wX9 (zcT C) aW (aP 0) (aS 0) (aD 0) (aQ 0) out.2.1, wX7 (zcT C) aS out.2.2.1, wX1 (zcT C) aD out.2.2.2.1, wX4 (zcT C) aQ out.2.2.2.2] 0 0) (h : fX11_standingOf sO sP sW sS sD sQ sq1 = some out) : zG C 2 [2, 3, 4, 5] 0 0 [wX11 (zcT C) aO (aP 0) (aX 0) (aL 0) (aW 0) (aV 0) (aF 0) (aK 0) (aZ 0) (aR 0) aN sO, wX5 (zcT C) aP sP, wX9 (zcT C) aW (aP 0) (aS 0) (aD 0) (aQ 0) sW, wX7 (zcT C) aS sS, wX1 (zcT C) aD sD, wX4 (zcT C) aQ sQ, wX4 (zcT C) aq1 sq1] 0 [(0, .ref (aO 0)), (1, .ref (aq1 0))] [] := by
  unfold fX11_standingOf at h
  refine z_aload_n X dX11_standingOf_0 1 rfl ?_
  refine z_getN (v := .int (zgi sq1 2)) X 6 0 5 2 ziX4 rfl (by decide) zw229 rfl dX11_standingOf_1 rfl rfl rfl ?_
  refine z_iconst (v := (-1 : Int32)) X dX11_standingOf_4 rfl ?_
  refine z_icmp_ne (tgt := 11) X dX11_standingOf_5 (by decide) (fun c5 => ?_) (fun c5 => ?_)
  · replace h := zif_f h c5
    refine z_aload_n X dX11_standingOf_11 1 rfl ?_
    refine z_getN (v := .int (zgi sq1 2)) X 6 0 5 2 ziX4 rfl (by decide) zw229 rfl dX11_standingOf_12 rfl rfl rfl ?_
    refine z_aload_n X dX11_standingOf_15 0 rfl ?_
    refine z_get (v := .ref (aP 0)) X 0 0 12 0 ziX11 rfl (by decide) zw373 rfl dX11_standingOf_16 rfl rfl rfl ?_
    refine z_getN (v := .int (zgi sP 8)) X 1 0 6 8 ziX5 rfl (by decide) zw57 rfl dX11_standingOf_19 rfl rfl rfl ?_
    refine z_icmp_ne (tgt := 38) X dX11_standingOf_22 (by decide) (fun c22 => ?_) (fun c22 => ?_)
    · replace h := zif_f h c22
      exact z_at (pc2 := 38) (lv2 := []) (st2 := []) (ws2 := [wX11 (zcT C) aO (aP 0) (aX 0) (aL 0) (aW 0) (aV 0) (aF 0) (aK 0) (aZ 0) (aR 0) aN sO, wX5 (zcT C) aP sP, wX9 (zcT C) aW (aP 0) (aS 0) (aD 0) (aQ 0) sW, wX7 (zcT C) aS sS, wX1 (zcT C) aD sD, wX4 (zcT C) aQ sQ, wX4 (zcT C) aq1 sq1]) rfl rfl rfl [] rfl (bX11_standingOf_38 X hQ  h)
    · replace h := zif_t h c22
      refine z_aload_n X dX11_standingOf_25 0 rfl ?_
      refine z_get (v := .ref (aP 0)) X 0 0 12 0 ziX11 rfl (by decide) zw373 rfl dX11_standingOf_26 rfl rfl rfl ?_
      refine z_aload_n X dX11_standingOf_29 1 rfl ?_
      obtain ⟨o30, ho30, h⟩ := zbind_of h
      refine z_callVi (st := []) (ws2 := [wX11 (zcT C) aO (aP 0) (aX 0) (aL 0) (aW 0) (aV 0) (aF 0) (aK 0) (aZ 0) (aR 0) aN sO, wX5 (zcT C) aP sP, wX9 (zcT C) aW (aP 0) (aS 0) (aD 0) (aQ 0) sW, wX7 (zcT C) aS sS, wX1 (zcT C) aD sD, wX4 (zcT C) aQ sQ, wX4 (zcT C) aq1 sq1]) X (metX5_breakerOf (zcl C) (zcD C) (zcT C) aP aq1 ho30) zmX5_breakerOf zw1300 dX11_standingOf_30 1 0 6 rfl rfl rfl rfl [1, 6] rfl rfl [] rfl (by decide) trivial rfl rfl rfl (Nat.le_of_ble_eq_true rfl) rfl rfl ⟨Nat.le_of_ble_eq_true rfl, Nat.le_of_ble_eq_true rfl⟩ ⟨Nat.le_of_ble_eq_true rfl, Nat.le_of_ble_eq_true rfl⟩ ?_
      refine z_bipush (v := (100 : Int32)) X dX11_standingOf_33 rfl ?_
      refine z_icmp_eq (tgt := 41) X dX11_standingOf_35 (by decide) (fun c35 => ?_) (fun c35 => ?_)
      · replace h := zif_t h c35
        refine z_aload_n X dX11_standingOf_41 0 rfl ?_
        refine z_get (v := .ref (aW 0)) X 0 0 12 3 ziX11 rfl (by decide) zw376 rfl dX11_standingOf_42 rfl rfl rfl ?_
        obtain ⟨o45, ho45, h⟩ := zbind_of h
        refine z_callVv (st := []) (ws2 := [wX11 (zcT C) aO (aP 0) (aX 0) (aL 0) (aW 0) (aV 0) (aF 0) (aK 0) (aZ 0) (aR 0) aN sO, wX5 (zcT C) aP sP, wX9 (zcT C) aW (aP 0) (aS 0) (aD 0) (aQ 0) o45.1, wX7 (zcT C) aS o45.2.1, wX1 (zcT C) aD o45.2.2.1, wX4 (zcT C) aQ o45.2.2.2, wX4 (zcT C) aq1 sq1]) X (metX9_findAll (zcl C) (zcD C) (zcT C) aW aP aS aD aQ ho45) zmX9_findAll zw488 dX11_standingOf_45 2 0 10 rfl rfl rfl rfl [2, 1, 3, 4, 5] rfl rfl [2, 3, 4, 5] rfl (by decide) ⟨zsX9 , ⟨zsX7 , ⟨zsX1 , ⟨zsX4 , trivial⟩⟩⟩⟩ rfl rfl rfl (Nat.le_of_ble_eq_true rfl) rfl rfl ⟨Nat.le_of_ble_eq_true rfl, Nat.le_of_ble_eq_true rfl⟩ ⟨Nat.le_of_ble_eq_true rfl, Nat.le_of_ble_eq_true rfl⟩ ?_
        refine z_aload_n X dX11_standingOf_48 0 rfl ?_
        refine z_get (v := .ref (aW 0)) X 0 0 12 3 ziX11 rfl (by decide) zw376 rfl dX11_standingOf_49 rfl rfl rfl ?_
        refine z_getN (v := .int (zgi o45.1 5)) X 2 0 10 5 ziX9 rfl (by decide) zw249 rfl dX11_standingOf_52 rfl rfl rfl ?_
        refine z_bipush (v := (111 : Int32)) X dX11_standingOf_55 rfl ?_
        refine z_icmp_ne (tgt := 79) X dX11_standingOf_57 (by decide) (fun c57 => ?_) (fun c57 => ?_)
        · replace h := zif_f h c57
          exact z_at (pc2 := 79) (lv2 := []) (st2 := []) (ws2 := [wX11 (zcT C) aO (aP 0) (aX 0) (aL 0) (aW 0) (aV 0) (aF 0) (aK 0) (aZ 0) (aR 0) aN sO, wX5 (zcT C) aP sP, wX9 (zcT C) aW (aP 0) (aS 0) (aD 0) (aQ 0) o45.1, wX7 (zcT C) aS o45.2.1, wX1 (zcT C) aD o45.2.2.1, wX4 (zcT C) aQ o45.2.2.2, wX4 (zcT C) aq1 sq1]) rfl rfl rfl [] rfl (bX11_standingOf_79 X hQ  h)
        · replace h := zif_t h c57
          refine z_aload_n X dX11_standingOf_60 1 rfl ?_
          refine z_aload_n X dX11_standingOf_61 0 rfl ?_
          refine z_get (v := .ref (aW 0)) X 0 0 12 3 ziX11 rfl (by decide) zw376 rfl dX11_standingOf_62 rfl rfl rfl ?_
          refine z_getN (v := .ref (aQ 0)) X 2 0 10 3 ziX9 rfl (by decide) zw245 rfl dX11_standingOf_65 rfl rfl rfl ?_
          obtain ⟨o68, ho68, h⟩ := zbind_of h
          refine z_callVi (st := []) (ws2 := [wX11 (zcT C) aO (aP 0) (aX 0) (aL 0) (aW 0) (aV 0) (aF 0) (aK 0) (aZ 0) (aR 0) aN sO, wX5 (zcT C) aP sP, wX9 (zcT C) aW (aP 0) (aS 0) (aD 0) (aQ 0) o45.1, wX7 (zcT C) aS o45.2.1, wX1 (zcT C) aD o45.2.2.1, wX4 (zcT C) aQ o45.2.2.2, wX4 (zcT C) aq1 sq1]) X (metX4_isSame (zcl C) (zcD C) (zcT C) aq1 aQ ho68) zmX4_isSame zw1301 dX11_standingOf_68 6 0 5 rfl rfl rfl rfl [6, 5] rfl rfl [] rfl (by decide) trivial rfl rfl rfl (Nat.le_of_ble_eq_true rfl) rfl rfl ⟨Nat.le_of_ble_eq_true rfl, Nat.le_of_ble_eq_true rfl⟩ ⟨Nat.le_of_ble_eq_true rfl, Nat.le_of_ble_eq_true rfl⟩ ?_
          refine z_if_eq (tgt := 79) X dX11_standingOf_71 (by decide) (fun c71 => ?_) (fun c71 => ?_)
          · replace h := zif_t h c71
            exact z_at (pc2 := 79) (lv2 := []) (st2 := []) (ws2 := [wX11 (zcT C) aO (aP 0) (aX 0) (aL 0) (aW 0) (aV 0) (aF 0) (aK 0) (aZ 0) (aR 0) aN sO, wX5 (zcT C) aP sP, wX9 (zcT C) aW (aP 0) (aS 0) (aD 0) (aQ 0) o45.1, wX7 (zcT C) aS o45.2.1, wX1 (zcT C) aD o45.2.2.1, wX4 (zcT C) aQ o45.2.2.2, wX4 (zcT C) aq1 sq1]) rfl rfl rfl [] rfl (bX11_standingOf_79 X hQ  h)
          · replace h := zif_f h c71
            refine z_bipush (v := (98 : Int32)) X dX11_standingOf_74 rfl ?_
            refine z_goto (tgt := 81) X dX11_standingOf_76 (by decide) ?_
            exact z_at (pc2 := 81) (lv2 := []) (st2 := [.int (98 : Int32)]) (ws2 := [wX11 (zcT C) aO (aP 0) (aX 0) (aL 0) (aW 0) (aV 0) (aF 0) (aK 0) (aZ 0) (aR 0) aN sO, wX5 (zcT C) aP sP, wX9 (zcT C) aW (aP 0) (aS 0) (aD 0) (aQ 0) o45.1, wX7 (zcT C) aS o45.2.1, wX1 (zcT C) aD o45.2.2.1, wX4 (zcT C) aQ o45.2.2.2, wX4 (zcT C) aq1 sq1]) rfl rfl rfl [] rfl (bX11_standingOf_81 X hQ  h)
      · replace h := zif_f h c35
        exact z_at (pc2 := 38) (lv2 := []) (st2 := []) (ws2 := [wX11 (zcT C) aO (aP 0) (aX 0) (aL 0) (aW 0) (aV 0) (aF 0) (aK 0) (aZ 0) (aR 0) aN sO, wX5 (zcT C) aP sP, wX9 (zcT C) aW (aP 0) (aS 0) (aD 0) (aQ 0) sW, wX7 (zcT C) aS sS, wX1 (zcT C) aD sD, wX4 (zcT C) aQ sQ, wX4 (zcT C) aq1 sq1]) rfl rfl rfl [] rfl (bX11_standingOf_38 X hQ  h)
  · replace h := zif_t h c5
    refine z_bipush (v := (45 : Int32)) X dX11_standingOf_8 rfl ?_
    cases h
    exact z_nret X hQ rfl dX11_standingOf_10 rfl [2, 3, 4, 5] rfl (by decide) (by decide)
theorem metX11_standingOf (l : Launch) (D : va_G) (T : Nat → ClassId) (aO : Nat → Nat) (aP : Nat → Nat) (aX : Nat → Nat) (aL : Nat → Nat) (aW : Nat → Nat) (aV : Nat → Nat) (aF : Nat → Nat) (aK : Nat → Nat) (aZ : Nat → Nat) (aR : Nat → Nat) (aS : Nat → Nat) (aD : Nat → Nat) (aQ : Nat → Nat) (aq1 : Nat → Nat) (aN : Nat → Nat) {sO : zSt} {sP : zSt} {sW : zSt} {sS : zSt} {sD : zSt} {sQ : zSt} {sq1 : zSt} {out : Int32 × zSt × zSt × zSt × zSt} (hf : fX11_standingOf sO sP sW sS sD sQ sq1 = some out) (sz : Nat) : Met l yX11_standingOf (zws yX11_standingOf cX11_standingOf 2 (some .char)) rmX11_standingOf (zPc D T [.ref (aO 0), .ref (aq1 0)] [wX11 T aO (aP 0) (aX 0) (aL 0) (aW 0) (aV 0) (aF 0) (aK 0) (aZ 0) (aR 0) aN sO, wX5 T aP sP, wX9 T aW (aP 0) (aS 0) (aD 0) (aQ 0) sW, wX7 T aS sS, wX1 T aD sD, wX4 T aQ sQ, wX4 T aq1 sq1] sz) (zQi D out.1 [wX9 T aW (aP 0) (aS 0) (aD 0) (aQ 0) out.2.1, wX7 T aS out.2.2.1, wX1 T aD out.2.2.2.1, wX4 T aQ out.2.2.2.2] (zA [wX9 T aW (aP 0) (aS 0) (aD 0) (aQ 0) sW, wX7 T aS sS, wX1 T aD sD, wX4 T aQ sQ] sz)) 0 0 (zA [wX9 T aW (aP 0) (aS 0) (aD 0) (aQ 0) sW, wX7 T aS sS, wX1 T aD sD, wX4 T aQ sQ] sz) :=
  zMet (D := D) (T := T) (av := [.ref (aO 0), .ref (aq1 0)]) (ws := fun T => [wX11 T aO (aP 0) (aX 0) (aL 0) (aW 0) (aV 0) (aF 0) (aK 0) (aZ 0) (aR 0) aN sO, wX5 T aP sP, wX9 T aW (aP 0) (aS 0) (aD 0) (aQ 0) sW, wX7 T aS sS, wX1 T aD sD, wX4 T aQ sQ, wX4 T aq1 sq1]) (wm := fun T => [wX9 T aW (aP 0) (aS 0) (aD 0) (aQ 0) sW, wX7 T aS sS, wX1 T aD sD, wX4 T aQ sQ]) (lv0 := [(0, .ref (aO 0)), (1, .ref (aq1 0))]) [2, 3, 4, 5] (Qc := fun D T A => zQi D out.1 [wX9 T aW (aP 0) (aS 0) (aD 0) (aQ 0) out.2.1, wX7 T aS out.2.2.1, wX1 T aD out.2.2.2.1, wX4 T aQ out.2.2.2.2] A) (by decide +kernel) rfl (Nat.le_of_ble_eq_true rfl) rfl (fun C X hQ => bX11_standingOf_0 X hQ hf) sz
/-- public float tightShare() throws java.util.NoSuchElementException; of Tableaufloor -/
abbrev rmX11_tightShare : Room := { frames := 7, cells := 2, slots := 12, locals := 147 }
def fX11_tightShare (sO : zSt) (sP : zSt) (sW : zSt) (sS : zSt) (sD : zSt) (sQ : zSt) : Option ((String ⊕ UInt32) × zSt × zSt × zSt × zSt) :=
  ((fX11_demandBest sO sP sW sS sD sQ).bind (fun o1 =>
    (Sum.elim (fun E1 => some (.inl E1, o1.2.1, o1.2.2.1, o1.2.2.2.1, o1.2.2.2.2)) (fun r1 =>
    (if 0 < (zgi sP 10) then
    ((fX5_tightRows sP o1.2.2.2.2).bind (fun o36 =>
      (if zfn (FP.fdiv (FP.i2f o36) (FP.i2f (zgi sP 10))) = true then
      some (.inr (FP.fdiv (FP.i2f o36) (FP.i2f (zgi sP 10))), o1.2.1, o1.2.2.1, o1.2.2.2.1, o1.2.2.2.2) else none)))
  else
    some (.inl "java/util/NoSuchElementException", o1.2.1, o1.2.2.1, o1.2.2.2.1, o1.2.2.2.2))) o1.1)))
theorem bX11_tightShare_0 {C : zCtx} (X : zFx C cX11_tightShare 1 RX11 rmX11_tightShare (some .float)) {base : Nat} (Y : zFy C base) {aO : Nat → Nat} {aP : Nat → Nat} {aX : Nat → Nat} {aL : Nat → Nat} {aW : Nat → Nat} {aV : Nat → Nat} {aF : Nat → Nat} {aK : Nat → Nat} {aZ : Nat → Nat} {aR : Nat → Nat} {aS : Nat → Nat} {aD : Nat → Nat} {aQ : Nat → Nat} {aN : Nat → Nat} {sO : zSt} {sP : zSt} {sW : zSt} {sS : zSt} {sD : zSt} {sQ : zSt} {out : (String ⊕ UInt32) × zSt × zSt × zSt × zSt} (hQ : zXf C out.1 [wX9 (zcT C) aW (aP 0) (aS 0) (aD 0) (aQ 0) out.2.1, wX7 (zcT C) aS out.2.2.1, wX1 (zcT C) aD out.2.2.2.1, wX4 (zcT C) aQ out.2.2.2.2] 2 12) (h : fX11_tightShare sO sP sW sS sD sQ = some out) : zG C 1 [2, 3, 4, 5] 0 0 [wX11 (zcT C) aO (aP 0) (aX 0) (aL 0) (aW 0) (aV 0) (aF 0) (aK 0) (aZ 0) (aR 0) aN sO, wX5 (zcT C) aP sP, wX9 (zcT C) aW (aP 0) (aS 0) (aD 0) (aQ 0) sW, wX7 (zcT C) aS sS, wX1 (zcT C) aD sD, wX4 (zcT C) aQ sQ] 0 [(0, .ref (aO 0))] [] := by
  unfold fX11_tightShare at h
  refine z_aload_n X dX11_tightShare_0 0 rfl ?_
  obtain ⟨o1, ho1, h⟩ := zbind_of h
  refine z_xcallVv (st := []) (ws2 := [wX11 (zcT C) aO (aP 0) (aX 0) (aL 0) (aW 0) (aV 0) (aF 0) (aK 0) (aZ 0) (aR 0) aN sO, wX5 (zcT C) aP sP, wX9 (zcT C) aW (aP 0) (aS 0) (aD 0) (aQ 0) o1.2.1, wX7 (zcT C) aS o1.2.2.1, wX1 (zcT C) aD o1.2.2.2.1, wX4 (zcT C) aQ o1.2.2.2.2]) X Y (metX11_demandBest (zcl C) Y.2.2.2.2.1 (zcD C) (zcT C) aO aP aX aL aW aV aF aK aZ aR aS aD aQ aN ho1) zmX11_demandBest zw1120 dX11_tightShare_1 0 0 12 rfl rfl rfl rfl [0, 1, 2, 3, 4, 5] rfl rfl [2, 3, 4, 5] rfl (by decide) ⟨zsX9 , ⟨zsX7 , ⟨zsX1 , ⟨zsX4 , trivial⟩⟩⟩⟩ rfl rfl rfl (Nat.le_of_ble_eq_true rfl) rfl rfl ⟨Nat.le_of_ble_eq_true rfl, Nat.le_of_ble_eq_true rfl⟩ ⟨Nat.le_of_ble_eq_true rfl, Nat.le_of_ble_eq_true rfl⟩ (fun E1 hE1 => ?_) (fun r1 hr1 => ?_)
  · replace h := zsum_l h hE1
    cases h
    exact z_xoutf X Y hQ rfl [2, 3, 4, 5] rfl (by decide) (by decide)
  replace h := zsum_r h hr1
  refine z_aload_n X dX11_tightShare_4 0 rfl ?_
  refine z_get (v := .ref (aP 0)) X 0 0 12 0 ziX11 rfl (by decide) zw373 rfl dX11_tightShare_5 rfl rfl rfl ?_
  refine z_getN (v := .int (zgi sP 10)) X 1 0 6 10 ziX5 rfl (by decide) zw68 rfl dX11_tightShare_8 rfl rfl rfl ?_
  refine z_if_gt (tgt := 25) X dX11_tightShare_11 (by decide) (fun c11 => ?_) (fun c11 => ?_)
  · replace h := zif_t h c11
    refine z_aload_n X dX11_tightShare_25 0 rfl ?_
    refine z_get (v := .ref (aP 0)) X 0 0 12 0 ziX11 rfl (by decide) zw373 rfl dX11_tightShare_26 rfl rfl rfl ?_
    refine z_aload_n X dX11_tightShare_29 0 rfl ?_
    refine z_get (v := .ref (aW 0)) X 0 0 12 3 ziX11 rfl (by decide) zw376 rfl dX11_tightShare_30 rfl rfl rfl ?_
    refine z_getN (v := .ref (aQ 0)) X 2 0 10 3 ziX9 rfl (by decide) zw245 rfl dX11_tightShare_33 rfl rfl rfl ?_
    obtain ⟨o36, ho36, h⟩ := zbind_of h
    refine z_callVi (st := []) (ws2 := [wX11 (zcT C) aO (aP 0) (aX 0) (aL 0) (aW 0) (aV 0) (aF 0) (aK 0) (aZ 0) (aR 0) aN sO, wX5 (zcT C) aP sP, wX9 (zcT C) aW (aP 0) (aS 0) (aD 0) (aQ 0) o1.2.1, wX7 (zcT C) aS o1.2.2.1, wX1 (zcT C) aD o1.2.2.2.1, wX4 (zcT C) aQ o1.2.2.2.2]) X (metX5_tightRows (zcl C) (zcD C) (zcT C) aP aQ ho36) zmX5_tightRows zw1198 dX11_tightShare_36 1 0 6 rfl rfl rfl rfl [1, 5] rfl rfl [] rfl (by decide) trivial rfl rfl rfl (Nat.le_of_ble_eq_true rfl) rfl rfl ⟨Nat.le_of_ble_eq_true rfl, Nat.le_of_ble_eq_true rfl⟩ ⟨Nat.le_of_ble_eq_true rfl, Nat.le_of_ble_eq_true rfl⟩ ?_
    refine z_i2f X dX11_tightShare_39 ?_
    refine z_aload_n X dX11_tightShare_40 0 rfl ?_
    refine z_get (v := .ref (aP 0)) X 0 0 12 0 ziX11 rfl (by decide) zw373 rfl dX11_tightShare_41 rfl rfl rfl ?_
    refine z_getN (v := .int (zgi sP 10)) X 1 0 6 10 ziX5 rfl (by decide) zw68 rfl dX11_tightShare_44 rfl rfl rfl ?_
    refine z_i2f X dX11_tightShare_47 ?_
    obtain ⟨g48, h⟩ := zgd_of h
    refine z_fdiv X dX11_tightShare_48 (zfn_of g48) ?_
    cases h
    exact z_xfret X hQ dX11_tightShare_49 rfl [2, 3, 4, 5] rfl (by decide) (by decide)
  · replace h := zif_f h c11
    cases h
    exact z_throwNWf X Y hQ rfl zt_RX11_155 zs_1329 dX11_tightShare_14 dX11_tightShare_17 dX11_tightShare_18 dX11_tightShare_21 dX11_tightShare_24 [2, 3, 4, 5] rfl (by decide) (by decide) (by decide) (by decide) (by decide) (by decide)
theorem metX11_tightShare (l : Launch) (hst : l.stackTraces = false) (D : va_G) (T : Nat → ClassId) (aO : Nat → Nat) (aP : Nat → Nat) (aX : Nat → Nat) (aL : Nat → Nat) (aW : Nat → Nat) (aV : Nat → Nat) (aF : Nat → Nat) (aK : Nat → Nat) (aZ : Nat → Nat) (aR : Nat → Nat) (aS : Nat → Nat) (aD : Nat → Nat) (aQ : Nat → Nat) (aN : Nat → Nat) {sO : zSt} {sP : zSt} {sW : zSt} {sS : zSt} {sD : zSt} {sQ : zSt} {out : (String ⊕ UInt32) × zSt × zSt × zSt × zSt} (hf : fX11_tightShare sO sP sW sS sD sQ = some out) (base sz : Nat) : vx_Met l yX11_tightShare (zws yX11_tightShare cX11_tightShare 1 (some .float)) rmX11_tightShare (zPx D T [.ref (aO 0)] [wX11 T aO (aP 0) (aX 0) (aL 0) (aW 0) (aV 0) (aF 0) (aK 0) (aZ 0) (aR 0) aN sO, wX5 T aP sP, wX9 T aW (aP 0) (aS 0) (aD 0) (aQ 0) sW, wX7 T aS sS, wX1 T aD sD, wX4 T aQ sQ] [wX9 T aW (aP 0) (aS 0) (aD 0) (aQ 0) sW, wX7 T aS sS, wX1 T aD sD, wX4 T aQ sQ] base sz) (zQxf D out.1 [wX9 T aW (aP 0) (aS 0) (aD 0) (aQ 0) out.2.1, wX7 T aS out.2.2.1, wX1 T aD out.2.2.2.1, wX4 T aQ out.2.2.2.2] (zA [wX9 T aW (aP 0) (aS 0) (aD 0) (aQ 0) sW, wX7 T aS sS, wX1 T aD sD, wX4 T aQ sQ] sz)) (zXxf D out.1 [wX9 T aW (aP 0) (aS 0) (aD 0) (aQ 0) out.2.1, wX7 T aS out.2.2.1, wX1 T aD out.2.2.2.1, wX4 T aQ out.2.2.2.2] (zA [wX9 T aW (aP 0) (aS 0) (aD 0) (aQ 0) sW, wX7 T aS sS, wX1 T aD sD, wX4 T aQ sQ] sz)) 2 12 (zA [wX9 T aW (aP 0) (aS 0) (aD 0) (aQ 0) sW, wX7 T aS sS, wX1 T aD sD, wX4 T aQ sQ] sz) :=
  zMetXf hst (D := D) (T := T) (av := [.ref (aO 0)]) (ws := fun T => [wX11 T aO (aP 0) (aX 0) (aL 0) (aW 0) (aV 0) (aF 0) (aK 0) (aZ 0) (aR 0) aN sO, wX5 T aP sP, wX9 T aW (aP 0) (aS 0) (aD 0) (aQ 0) sW, wX7 T aS sS, wX1 T aD sD, wX4 T aQ sQ]) (wm := fun T => [wX9 T aW (aP 0) (aS 0) (aD 0) (aQ 0) sW, wX7 T aS sS, wX1 T aD sD, wX4 T aQ sQ]) (gm1 := fun T => [wX9 T aW (aP 0) (aS 0) (aD 0) (aQ 0) out.2.1, wX7 T aS out.2.2.1, wX1 T aD out.2.2.2.1, wX4 T aQ out.2.2.2.2]) (o := out.1) (lv0 := [(0, .ref (aO 0))]) [2, 3, 4, 5] (by decide +kernel) rfl (Nat.le_of_ble_eq_true rfl) rfl (fun C base X Y hQ => bX11_tightShare_0 X Y hQ hf) base sz
