/-- public static int compare of java/lang/Long -/
abbrev rmJ13_compare_74951 : Room := { frames := 0, cells := 0, slots := 0, locals := 0 }
def fJ13_compare_74951_21 (y0 : Int32) : Option (Int32) :=
  some (y0)
def fJ13_compare_74951 (x0 : Int64) (x2 : Int64) : Option (Int32) :=
  (if x2 ≤ x0 then
    (if x0 = x2 then
      (fJ13_compare_74951_21 (0 : Int32))
    else
      (fJ13_compare_74951_21 (1 : Int32)))
  else
    (fJ13_compare_74951_21 (-1 : Int32)))
theorem bJ13_compare_74951_21 {C : zCtx} (X : zFx C cJ13_compare_74951 4 RJ13 rmJ13_compare_74951 (some .int)) {y0 : Int32} {out : Int32} (hQ : zHi C out [] 0 0) (h : fJ13_compare_74951_21 y0 = some out) : zG C 4 [] 0 0 [] 21 [] [.int y0] := by
  unfold fJ13_compare_74951_21 at h
  cases h
  exact z_iret X hQ dJ13_compare_74951_21 rfl [] rfl (by decide) (by decide)
theorem bJ13_compare_74951_0 {C : zCtx} (X : zFx C cJ13_compare_74951 4 RJ13 rmJ13_compare_74951 (some .int)) {x0 : Int64} {x2 : Int64} {out : Int32} (hQ : zHi C out [] 0 0) (h : fJ13_compare_74951 x0 x2 = some out) : zG C 4 [] 0 0 [] 0 [(0, .long x0), (2, .long x2)] [] := by
  unfold fJ13_compare_74951 at h
  refine z_lload_n X dJ13_compare_74951_0 0 rfl ?_
  refine z_lload_n X dJ13_compare_74951_1 1 rfl ?_
  refine z_lcmp_ge (tgt := 10) X dJ13_compare_74951_2 dJ13_compare_74951_3 (by decide) (fun c2 => ?_) (fun c2 => ?_)
  · replace h := zif_t h c2
    refine z_lload_n X dJ13_compare_74951_10 0 rfl ?_
    refine z_lload_n X dJ13_compare_74951_11 1 rfl ?_
    refine z_lcmp_ne (tgt := 20) X dJ13_compare_74951_12 dJ13_compare_74951_13 (by decide) (fun c12 => ?_) (fun c12 => ?_)
    · replace h := zif_f h c12
      refine z_iconst (v := (1 : Int32)) X dJ13_compare_74951_20 rfl ?_
      exact z_at (pc2 := 21) (lv2 := []) (st2 := [.int (1 : Int32)]) (ws2 := []) rfl rfl rfl [] rfl (bJ13_compare_74951_21 X hQ  h)
    · replace h := zif_t h c12
      refine z_iconst (v := (0 : Int32)) X dJ13_compare_74951_16 rfl ?_
      refine z_goto (tgt := 21) X dJ13_compare_74951_17 (by decide) ?_
      exact z_at (pc2 := 21) (lv2 := []) (st2 := [.int (0 : Int32)]) (ws2 := []) rfl rfl rfl [] rfl (bJ13_compare_74951_21 X hQ  h)
  · replace h := zif_f h c2
    refine z_iconst (v := (-1 : Int32)) X dJ13_compare_74951_6 rfl ?_
    refine z_goto (tgt := 21) X dJ13_compare_74951_7 (by decide) ?_
    exact z_at (pc2 := 21) (lv2 := []) (st2 := [.int (-1 : Int32)]) (ws2 := []) rfl rfl rfl [] rfl (bJ13_compare_74951_21 X hQ  h)
theorem metJ13_compare_74951 (l : Launch) (D : va_G) (T : Nat → ClassId) {x0 : Int64} {x2 : Int64} {out : Int32} (hf : fJ13_compare_74951 x0 x2 = some out) (sz : Nat) : Met l yJ13_compare_74951 (zws yJ13_compare_74951 cJ13_compare_74951 4 (some .int)) rmJ13_compare_74951 (zPc D T [.long x0, .long x2] [] sz) (zQi D out [] (zA [] sz)) 0 0 (zA [] sz) :=
  zMet (D := D) (T := T) (av := [.long x0, .long x2]) (ws := fun T => []) (wm := fun T => []) (lv0 := [(0, .long x0), (2, .long x2)]) [] (Qc := fun D T A => zQi D out [] A) (by decide +kernel) rfl (Nat.le_of_ble_eq_true rfl) rfl (fun C X hQ => bJ13_compare_74951_0 X hQ hf) sz
