/-- private void findsPoints(int, int); of TableaufloorModel -/
abbrev rmX12_findsPoints : Room := { frames := 3, cells := 0, slots := 0, locals := 78 }
def fX12_findsPoints_148 (k14 : zSt → Int32 → Option (zSt)) (k27 : zSt → Int32 → Int32 → Option (zSt)) (k42 : zSt → Int32 → Int32 → Int32 → Option (zSt)) (sO : zSt) (x3 : Int32) (x4 : Int32) (x5 : Int32) : Option (zSt) :=
  (zlet (x5 + 1) (fun v148 =>
    (k42 sO x3 x4 v148)))
def fX12_findsPoints_80 (k14 : zSt → Int32 → Option (zSt)) (k27 : zSt → Int32 → Int32 → Option (zSt)) (k42 : zSt → Int32 → Int32 → Int32 → Option (zSt)) : Nat → zSt → Int32 → Int32 → Int32 → Int32 → Option (zSt)
  | 0, _, _, _, _, _ => none
  | n + 1, sO, x3, x4, x5, x6 =>
    (if (3 : Int32) ≤ x6 then
      (if zin (3 : Int32) 4 = true then
        (if zin (zgi sO 32) 600 = true then
        (zlet (zsb sO 22 (vp_updL (zgb sO 22) ((zgi sO 32)).toNatClampNeg (zgb sO 27 ((3 : Int32)).toNatClampNeg))) (fun sO127 =>
        (if zin (zgi sO127 32) 600 = true then
        (zlet (zsa sO127 25 (upd (zga sO127 25) ((zgi sO127 32)).toNatClampNeg (vp_nar .boolean (1 : Int32)))) (fun sO137 =>
        (zlet (zsi sO137 32 ((zgi sO137 32) + (1 : Int32))) (fun sO145 =>
        (fX12_findsPoints_148 k14 k27 k42 sO145 x3 x4 x5))))) else none))) else none) else none)
    else
      (if zin x6 4 = true then
        (if zin (((3 : Int32) * (zgi sO 32)) + x6) 1800 = true then
        (zlet (zsb sO 21 (vp_updL (zgb sO 21) ((((3 : Int32) * (zgi sO 32)) + x6)).toNatClampNeg (zgb sO 27 (x6).toNatClampNeg))) (fun sO106 =>
        (zlet (x6 + 1) (fun v107 =>
        (fX12_findsPoints_80 k14 k27 k42 n sO106 x3 x4 x5 v107))))) else none) else none))
def fX12_findsPoints_42 (k14 : zSt → Int32 → Option (zSt)) (k27 : zSt → Int32 → Int32 → Option (zSt)) : Nat → zSt → Int32 → Int32 → Int32 → Option (zSt)
  | 0, _, _, _, _ => none
  | n + 1, sO, x3, x4, x5 =>
    (if (zgi sO 31) ≤ x5 then
      (zlet (x4 + 1) (fun v154 =>
        (k27 sO x3 v154)))
    else
      ((fX12_solves sO x3 x4 x5).bind (fun o57 =>
        (if o57.1 = 0 then
        (fX12_findsPoints_148 k14 k27 (fX12_findsPoints_42 k14 k27 n) o57.2 x3 x4 x5)
      else
        ((fX12_fits o57.2 (zgi o57.2 31)).bind (fun o68 =>
          (if o68 = 0 then
          (fX12_findsPoints_148 k14 k27 (fX12_findsPoints_42 k14 k27 n) o57.2 x3 x4 x5)
        else
          (fX12_findsPoints_80 k14 k27 (fX12_findsPoints_42 k14 k27 n) 6000 o57.2 x3 x4 x5 (0 : Int32)))))))))
def fX12_findsPoints_27 (k14 : zSt → Int32 → Option (zSt)) : Nat → zSt → Int32 → Int32 → Option (zSt)
  | 0, _, _, _ => none
  | n + 1, sO, x3, x4 =>
    (if (zgi sO 31) ≤ x4 then
      (zlet (x3 + 1) (fun v160 =>
        (k14 sO v160)))
    else
      (zlet (x4 + (1 : Int32)) (fun v40 =>
        (fX12_findsPoints_42 k14 (fX12_findsPoints_27 k14 n) 6000 sO x3 x4 v40))))
def fX12_findsPoints_14 : Nat → zSt → Int32 → Option (zSt)
  | 0, _, _ => none
  | n + 1, sO, x3 =>
    (if (zgi sO 31) ≤ x3 then
      some (sO)
    else
      (zlet (x3 + (1 : Int32)) (fun v25 =>
        (fX12_findsPoints_27 (fX12_findsPoints_14 n) 6000 sO x3 v25))))
def fX12_findsPoints (sO : zSt) (x1 : Int32) (x2 : Int32) : Option (zSt) :=
  ((fX12_laysPlanes sO x1 x2 (0 : Int32)).bind (fun o4 =>
    (zlet (zsi o4 32 (0 : Int32)) (fun sO9 =>
    (fX12_findsPoints_14 6000 sO9 (0 : Int32))))))
theorem bX12_findsPoints_148 {C : zCtx} (X : zFx C cX12_findsPoints 7 RX12 rmX12_findsPoints none) {aO : Nat → Nat} {k14 : zSt → Int32 → Option (zSt)} {k27 : zSt → Int32 → Int32 → Option (zSt)} {k42 : zSt → Int32 → Int32 → Int32 → Option (zSt)} {sO : zSt} {x3 : Int32} {x4 : Int32} {x5 : Int32} {out : zSt} (hQ : zHv C [wX12 (zcT C) aO out] 0 0) (hk14 : ∀ (sO : zSt) (x3 : Int32), k14 sO x3 = some out → zG C 7 [0] 0 0 [wX12 (zcT C) aO sO] 14 [(0, .ref (aO 0)), (3, .int x3)] []) (hk27 : ∀ (sO : zSt) (x3 : Int32) (x4 : Int32), k27 sO x3 x4 = some out → zG C 7 [0] 0 0 [wX12 (zcT C) aO sO] 27 [(0, .ref (aO 0)), (3, .int x3), (4, .int x4)] []) (hk42 : ∀ (sO : zSt) (x3 : Int32) (x4 : Int32) (x5 : Int32), k42 sO x3 x4 x5 = some out → zG C 7 [0] 0 0 [wX12 (zcT C) aO sO] 42 [(0, .ref (aO 0)), (3, .int x3), (4, .int x4), (5, .int x5)] []) (h : fX12_findsPoints_148 k14 k27 k42 sO x3 x4 x5 = some out) : zG C 7 [0] 0 0 [wX12 (zcT C) aO sO] 148 [(0, .ref (aO 0)), (3, .int x3), (4, .int x4), (5, .int x5)] [] := by
  unfold fX12_findsPoints_148 at h
  obtain ⟨v148, ev148, h⟩ := zlet_of h
  refine z_iinc (v := v148) (lv2 := [(5, .int v148), (0, .ref (aO 0)), (3, .int x3), (4, .int x4)]) X dX12_findsPoints_148 (k := 3) rfl (by rw [ev148]; rfl) (by decide) rfl ?_
  refine z_goto (tgt := 42) X dX12_findsPoints_151 (by decide) ?_
  exact z_at (pc2 := 42) (lv2 := [(0, .ref (aO 0)), (3, .int x3), (4, .int x4), (5, .int v148)]) (st2 := []) (ws2 := [wX12 (zcT C) aO sO]) rfl rfl rfl [1, 2, 3, 0] rfl (hk42 sO x3 x4 v148 h)
theorem bX12_findsPoints_80 {C : zCtx} (X : zFx C cX12_findsPoints 7 RX12 rmX12_findsPoints none) {aO : Nat → Nat} {k14 : zSt → Int32 → Option (zSt)} {k27 : zSt → Int32 → Int32 → Option (zSt)} {k42 : zSt → Int32 → Int32 → Int32 → Option (zSt)} {out : zSt} (hQ : zHv C [wX12 (zcT C) aO out] 0 0) (hk14 : ∀ (sO : zSt) (x3 : Int32), k14 sO x3 = some out → zG C 7 [0] 0 0 [wX12 (zcT C) aO sO] 14 [(0, .ref (aO 0)), (3, .int x3)] []) (hk27 : ∀ (sO : zSt) (x3 : Int32) (x4 : Int32), k27 sO x3 x4 = some out → zG C 7 [0] 0 0 [wX12 (zcT C) aO sO] 27 [(0, .ref (aO 0)), (3, .int x3), (4, .int x4)] []) (hk42 : ∀ (sO : zSt) (x3 : Int32) (x4 : Int32) (x5 : Int32), k42 sO x3 x4 x5 = some out → zG C 7 [0] 0 0 [wX12 (zcT C) aO sO] 42 [(0, .ref (aO 0)), (3, .int x3), (4, .int x4), (5, .int x5)] []) : ∀ (n : Nat) (sO : zSt) (x3 : Int32) (x4 : Int32) (x5 : Int32) (x6 : Int32), fX12_findsPoints_80 k14 k27 k42 n sO x3 x4 x5 x6 = some out → zG C 7 [0] 0 0 [wX12 (zcT C) aO sO] 80 [(0, .ref (aO 0)), (3, .int x3), (4, .int x4), (5, .int x5), (6, .int x6)] [] := by
  intro n
  induction n with
  | zero =>
    intro sO x3 x4 x5 x6 h
    rw [fX12_findsPoints_80] at h
    exact zno h
  | succ n ih =>
    intro sO x3 x4 x5 x6 h
    rw [fX12_findsPoints_80] at h
    refine z_iload X dX12_findsPoints_80 4 rfl ?_
    refine z_iconst (v := (3 : Int32)) X dX12_findsPoints_82 rfl ?_
    refine z_icmp_ge (tgt := 113) X dX12_findsPoints_83 (by decide) (fun c83 => ?_) (fun c83 => ?_)
    · replace h := zif_t h c83
      refine z_aload_n X dX12_findsPoints_113 0 rfl ?_
      refine z_get (v := .ref (aO 23)) X 0 0 13 22 ziX12 rfl (by decide) zw1358 rfl dX12_findsPoints_114 rfl rfl rfl ?_
      refine z_aload_n X dX12_findsPoints_117 0 rfl ?_
      refine z_get (v := .int (zgi sO 32)) X 0 0 13 32 ziX12 rfl (by decide) zw1368 rfl dX12_findsPoints_118 rfl rfl rfl ?_
      refine z_aload_n X dX12_findsPoints_121 0 rfl ?_
      refine z_get (v := .ref (aO 28)) X 0 0 13 27 ziX12 rfl (by decide) zw1363 rfl dX12_findsPoints_122 rfl rfl rfl ?_
      refine z_iconst (v := (3 : Int32)) X dX12_findsPoints_125 rfl ?_
      obtain ⟨g126, h⟩ := zgd_of h
      refine z_lald X 0 19 g126 dX12_findsPoints_126 rfl rfl ?_
      obtain ⟨g127, h⟩ := zgd_of h
      obtain ⟨sO127, esO127, h⟩ := zlet_of h
      refine z_last (ws2 := [wX12 (zcT C) aO sO127]) X 0 14 g127 dX12_findsPoints_127 rfl rfl (by decide) (w2 := wX12 (zcT C) aO sO127) (by rw [esO127]; rfl) rfl ?_
      refine z_aload_n X dX12_findsPoints_128 0 rfl ?_
      refine z_get (v := .ref (aO 26)) X 0 0 13 25 ziX12 rfl (by decide) zw1361 rfl dX12_findsPoints_129 rfl rfl rfl ?_
      refine z_aload_n X dX12_findsPoints_132 0 rfl ?_
      refine z_get (v := .int (zgi sO127 32)) X 0 0 13 32 ziX12 rfl (by decide) zw1368 rfl dX12_findsPoints_133 rfl rfl rfl ?_
      refine z_iconst (v := (1 : Int32)) X dX12_findsPoints_136 rfl ?_
      obtain ⟨g137, h⟩ := zgd_of h
      obtain ⟨sO137, esO137, h⟩ := zlet_of h
      refine z_zast (ws2 := [wX12 (zcT C) aO sO137]) X 0 17 g137 dX12_findsPoints_137 rfl rfl (by decide) (w2 := wX12 (zcT C) aO sO137) (by rw [esO137]; rfl) rfl ?_
      refine z_aload_n X dX12_findsPoints_138 0 rfl ?_
      refine z_dup X dX12_findsPoints_139 rfl ?_
      refine z_get (v := .int (zgi sO137 32)) X 0 0 13 32 ziX12 rfl (by decide) zw1368 rfl dX12_findsPoints_140 rfl rfl rfl ?_
      refine z_iconst (v := (1 : Int32)) X dX12_findsPoints_143 rfl ?_
      refine z_iadd X dX12_findsPoints_144 ?_
      obtain ⟨sO145, esO145, h⟩ := zlet_of h
      refine z_put (ws2 := [wX12 (zcT C) aO sO145]) X 0 0 13 32 ziX12 rfl tyX12 tyX12_ok nmX12 (by decide) zw1368 rfl rfl (ty := .int) (by decide +kernel) rfl rfl (by show 32 < 40; decide) dX12_findsPoints_145 rfl rfl (by decide) (w2 := wX12 (zcT C) aO sO145) (by rw [esO145]; rfl) rfl ?_
      exact z_at (pc2 := 148) (lv2 := [(0, .ref (aO 0)), (3, .int x3), (4, .int x4), (5, .int x5)]) (st2 := []) (ws2 := [wX12 (zcT C) aO sO145]) rfl rfl rfl [0, 1, 2, 3] rfl (bX12_findsPoints_148 X hQ hk14 hk27 hk42 h)
    · replace h := zif_f h c83
      refine z_aload_n X dX12_findsPoints_86 0 rfl ?_
      refine z_get (v := .ref (aO 22)) X 0 0 13 21 ziX12 rfl (by decide) zw1357 rfl dX12_findsPoints_87 rfl rfl rfl ?_
      refine z_iconst (v := (3 : Int32)) X dX12_findsPoints_90 rfl ?_
      refine z_aload_n X dX12_findsPoints_91 0 rfl ?_
      refine z_get (v := .int (zgi sO 32)) X 0 0 13 32 ziX12 rfl (by decide) zw1368 rfl dX12_findsPoints_92 rfl rfl rfl ?_
      refine z_imul X dX12_findsPoints_95 ?_
      refine z_iload X dX12_findsPoints_96 4 rfl ?_
      refine z_iadd X dX12_findsPoints_98 ?_
      refine z_aload_n X dX12_findsPoints_99 0 rfl ?_
      refine z_get (v := .ref (aO 28)) X 0 0 13 27 ziX12 rfl (by decide) zw1363 rfl dX12_findsPoints_100 rfl rfl rfl ?_
      refine z_iload X dX12_findsPoints_103 4 rfl ?_
      obtain ⟨g105, h⟩ := zgd_of h
      refine z_lald X 0 19 g105 dX12_findsPoints_105 rfl rfl ?_
      obtain ⟨g106, h⟩ := zgd_of h
      obtain ⟨sO106, esO106, h⟩ := zlet_of h
      refine z_last (ws2 := [wX12 (zcT C) aO sO106]) X 0 13 g106 dX12_findsPoints_106 rfl rfl (by decide) (w2 := wX12 (zcT C) aO sO106) (by rw [esO106]; rfl) rfl ?_
      obtain ⟨v107, ev107, h⟩ := zlet_of h
      refine z_iinc (v := v107) (lv2 := [(6, .int v107), (0, .ref (aO 0)), (3, .int x3), (4, .int x4), (5, .int x5)]) X dX12_findsPoints_107 (k := 4) rfl (by rw [ev107]; rfl) (by decide) rfl ?_
      refine z_goto (tgt := 80) X dX12_findsPoints_110 (by decide) ?_
      exact z_at (pc2 := 80) (lv2 := [(0, .ref (aO 0)), (3, .int x3), (4, .int x4), (5, .int x5), (6, .int v107)]) (st2 := []) (ws2 := [wX12 (zcT C) aO sO106]) rfl rfl rfl [1, 2, 3, 4, 0] rfl (ih sO106 x3 x4 x5 v107 h)
theorem bX12_findsPoints_42 {C : zCtx} (X : zFx C cX12_findsPoints 7 RX12 rmX12_findsPoints none) {aO : Nat → Nat} {k14 : zSt → Int32 → Option (zSt)} {k27 : zSt → Int32 → Int32 → Option (zSt)} {out : zSt} (hQ : zHv C [wX12 (zcT C) aO out] 0 0) (hk14 : ∀ (sO : zSt) (x3 : Int32), k14 sO x3 = some out → zG C 7 [0] 0 0 [wX12 (zcT C) aO sO] 14 [(0, .ref (aO 0)), (3, .int x3)] []) (hk27 : ∀ (sO : zSt) (x3 : Int32) (x4 : Int32), k27 sO x3 x4 = some out → zG C 7 [0] 0 0 [wX12 (zcT C) aO sO] 27 [(0, .ref (aO 0)), (3, .int x3), (4, .int x4)] []) : ∀ (n : Nat) (sO : zSt) (x3 : Int32) (x4 : Int32) (x5 : Int32), fX12_findsPoints_42 k14 k27 n sO x3 x4 x5 = some out → zG C 7 [0] 0 0 [wX12 (zcT C) aO sO] 42 [(0, .ref (aO 0)), (3, .int x3), (4, .int x4), (5, .int x5)] [] := by
  intro n
  induction n with
  | zero =>
    intro sO x3 x4 x5 h
    rw [fX12_findsPoints_42] at h
    exact zno h
  | succ n ih =>
    intro sO x3 x4 x5 h
    rw [fX12_findsPoints_42] at h
    refine z_iload X dX12_findsPoints_42 3 rfl ?_
    refine z_aload_n X dX12_findsPoints_44 0 rfl ?_
    refine z_get (v := .int (zgi sO 31)) X 0 0 13 31 ziX12 rfl (by decide) zw1367 rfl dX12_findsPoints_45 rfl rfl rfl ?_
    refine z_icmp_ge (tgt := 154) X dX12_findsPoints_48 (by decide) (fun c48 => ?_) (fun c48 => ?_)
    · replace h := zif_t h c48
      obtain ⟨v154, ev154, h⟩ := zlet_of h
      refine z_iinc (v := v154) (lv2 := [(4, .int v154), (0, .ref (aO 0)), (3, .int x3), (5, .int x5)]) X dX12_findsPoints_154 (k := 2) rfl (by rw [ev154]; rfl) (by decide) rfl ?_
      refine z_goto (tgt := 27) X dX12_findsPoints_157 (by decide) ?_
      exact z_at (pc2 := 27) (lv2 := [(0, .ref (aO 0)), (3, .int x3), (4, .int v154)]) (st2 := []) (ws2 := [wX12 (zcT C) aO sO]) rfl rfl rfl [1, 2, 0] rfl (hk27 sO x3 v154 h)
    · replace h := zif_f h c48
      refine z_aload_n X dX12_findsPoints_51 0 rfl ?_
      refine z_iload_n X dX12_findsPoints_52 1 rfl ?_
      refine z_iload X dX12_findsPoints_53 2 rfl ?_
      refine z_iload X dX12_findsPoints_55 3 rfl ?_
      obtain ⟨o57, ho57, h⟩ := zbind_of h
      refine z_callVi (st := []) (ws2 := [wX12 (zcT C) aO o57.2]) X (metX12_solves (zcl C) (zcD C) (zcT C) aO ho57) zmX12_solves zw1820 dX12_findsPoints_57 0 0 13 rfl rfl rfl rfl [0] rfl rfl [0] rfl (by decide) ⟨zsX12 , trivial⟩ rfl rfl rfl (Nat.le_of_ble_eq_true rfl) rfl rfl ⟨Nat.le_of_ble_eq_true rfl, Nat.le_of_ble_eq_true rfl⟩ ⟨Nat.le_of_ble_eq_true rfl, Nat.le_of_ble_eq_true rfl⟩ ?_
      refine z_if_eq (tgt := 148) X dX12_findsPoints_60 (by decide) (fun c60 => ?_) (fun c60 => ?_)
      · replace h := zif_t h c60
        exact z_at (pc2 := 148) (lv2 := [(0, .ref (aO 0)), (3, .int x3), (4, .int x4), (5, .int x5)]) (st2 := []) (ws2 := [wX12 (zcT C) aO o57.2]) rfl rfl rfl [0, 1, 2, 3] rfl (bX12_findsPoints_148 X hQ hk14 hk27 ih h)
      · replace h := zif_f h c60
        refine z_aload_n X dX12_findsPoints_63 0 rfl ?_
        refine z_aload_n X dX12_findsPoints_64 0 rfl ?_
        refine z_get (v := .int (zgi o57.2 31)) X 0 0 13 31 ziX12 rfl (by decide) zw1367 rfl dX12_findsPoints_65 rfl rfl rfl ?_
        obtain ⟨o68, ho68, h⟩ := zbind_of h
        refine z_callVi (st := []) (ws2 := [wX12 (zcT C) aO o57.2]) X (metX12_fits (zcl C) (zcD C) (zcT C) aO ho68) zmX12_fits zw1829 dX12_findsPoints_68 0 0 13 rfl rfl rfl rfl [0] rfl rfl [] rfl (by decide) trivial rfl rfl rfl (Nat.le_of_ble_eq_true rfl) rfl rfl ⟨Nat.le_of_ble_eq_true rfl, Nat.le_of_ble_eq_true rfl⟩ ⟨Nat.le_of_ble_eq_true rfl, Nat.le_of_ble_eq_true rfl⟩ ?_
        refine z_if_ne (tgt := 77) X dX12_findsPoints_71 (by decide) (fun c71 => ?_) (fun c71 => ?_)
        · replace h := zif_f h c71
          refine z_iconst (v := (0 : Int32)) X dX12_findsPoints_77 rfl ?_
          refine z_istore (lv2 := [(6, .int (0 : Int32)), (0, .ref (aO 0)), (3, .int x3), (4, .int x4), (5, .int x5)]) X dX12_findsPoints_78 (by decide) rfl ?_
          exact z_at (pc2 := 80) (lv2 := [(0, .ref (aO 0)), (3, .int x3), (4, .int x4), (5, .int x5), (6, .int (0 : Int32))]) (st2 := []) (ws2 := [wX12 (zcT C) aO o57.2]) rfl rfl rfl [1, 2, 3, 4, 0] rfl (bX12_findsPoints_80 X hQ hk14 hk27 ih 6000 o57.2 x3 x4 x5 (0 : Int32) h)
        · replace h := zif_t h c71
          refine z_goto (tgt := 148) X dX12_findsPoints_74 (by decide) ?_
          exact z_at (pc2 := 148) (lv2 := [(0, .ref (aO 0)), (3, .int x3), (4, .int x4), (5, .int x5)]) (st2 := []) (ws2 := [wX12 (zcT C) aO o57.2]) rfl rfl rfl [0, 1, 2, 3] rfl (bX12_findsPoints_148 X hQ hk14 hk27 ih h)
theorem bX12_findsPoints_27 {C : zCtx} (X : zFx C cX12_findsPoints 7 RX12 rmX12_findsPoints none) {aO : Nat → Nat} {k14 : zSt → Int32 → Option (zSt)} {out : zSt} (hQ : zHv C [wX12 (zcT C) aO out] 0 0) (hk14 : ∀ (sO : zSt) (x3 : Int32), k14 sO x3 = some out → zG C 7 [0] 0 0 [wX12 (zcT C) aO sO] 14 [(0, .ref (aO 0)), (3, .int x3)] []) : ∀ (n : Nat) (sO : zSt) (x3 : Int32) (x4 : Int32), fX12_findsPoints_27 k14 n sO x3 x4 = some out → zG C 7 [0] 0 0 [wX12 (zcT C) aO sO] 27 [(0, .ref (aO 0)), (3, .int x3), (4, .int x4)] [] := by
  intro n
  induction n with
  | zero =>
    intro sO x3 x4 h
    rw [fX12_findsPoints_27] at h
    exact zno h
  | succ n ih =>
    intro sO x3 x4 h
    rw [fX12_findsPoints_27] at h
    refine z_iload X dX12_findsPoints_27 2 rfl ?_
    refine z_aload_n X dX12_findsPoints_29 0 rfl ?_
    refine z_get (v := .int (zgi sO 31)) X 0 0 13 31 ziX12 rfl (by decide) zw1367 rfl dX12_findsPoints_30 rfl rfl rfl ?_
    refine z_icmp_ge (tgt := 160) X dX12_findsPoints_33 (by decide) (fun c33 => ?_) (fun c33 => ?_)
    · replace h := zif_t h c33
      obtain ⟨v160, ev160, h⟩ := zlet_of h
      refine z_iinc (v := v160) (lv2 := [(3, .int v160), (0, .ref (aO 0)), (4, .int x4)]) X dX12_findsPoints_160 (k := 1) rfl (by rw [ev160]; rfl) (by decide) rfl ?_
      refine z_goto (tgt := 14) X dX12_findsPoints_163 (by decide) ?_
      exact z_at (pc2 := 14) (lv2 := [(0, .ref (aO 0)), (3, .int v160)]) (st2 := []) (ws2 := [wX12 (zcT C) aO sO]) rfl rfl rfl [1, 0] rfl (hk14 sO v160 h)
    · replace h := zif_f h c33
      refine z_iload X dX12_findsPoints_36 2 rfl ?_
      refine z_iconst (v := (1 : Int32)) X dX12_findsPoints_38 rfl ?_
      refine z_iadd X dX12_findsPoints_39 ?_
      obtain ⟨v40, ev40, h⟩ := zlet_of h
      refine z_topi ev40 ?_
      refine z_istore (lv2 := [(5, .int v40), (0, .ref (aO 0)), (3, .int x3), (4, .int x4)]) X dX12_findsPoints_40 (by decide) rfl ?_
      exact z_at (pc2 := 42) (lv2 := [(0, .ref (aO 0)), (3, .int x3), (4, .int x4), (5, .int v40)]) (st2 := []) (ws2 := [wX12 (zcT C) aO sO]) rfl rfl rfl [1, 2, 3, 0] rfl (bX12_findsPoints_42 X hQ hk14 ih 6000 sO x3 x4 v40 h)
theorem bX12_findsPoints_14 {C : zCtx} (X : zFx C cX12_findsPoints 7 RX12 rmX12_findsPoints none) {aO : Nat → Nat} {out : zSt} (hQ : zHv C [wX12 (zcT C) aO out] 0 0) : ∀ (n : Nat) (sO : zSt) (x3 : Int32), fX12_findsPoints_14 n sO x3 = some out → zG C 7 [0] 0 0 [wX12 (zcT C) aO sO] 14 [(0, .ref (aO 0)), (3, .int x3)] [] := by
  intro n
  induction n with
  | zero =>
    intro sO x3 h
    rw [fX12_findsPoints_14] at h
    exact zno h
  | succ n ih =>
    intro sO x3 h
    rw [fX12_findsPoints_14] at h
    refine z_iload_n X dX12_findsPoints_14 1 rfl ?_
    refine z_aload_n X dX12_findsPoints_15 0 rfl ?_
    refine z_get (v := .int (zgi sO 31)) X 0 0 13 31 ziX12 rfl (by decide) zw1367 rfl dX12_findsPoints_16 rfl rfl rfl ?_
    refine z_icmp_ge (tgt := 166) X dX12_findsPoints_19 (by decide) (fun c19 => ?_) (fun c19 => ?_)
    · replace h := zif_t h c19
      cases h
      exact z_vret X hQ dX12_findsPoints_166 [0] rfl (by decide) (by decide)
    · replace h := zif_f h c19
      refine z_iload_n X dX12_findsPoints_22 1 rfl ?_
      refine z_iconst (v := (1 : Int32)) X dX12_findsPoints_23 rfl ?_
      refine z_iadd X dX12_findsPoints_24 ?_
      obtain ⟨v25, ev25, h⟩ := zlet_of h
      refine z_topi ev25 ?_
      refine z_istore (lv2 := [(4, .int v25), (0, .ref (aO 0)), (3, .int x3)]) X dX12_findsPoints_25 (by decide) rfl ?_
      exact z_at (pc2 := 27) (lv2 := [(0, .ref (aO 0)), (3, .int x3), (4, .int v25)]) (st2 := []) (ws2 := [wX12 (zcT C) aO sO]) rfl rfl rfl [1, 2, 0] rfl (bX12_findsPoints_27 X hQ ih 6000 sO x3 v25 h)
theorem bX12_findsPoints_0 {C : zCtx} (X : zFx C cX12_findsPoints 7 RX12 rmX12_findsPoints none) {aO : Nat → Nat} {sO : zSt} {x1 : Int32} {x2 : Int32} {out : zSt} (hQ : zHv C [wX12 (zcT C) aO out] 0 0) (h : fX12_findsPoints sO x1 x2 = some out) : zG C 7 [0] 0 0 [wX12 (zcT C) aO sO] 0 [(0, .ref (aO 0)), (1, .int x1), (2, .int x2)] [] := by
  unfold fX12_findsPoints at h
  refine z_aload_n X dX12_findsPoints_0 0 rfl ?_
  refine z_iload_n X dX12_findsPoints_1 1 rfl ?_
  refine z_iload_n X dX12_findsPoints_2 2 rfl ?_
  refine z_iconst (v := (0 : Int32)) X dX12_findsPoints_3 rfl ?_
  obtain ⟨o4, ho4, h⟩ := zbind_of h
  refine z_callVv (st := []) (ws2 := [wX12 (zcT C) aO o4]) X (metX12_laysPlanes (zcl C) (zcD C) (zcT C) aO ho4) zmX12_laysPlanes zw1808 dX12_findsPoints_4 0 0 13 rfl rfl rfl rfl [0] rfl rfl [0] rfl (by decide) ⟨zsX12 , trivial⟩ rfl rfl rfl (Nat.le_of_ble_eq_true rfl) rfl rfl ⟨Nat.le_of_ble_eq_true rfl, Nat.le_of_ble_eq_true rfl⟩ ⟨Nat.le_of_ble_eq_true rfl, Nat.le_of_ble_eq_true rfl⟩ ?_
  refine z_aload_n X dX12_findsPoints_7 0 rfl ?_
  refine z_iconst (v := (0 : Int32)) X dX12_findsPoints_8 rfl ?_
  obtain ⟨sO9, esO9, h⟩ := zlet_of h
  refine z_put (ws2 := [wX12 (zcT C) aO sO9]) X 0 0 13 32 ziX12 rfl tyX12 tyX12_ok nmX12 (by decide) zw1368 rfl rfl (ty := .int) (by decide +kernel) rfl rfl (by show 32 < 40; decide) dX12_findsPoints_9 rfl rfl (by decide) (w2 := wX12 (zcT C) aO sO9) (by rw [esO9]; rfl) rfl ?_
  refine z_iconst (v := (0 : Int32)) X dX12_findsPoints_12 rfl ?_
  refine z_istore_n (lv2 := [(3, .int (0 : Int32)), (0, .ref (aO 0)), (1, .int x1), (2, .int x2)]) X dX12_findsPoints_13 rfl (by decide) rfl ?_
  exact z_at (pc2 := 14) (lv2 := [(0, .ref (aO 0)), (3, .int (0 : Int32))]) (st2 := []) (ws2 := [wX12 (zcT C) aO sO9]) rfl rfl rfl [1, 0] rfl (bX12_findsPoints_14 X hQ  6000 sO9 (0 : Int32) h)
theorem metX12_findsPoints (l : Launch) (D : va_G) (T : Nat → ClassId) (aO : Nat → Nat) {sO : zSt} {x1 : Int32} {x2 : Int32} {out : zSt} (hf : fX12_findsPoints sO x1 x2 = some out) (sz : Nat) : Met l yX12_findsPoints (zws yX12_findsPoints cX12_findsPoints 7 none) rmX12_findsPoints (zPc D T [.ref (aO 0), .int x1, .int x2] [wX12 T aO sO] sz) (zQv D [wX12 T aO out] (zA [wX12 T aO sO] sz)) 0 0 (zA [wX12 T aO sO] sz) :=
  zMet (D := D) (T := T) (av := [.ref (aO 0), .int x1, .int x2]) (ws := fun T => [wX12 T aO sO]) (wm := fun T => [wX12 T aO sO]) (lv0 := [(0, .ref (aO 0)), (1, .int x1), (2, .int x2)]) [0] (Qc := fun D T A => zQv D [wX12 T aO out] A) (by decide +kernel) rfl (Nat.le_of_ble_eq_true rfl) rfl (fun C X hQ => bX12_findsPoints_0 X hQ hf) sz
/-- private void findsRays(int); of TableaufloorModel -/
abbrev rmX12_findsRays : Room := { frames := 3, cells := 0, slots := 0, locals := 78 }
def fX12_findsRays_122 (k28 : zSt → Int32 → Int32 → Option (zSt)) (k38 : zSt → Int32 → Int32 → Int32 → Option (zSt)) (sO : zSt) (x2 : Int32) (x3 : Int32) (x4 : Int32) : Option (zSt) :=
  (zlet (x4 + 1) (fun v122 =>
    (k38 sO x2 x3 v122)))
def fX12_findsRays_69 (k28 : zSt → Int32 → Int32 → Option (zSt)) (k38 : zSt → Int32 → Int32 → Int32 → Option (zSt)) : Nat → zSt → Int32 → Int32 → Int32 → Int32 → Option (zSt)
  | 0, _, _, _, _, _ => none
  | n + 1, sO, x2, x3, x4, x5 =>
    (if (3 : Int32) ≤ x5 then
      (if zin (zgi sO 33) 130 = true then
        (zlet (zsa sO 26 (upd (zga sO 26) ((zgi sO 33)).toNatClampNeg (vp_nar .boolean (1 : Int32)))) (fun sO111 =>
        (zlet (zsi sO111 33 ((zgi sO111 33) + (1 : Int32))) (fun sO119 =>
        (fX12_findsRays_122 k28 k38 sO119 x2 x3 x4))))) else none)
    else
      (if zin x5 4 = true then
        (if zin (((3 : Int32) * (zgi sO 33)) + x5) 390 = true then
        (zlet (zsb sO 23 (vp_updL (zgb sO 23) ((((3 : Int32) * (zgi sO 33)) + x5)).toNatClampNeg (zgb sO 27 (x5).toNatClampNeg))) (fun sO95 =>
        (zlet (x5 + 1) (fun v96 =>
        (fX12_findsRays_69 k28 k38 n sO95 x2 x3 x4 v96))))) else none) else none))
def fX12_findsRays_38 (k28 : zSt → Int32 → Int32 → Option (zSt)) : Nat → zSt → Int32 → Int32 → Int32 → Option (zSt)
  | 0, _, _, _, _ => none
  | n + 1, sO, x2, x3, x4 =>
    (if x2 ≤ x4 then
      (zlet (x3 + 1) (fun v128 =>
        (k28 sO x2 v128)))
    else
      ((fX12_solves sO x3 x4 x2).bind (fun o49 =>
        (if o49.1 = 0 then
        (fX12_findsRays_122 k28 (fX12_findsRays_38 k28 n) o49.2 x2 x3 x4)
      else
        ((fX12_fits o49.2 x2).bind (fun o57 =>
          (if o57 = 0 then
          (fX12_findsRays_122 k28 (fX12_findsRays_38 k28 n) o49.2 x2 x3 x4)
        else
          (fX12_findsRays_69 k28 (fX12_findsRays_38 k28 n) 6000 o49.2 x2 x3 x4 (0 : Int32)))))))))
def fX12_findsRays_28 : Nat → zSt → Int32 → Int32 → Option (zSt)
  | 0, _, _, _ => none
  | n + 1, sO, x2, x3 =>
    (if x2 ≤ x3 then
      some (sO)
    else
      (zlet (x3 + (1 : Int32)) (fun v36 =>
        (fX12_findsRays_38 (fX12_findsRays_28 n) 6000 sO x2 x3 v36))))
def fX12_findsRays (sO : zSt) (x1 : Int32) : Option (zSt) :=
  ((fX12_laysPlanes sO x1 (-1 : Int32) (1 : Int32)).bind (fun o4 =>
    (zlet (zsi o4 33 (0 : Int32)) (fun sO9 =>
    (zlet (zgi sO9 31) (fun v16 =>
    ((fX12_addPlane sO9 (1 : Int64) (1 : Int64) (1 : Int64) (2 : Int32) (1 : Int64)).bind (fun o23 =>
    (fX12_findsRays_28 6000 o23 v16 (0 : Int32))))))))))
theorem bX12_findsRays_122 {C : zCtx} (X : zFx C cX12_findsRays 6 RX12 rmX12_findsRays none) {aO : Nat → Nat} {k28 : zSt → Int32 → Int32 → Option (zSt)} {k38 : zSt → Int32 → Int32 → Int32 → Option (zSt)} {sO : zSt} {x2 : Int32} {x3 : Int32} {x4 : Int32} {out : zSt} (hQ : zHv C [wX12 (zcT C) aO out] 0 0) (hk28 : ∀ (sO : zSt) (x2 : Int32) (x3 : Int32), k28 sO x2 x3 = some out → zG C 6 [0] 0 0 [wX12 (zcT C) aO sO] 28 [(0, .ref (aO 0)), (2, .int x2), (3, .int x3)] []) (hk38 : ∀ (sO : zSt) (x2 : Int32) (x3 : Int32) (x4 : Int32), k38 sO x2 x3 x4 = some out → zG C 6 [0] 0 0 [wX12 (zcT C) aO sO] 38 [(0, .ref (aO 0)), (2, .int x2), (3, .int x3), (4, .int x4)] []) (h : fX12_findsRays_122 k28 k38 sO x2 x3 x4 = some out) : zG C 6 [0] 0 0 [wX12 (zcT C) aO sO] 122 [(0, .ref (aO 0)), (2, .int x2), (3, .int x3), (4, .int x4)] [] := by
  unfold fX12_findsRays_122 at h
  obtain ⟨v122, ev122, h⟩ := zlet_of h
  refine z_iinc (v := v122) (lv2 := [(4, .int v122), (0, .ref (aO 0)), (2, .int x2), (3, .int x3)]) X dX12_findsRays_122 (k := 3) rfl (by rw [ev122]; rfl) (by decide) rfl ?_
  refine z_goto (tgt := 38) X dX12_findsRays_125 (by decide) ?_
  exact z_at (pc2 := 38) (lv2 := [(0, .ref (aO 0)), (2, .int x2), (3, .int x3), (4, .int v122)]) (st2 := []) (ws2 := [wX12 (zcT C) aO sO]) rfl rfl rfl [1, 2, 3, 0] rfl (hk38 sO x2 x3 v122 h)
theorem bX12_findsRays_69 {C : zCtx} (X : zFx C cX12_findsRays 6 RX12 rmX12_findsRays none) {aO : Nat → Nat} {k28 : zSt → Int32 → Int32 → Option (zSt)} {k38 : zSt → Int32 → Int32 → Int32 → Option (zSt)} {out : zSt} (hQ : zHv C [wX12 (zcT C) aO out] 0 0) (hk28 : ∀ (sO : zSt) (x2 : Int32) (x3 : Int32), k28 sO x2 x3 = some out → zG C 6 [0] 0 0 [wX12 (zcT C) aO sO] 28 [(0, .ref (aO 0)), (2, .int x2), (3, .int x3)] []) (hk38 : ∀ (sO : zSt) (x2 : Int32) (x3 : Int32) (x4 : Int32), k38 sO x2 x3 x4 = some out → zG C 6 [0] 0 0 [wX12 (zcT C) aO sO] 38 [(0, .ref (aO 0)), (2, .int x2), (3, .int x3), (4, .int x4)] []) : ∀ (n : Nat) (sO : zSt) (x2 : Int32) (x3 : Int32) (x4 : Int32) (x5 : Int32), fX12_findsRays_69 k28 k38 n sO x2 x3 x4 x5 = some out → zG C 6 [0] 0 0 [wX12 (zcT C) aO sO] 69 [(0, .ref (aO 0)), (2, .int x2), (3, .int x3), (4, .int x4), (5, .int x5)] [] := by
  intro n
  induction n with
  | zero =>
    intro sO x2 x3 x4 x5 h
    rw [fX12_findsRays_69] at h
    exact zno h
  | succ n ih =>
    intro sO x2 x3 x4 x5 h
    rw [fX12_findsRays_69] at h
    refine z_iload X dX12_findsRays_69 4 rfl ?_
    refine z_iconst (v := (3 : Int32)) X dX12_findsRays_71 rfl ?_
    refine z_icmp_ge (tgt := 102) X dX12_findsRays_72 (by decide) (fun c72 => ?_) (fun c72 => ?_)
    · replace h := zif_t h c72
      refine z_aload_n X dX12_findsRays_102 0 rfl ?_
      refine z_get (v := .ref (aO 27)) X 0 0 13 26 ziX12 rfl (by decide) zw1362 rfl dX12_findsRays_103 rfl rfl rfl ?_
      refine z_aload_n X dX12_findsRays_106 0 rfl ?_
      refine z_get (v := .int (zgi sO 33)) X 0 0 13 33 ziX12 rfl (by decide) zw1369 rfl dX12_findsRays_107 rfl rfl rfl ?_
      refine z_iconst (v := (1 : Int32)) X dX12_findsRays_110 rfl ?_
      obtain ⟨g111, h⟩ := zgd_of h
      obtain ⟨sO111, esO111, h⟩ := zlet_of h
      refine z_zast (ws2 := [wX12 (zcT C) aO sO111]) X 0 18 g111 dX12_findsRays_111 rfl rfl (by decide) (w2 := wX12 (zcT C) aO sO111) (by rw [esO111]; rfl) rfl ?_
      refine z_aload_n X dX12_findsRays_112 0 rfl ?_
      refine z_dup X dX12_findsRays_113 rfl ?_
      refine z_get (v := .int (zgi sO111 33)) X 0 0 13 33 ziX12 rfl (by decide) zw1369 rfl dX12_findsRays_114 rfl rfl rfl ?_
      refine z_iconst (v := (1 : Int32)) X dX12_findsRays_117 rfl ?_
      refine z_iadd X dX12_findsRays_118 ?_
      obtain ⟨sO119, esO119, h⟩ := zlet_of h
      refine z_put (ws2 := [wX12 (zcT C) aO sO119]) X 0 0 13 33 ziX12 rfl tyX12 tyX12_ok nmX12 (by decide) zw1369 rfl rfl (ty := .int) (by decide +kernel) rfl rfl (by show 33 < 40; decide) dX12_findsRays_119 rfl rfl (by decide) (w2 := wX12 (zcT C) aO sO119) (by rw [esO119]; rfl) rfl ?_
      exact z_at (pc2 := 122) (lv2 := [(0, .ref (aO 0)), (2, .int x2), (3, .int x3), (4, .int x4)]) (st2 := []) (ws2 := [wX12 (zcT C) aO sO119]) rfl rfl rfl [0, 1, 2, 3] rfl (bX12_findsRays_122 X hQ hk28 hk38 h)
    · replace h := zif_f h c72
      refine z_aload_n X dX12_findsRays_75 0 rfl ?_
      refine z_get (v := .ref (aO 24)) X 0 0 13 23 ziX12 rfl (by decide) zw1359 rfl dX12_findsRays_76 rfl rfl rfl ?_
      refine z_iconst (v := (3 : Int32)) X dX12_findsRays_79 rfl ?_
      refine z_aload_n X dX12_findsRays_80 0 rfl ?_
      refine z_get (v := .int (zgi sO 33)) X 0 0 13 33 ziX12 rfl (by decide) zw1369 rfl dX12_findsRays_81 rfl rfl rfl ?_
      refine z_imul X dX12_findsRays_84 ?_
      refine z_iload X dX12_findsRays_85 4 rfl ?_
      refine z_iadd X dX12_findsRays_87 ?_
      refine z_aload_n X dX12_findsRays_88 0 rfl ?_
      refine z_get (v := .ref (aO 28)) X 0 0 13 27 ziX12 rfl (by decide) zw1363 rfl dX12_findsRays_89 rfl rfl rfl ?_
      refine z_iload X dX12_findsRays_92 4 rfl ?_
      obtain ⟨g94, h⟩ := zgd_of h
      refine z_lald X 0 19 g94 dX12_findsRays_94 rfl rfl ?_
      obtain ⟨g95, h⟩ := zgd_of h
      obtain ⟨sO95, esO95, h⟩ := zlet_of h
      refine z_last (ws2 := [wX12 (zcT C) aO sO95]) X 0 15 g95 dX12_findsRays_95 rfl rfl (by decide) (w2 := wX12 (zcT C) aO sO95) (by rw [esO95]; rfl) rfl ?_
      obtain ⟨v96, ev96, h⟩ := zlet_of h
      refine z_iinc (v := v96) (lv2 := [(5, .int v96), (0, .ref (aO 0)), (2, .int x2), (3, .int x3), (4, .int x4)]) X dX12_findsRays_96 (k := 4) rfl (by rw [ev96]; rfl) (by decide) rfl ?_
      refine z_goto (tgt := 69) X dX12_findsRays_99 (by decide) ?_
      exact z_at (pc2 := 69) (lv2 := [(0, .ref (aO 0)), (2, .int x2), (3, .int x3), (4, .int x4), (5, .int v96)]) (st2 := []) (ws2 := [wX12 (zcT C) aO sO95]) rfl rfl rfl [1, 2, 3, 4, 0] rfl (ih sO95 x2 x3 x4 v96 h)
theorem bX12_findsRays_38 {C : zCtx} (X : zFx C cX12_findsRays 6 RX12 rmX12_findsRays none) {aO : Nat → Nat} {k28 : zSt → Int32 → Int32 → Option (zSt)} {out : zSt} (hQ : zHv C [wX12 (zcT C) aO out] 0 0) (hk28 : ∀ (sO : zSt) (x2 : Int32) (x3 : Int32), k28 sO x2 x3 = some out → zG C 6 [0] 0 0 [wX12 (zcT C) aO sO] 28 [(0, .ref (aO 0)), (2, .int x2), (3, .int x3)] []) : ∀ (n : Nat) (sO : zSt) (x2 : Int32) (x3 : Int32) (x4 : Int32), fX12_findsRays_38 k28 n sO x2 x3 x4 = some out → zG C 6 [0] 0 0 [wX12 (zcT C) aO sO] 38 [(0, .ref (aO 0)), (2, .int x2), (3, .int x3), (4, .int x4)] [] := by
  intro n
  induction n with
  | zero =>
    intro sO x2 x3 x4 h
    rw [fX12_findsRays_38] at h
    exact zno h
  | succ n ih =>
    intro sO x2 x3 x4 h
    rw [fX12_findsRays_38] at h
    refine z_iload X dX12_findsRays_38 3 rfl ?_
    refine z_iload_n X dX12_findsRays_40 1 rfl ?_
    refine z_icmp_ge (tgt := 128) X dX12_findsRays_41 (by decide) (fun c41 => ?_) (fun c41 => ?_)
    · replace h := zif_t h c41
      obtain ⟨v128, ev128, h⟩ := zlet_of h
      refine z_iinc (v := v128) (lv2 := [(3, .int v128), (0, .ref (aO 0)), (2, .int x2), (4, .int x4)]) X dX12_findsRays_128 (k := 2) rfl (by rw [ev128]; rfl) (by decide) rfl ?_
      refine z_goto (tgt := 28) X dX12_findsRays_131 (by decide) ?_
      exact z_at (pc2 := 28) (lv2 := [(0, .ref (aO 0)), (2, .int x2), (3, .int v128)]) (st2 := []) (ws2 := [wX12 (zcT C) aO sO]) rfl rfl rfl [1, 2, 0] rfl (hk28 sO x2 v128 h)
    · replace h := zif_f h c41
      refine z_aload_n X dX12_findsRays_44 0 rfl ?_
      refine z_iload_n X dX12_findsRays_45 2 rfl ?_
      refine z_iload X dX12_findsRays_46 3 rfl ?_
      refine z_iload_n X dX12_findsRays_48 1 rfl ?_
      obtain ⟨o49, ho49, h⟩ := zbind_of h
      refine z_callVi (st := []) (ws2 := [wX12 (zcT C) aO o49.2]) X (metX12_solves (zcl C) (zcD C) (zcT C) aO ho49) zmX12_solves zw1820 dX12_findsRays_49 0 0 13 rfl rfl rfl rfl [0] rfl rfl [0] rfl (by decide) ⟨zsX12 , trivial⟩ rfl rfl rfl (Nat.le_of_ble_eq_true rfl) rfl rfl ⟨Nat.le_of_ble_eq_true rfl, Nat.le_of_ble_eq_true rfl⟩ ⟨Nat.le_of_ble_eq_true rfl, Nat.le_of_ble_eq_true rfl⟩ ?_
      refine z_if_eq (tgt := 122) X dX12_findsRays_52 (by decide) (fun c52 => ?_) (fun c52 => ?_)
      · replace h := zif_t h c52
        exact z_at (pc2 := 122) (lv2 := [(0, .ref (aO 0)), (2, .int x2), (3, .int x3), (4, .int x4)]) (st2 := []) (ws2 := [wX12 (zcT C) aO o49.2]) rfl rfl rfl [0, 1, 2, 3] rfl (bX12_findsRays_122 X hQ hk28 ih h)
      · replace h := zif_f h c52
        refine z_aload_n X dX12_findsRays_55 0 rfl ?_
        refine z_iload_n X dX12_findsRays_56 1 rfl ?_
        obtain ⟨o57, ho57, h⟩ := zbind_of h
        refine z_callVi (st := []) (ws2 := [wX12 (zcT C) aO o49.2]) X (metX12_fits (zcl C) (zcD C) (zcT C) aO ho57) zmX12_fits zw1829 dX12_findsRays_57 0 0 13 rfl rfl rfl rfl [0] rfl rfl [] rfl (by decide) trivial rfl rfl rfl (Nat.le_of_ble_eq_true rfl) rfl rfl ⟨Nat.le_of_ble_eq_true rfl, Nat.le_of_ble_eq_true rfl⟩ ⟨Nat.le_of_ble_eq_true rfl, Nat.le_of_ble_eq_true rfl⟩ ?_
        refine z_if_ne (tgt := 66) X dX12_findsRays_60 (by decide) (fun c60 => ?_) (fun c60 => ?_)
        · replace h := zif_f h c60
          refine z_iconst (v := (0 : Int32)) X dX12_findsRays_66 rfl ?_
          refine z_istore (lv2 := [(5, .int (0 : Int32)), (0, .ref (aO 0)), (2, .int x2), (3, .int x3), (4, .int x4)]) X dX12_findsRays_67 (by decide) rfl ?_
          exact z_at (pc2 := 69) (lv2 := [(0, .ref (aO 0)), (2, .int x2), (3, .int x3), (4, .int x4), (5, .int (0 : Int32))]) (st2 := []) (ws2 := [wX12 (zcT C) aO o49.2]) rfl rfl rfl [1, 2, 3, 4, 0] rfl (bX12_findsRays_69 X hQ hk28 ih 6000 o49.2 x2 x3 x4 (0 : Int32) h)
        · replace h := zif_t h c60
          refine z_goto (tgt := 122) X dX12_findsRays_63 (by decide) ?_
          exact z_at (pc2 := 122) (lv2 := [(0, .ref (aO 0)), (2, .int x2), (3, .int x3), (4, .int x4)]) (st2 := []) (ws2 := [wX12 (zcT C) aO o49.2]) rfl rfl rfl [0, 1, 2, 3] rfl (bX12_findsRays_122 X hQ hk28 ih h)
theorem bX12_findsRays_28 {C : zCtx} (X : zFx C cX12_findsRays 6 RX12 rmX12_findsRays none) {aO : Nat → Nat} {out : zSt} (hQ : zHv C [wX12 (zcT C) aO out] 0 0) : ∀ (n : Nat) (sO : zSt) (x2 : Int32) (x3 : Int32), fX12_findsRays_28 n sO x2 x3 = some out → zG C 6 [0] 0 0 [wX12 (zcT C) aO sO] 28 [(0, .ref (aO 0)), (2, .int x2), (3, .int x3)] [] := by
  intro n
  induction n with
  | zero =>
    intro sO x2 x3 h
    rw [fX12_findsRays_28] at h
    exact zno h
  | succ n ih =>
    intro sO x2 x3 h
    rw [fX12_findsRays_28] at h
    refine z_iload_n X dX12_findsRays_28 2 rfl ?_
    refine z_iload_n X dX12_findsRays_29 1 rfl ?_
    refine z_icmp_ge (tgt := 134) X dX12_findsRays_30 (by decide) (fun c30 => ?_) (fun c30 => ?_)
    · replace h := zif_t h c30
      cases h
      exact z_vret X hQ dX12_findsRays_134 [0] rfl (by decide) (by decide)
    · replace h := zif_f h c30
      refine z_iload_n X dX12_findsRays_33 2 rfl ?_
      refine z_iconst (v := (1 : Int32)) X dX12_findsRays_34 rfl ?_
      refine z_iadd X dX12_findsRays_35 ?_
      obtain ⟨v36, ev36, h⟩ := zlet_of h
      refine z_topi ev36 ?_
      refine z_istore (lv2 := [(4, .int v36), (0, .ref (aO 0)), (2, .int x2), (3, .int x3)]) X dX12_findsRays_36 (by decide) rfl ?_
      exact z_at (pc2 := 38) (lv2 := [(0, .ref (aO 0)), (2, .int x2), (3, .int x3), (4, .int v36)]) (st2 := []) (ws2 := [wX12 (zcT C) aO sO]) rfl rfl rfl [1, 2, 3, 0] rfl (bX12_findsRays_38 X hQ ih 6000 sO x2 x3 v36 h)
theorem bX12_findsRays_0 {C : zCtx} (X : zFx C cX12_findsRays 6 RX12 rmX12_findsRays none) {aO : Nat → Nat} {sO : zSt} {x1 : Int32} {out : zSt} (hQ : zHv C [wX12 (zcT C) aO out] 0 0) (h : fX12_findsRays sO x1 = some out) : zG C 6 [0] 0 0 [wX12 (zcT C) aO sO] 0 [(0, .ref (aO 0)), (1, .int x1)] [] := by
  unfold fX12_findsRays at h
  refine z_aload_n X dX12_findsRays_0 0 rfl ?_
  refine z_iload_n X dX12_findsRays_1 1 rfl ?_
  refine z_iconst (v := (-1 : Int32)) X dX12_findsRays_2 rfl ?_
  refine z_iconst (v := (1 : Int32)) X dX12_findsRays_3 rfl ?_
  obtain ⟨o4, ho4, h⟩ := zbind_of h
  refine z_callVv (st := []) (ws2 := [wX12 (zcT C) aO o4]) X (metX12_laysPlanes (zcl C) (zcD C) (zcT C) aO ho4) zmX12_laysPlanes zw1808 dX12_findsRays_4 0 0 13 rfl rfl rfl rfl [0] rfl rfl [0] rfl (by decide) ⟨zsX12 , trivial⟩ rfl rfl rfl (Nat.le_of_ble_eq_true rfl) rfl rfl ⟨Nat.le_of_ble_eq_true rfl, Nat.le_of_ble_eq_true rfl⟩ ⟨Nat.le_of_ble_eq_true rfl, Nat.le_of_ble_eq_true rfl⟩ ?_
  refine z_aload_n X dX12_findsRays_7 0 rfl ?_
  refine z_iconst (v := (0 : Int32)) X dX12_findsRays_8 rfl ?_
  obtain ⟨sO9, esO9, h⟩ := zlet_of h
  refine z_put (ws2 := [wX12 (zcT C) aO sO9]) X 0 0 13 33 ziX12 rfl tyX12 tyX12_ok nmX12 (by decide) zw1369 rfl rfl (ty := .int) (by decide +kernel) rfl rfl (by show 33 < 40; decide) dX12_findsRays_9 rfl rfl (by decide) (w2 := wX12 (zcT C) aO sO9) (by rw [esO9]; rfl) rfl ?_
  refine z_aload_n X dX12_findsRays_12 0 rfl ?_
  refine z_get (v := .int (zgi sO9 31)) X 0 0 13 31 ziX12 rfl (by decide) zw1367 rfl dX12_findsRays_13 rfl rfl rfl ?_
  obtain ⟨v16, ev16, h⟩ := zlet_of h
  refine z_topi ev16 ?_
  refine z_istore_n (lv2 := [(2, .int v16), (0, .ref (aO 0)), (1, .int x1)]) X dX12_findsRays_16 rfl (by decide) rfl ?_
  refine z_aload_n X dX12_findsRays_17 1 rfl ?_
  refine z_lconst (v := (1 : Int64)) X dX12_findsRays_18 rfl ?_
  refine z_lconst (v := (1 : Int64)) X dX12_findsRays_19 rfl ?_
  refine z_lconst (v := (1 : Int64)) X dX12_findsRays_20 rfl ?_
  refine z_iconst (v := (2 : Int32)) X dX12_findsRays_21 rfl ?_
  refine z_lconst (v := (1 : Int64)) X dX12_findsRays_22 rfl ?_
  obtain ⟨o23, ho23, h⟩ := zbind_of h
  refine z_callVv (st := []) (ws2 := [wX12 (zcT C) aO o23]) X (metX12_addPlane (zcl C) (zcD C) (zcT C) aO ho23) zmX12_addPlane zw1816 dX12_findsRays_23 0 0 13 rfl rfl rfl rfl [0] rfl rfl [0] rfl (by decide) ⟨zsX12 , trivial⟩ rfl rfl rfl (Nat.le_of_ble_eq_true rfl) rfl rfl ⟨Nat.le_of_ble_eq_true rfl, Nat.le_of_ble_eq_true rfl⟩ ⟨Nat.le_of_ble_eq_true rfl, Nat.le_of_ble_eq_true rfl⟩ ?_
  refine z_iconst (v := (0 : Int32)) X dX12_findsRays_26 rfl ?_
  refine z_istore_n (lv2 := [(3, .int (0 : Int32)), (2, .int v16), (0, .ref (aO 0)), (1, .int x1)]) X dX12_findsRays_27 rfl (by decide) rfl ?_
  exact z_at (pc2 := 28) (lv2 := [(0, .ref (aO 0)), (2, .int v16), (3, .int (0 : Int32))]) (st2 := []) (ws2 := [wX12 (zcT C) aO o23]) rfl rfl rfl [2, 1, 0] rfl (bX12_findsRays_28 X hQ  6000 o23 v16 (0 : Int32) h)
theorem metX12_findsRays (l : Launch) (D : va_G) (T : Nat → ClassId) (aO : Nat → Nat) {sO : zSt} {x1 : Int32} {out : zSt} (hf : fX12_findsRays sO x1 = some out) (sz : Nat) : Met l yX12_findsRays (zws yX12_findsRays cX12_findsRays 6 none) rmX12_findsRays (zPc D T [.ref (aO 0), .int x1] [wX12 T aO sO] sz) (zQv D [wX12 T aO out] (zA [wX12 T aO sO] sz)) 0 0 (zA [wX12 T aO sO] sz) :=
  zMet (D := D) (T := T) (av := [.ref (aO 0), .int x1]) (ws := fun T => [wX12 T aO sO]) (wm := fun T => [wX12 T aO sO]) (lv0 := [(0, .ref (aO 0)), (1, .int x1)]) [0] (Qc := fun D T A => zQv D [wX12 T aO out] A) (by decide +kernel) rfl (Nat.le_of_ble_eq_true rfl) rfl (fun C X hQ => bX12_findsRays_0 X hQ hf) sz
/-- private long gain(int, int); of TableaufloorModel -/
abbrev rmX12_gain : Room := { frames := 0, cells := 0, slots := 0, locals := 0 }
def fX12_gain_59 (sO : zSt) (y0 : Int64) : Option (Int64) :=
  some (y0)
def fX12_gain_5 (sO : zSt) : Nat → Int32 → Int32 → Int64 → Int32 → Option (Int64)
  | 0, _, _, _, _ => none
  | n + 1, x1, x2, x3, x5 =>
    (if (3 : Int32) ≤ x5 then
      (if zin x1 3 = true then
        (if (zga sO 7 (x1).toNatClampNeg) = 0 then
        (fX12_gain_59 sO (-x3))
      else
        (fX12_gain_59 sO x3)) else none)
    else
      (if zin (((3 : Int32) * x1) + x5) 9 = true then
        (if zin (((3 : Int32) * x2) + x5) 390 = true then
        (zlet (x3 + ((((zga sO 5 ((((3 : Int32) * x1) + x5)).toNatClampNeg)).toInt64) * (zgb sO 23 ((((3 : Int32) * x2) + x5)).toNatClampNeg))) (fun v37 =>
        (zlet (x5 + 1) (fun v38 =>
        (fX12_gain_5 sO n x1 x2 v37 v38))))) else none) else none))
def fX12_gain (sO : zSt) (x1 : Int32) (x2 : Int32) : Option (Int64) :=
  (fX12_gain_5 sO 6000 x1 x2 (0 : Int64) (0 : Int32))
theorem bX12_gain_59 {C : zCtx} (X : zFx C cX12_gain 6 RX12 rmX12_gain (some .long)) {aO : Nat → Nat} {sO : zSt} {y0 : Int64} {out : Int64} (hQ : zHl C out [] 0 0) (h : fX12_gain_59 sO y0 = some out) : zG C 6 [] 0 0 [wX12 (zcT C) aO sO] 59 [] [.long y0] := by
  unfold fX12_gain_59 at h
  cases h
  exact z_lret X hQ dX12_gain_59 rfl [] rfl (by decide) (by decide)
theorem bX12_gain_5 {C : zCtx} (X : zFx C cX12_gain 6 RX12 rmX12_gain (some .long)) {aO : Nat → Nat} {sO : zSt} {out : Int64} (hQ : zHl C out [] 0 0) : ∀ (n : Nat) (x1 : Int32) (x2 : Int32) (x3 : Int64) (x5 : Int32), fX12_gain_5 sO n x1 x2 x3 x5 = some out → zG C 6 [] 0 0 [wX12 (zcT C) aO sO] 5 [(0, .ref (aO 0)), (1, .int x1), (2, .int x2), (3, .long x3), (5, .int x5)] [] := by
  intro n
  induction n with
  | zero =>
    intro x1 x2 x3 x5 h
    rw [fX12_gain_5] at h
    exact zno h
  | succ n ih =>
    intro x1 x2 x3 x5 h
    rw [fX12_gain_5] at h
    refine z_iload X dX12_gain_5 4 rfl ?_
    refine z_iconst (v := (3 : Int32)) X dX12_gain_7 rfl ?_
    refine z_icmp_ge (tgt := 44) X dX12_gain_8 (by decide) (fun c8 => ?_) (fun c8 => ?_)
    · replace h := zif_t h c8
      refine z_aload_n X dX12_gain_44 0 rfl ?_
      refine z_get (v := .ref (aO 8)) X 0 0 13 7 ziX12 rfl (by decide) zw1343 rfl dX12_gain_45 rfl rfl rfl ?_
      refine z_iload_n X dX12_gain_48 1 rfl ?_
      obtain ⟨g49, h⟩ := zgd_of h
      refine z_zald X 0 8 g49 dX12_gain_49 rfl rfl ?_
      refine z_if_eq (tgt := 57) X dX12_gain_50 (by decide) (fun c50 => ?_) (fun c50 => ?_)
      · replace h := zif_t h c50
        refine z_lload_n X dX12_gain_57 3 rfl ?_
        refine z_lneg X dX12_gain_58 ?_
        exact z_at (pc2 := 59) (lv2 := []) (st2 := [.long (-x3)]) (ws2 := [wX12 (zcT C) aO sO]) rfl rfl rfl [] rfl (bX12_gain_59 X hQ  h)
      · replace h := zif_f h c50
        refine z_lload_n X dX12_gain_53 3 rfl ?_
        refine z_goto (tgt := 59) X dX12_gain_54 (by decide) ?_
        exact z_at (pc2 := 59) (lv2 := []) (st2 := [.long x3]) (ws2 := [wX12 (zcT C) aO sO]) rfl rfl rfl [] rfl (bX12_gain_59 X hQ  h)
    · replace h := zif_f h c8
      refine z_lload_n X dX12_gain_11 3 rfl ?_
      refine z_aload_n X dX12_gain_12 0 rfl ?_
      refine z_get (v := .ref (aO 6)) X 0 0 13 5 ziX12 rfl (by decide) zw1341 rfl dX12_gain_13 rfl rfl rfl ?_
      refine z_iconst (v := (3 : Int32)) X dX12_gain_16 rfl ?_
      refine z_iload_n X dX12_gain_17 1 rfl ?_
      refine z_imul X dX12_gain_18 ?_
      refine z_iload X dX12_gain_19 4 rfl ?_
      refine z_iadd X dX12_gain_21 ?_
      obtain ⟨g22, h⟩ := zgd_of h
      refine z_iald X 0 6 g22 dX12_gain_22 rfl rfl ?_
      refine z_i2l X dX12_gain_23 ?_
      refine z_aload_n X dX12_gain_24 0 rfl ?_
      refine z_get (v := .ref (aO 24)) X 0 0 13 23 ziX12 rfl (by decide) zw1359 rfl dX12_gain_25 rfl rfl rfl ?_
      refine z_iconst (v := (3 : Int32)) X dX12_gain_28 rfl ?_
      refine z_iload_n X dX12_gain_29 2 rfl ?_
      refine z_imul X dX12_gain_30 ?_
      refine z_iload X dX12_gain_31 4 rfl ?_
      refine z_iadd X dX12_gain_33 ?_
      obtain ⟨g34, h⟩ := zgd_of h
      refine z_lald X 0 15 g34 dX12_gain_34 rfl rfl ?_
      refine z_lmul X dX12_gain_35 ?_
      refine z_ladd X dX12_gain_36 ?_
      obtain ⟨v37, ev37, h⟩ := zlet_of h
      refine z_topl ev37 ?_
      refine z_lstore_n (lv2 := [(3, .long v37), (0, .ref (aO 0)), (1, .int x1), (2, .int x2), (5, .int x5)]) X dX12_gain_37 rfl (by decide) rfl ?_
      obtain ⟨v38, ev38, h⟩ := zlet_of h
      refine z_iinc (v := v38) (lv2 := [(5, .int v38), (3, .long v37), (0, .ref (aO 0)), (1, .int x1), (2, .int x2)]) X dX12_gain_38 (k := 4) rfl (by rw [ev38]; rfl) (by decide) rfl ?_
      refine z_goto (tgt := 5) X dX12_gain_41 (by decide) ?_
      exact z_at (pc2 := 5) (lv2 := [(0, .ref (aO 0)), (1, .int x1), (2, .int x2), (3, .long v37), (5, .int v38)]) (st2 := []) (ws2 := [wX12 (zcT C) aO sO]) rfl rfl rfl [2, 3, 4, 1, 0] rfl (ih x1 x2 v37 v38 h)
theorem bX12_gain_0 {C : zCtx} (X : zFx C cX12_gain 6 RX12 rmX12_gain (some .long)) {aO : Nat → Nat} {sO : zSt} {x1 : Int32} {x2 : Int32} {out : Int64} (hQ : zHl C out [] 0 0) (h : fX12_gain sO x1 x2 = some out) : zG C 6 [] 0 0 [wX12 (zcT C) aO sO] 0 [(0, .ref (aO 0)), (1, .int x1), (2, .int x2)] [] := by
  unfold fX12_gain at h
  refine z_lconst (v := (0 : Int64)) X dX12_gain_0 rfl ?_
  refine z_lstore_n (lv2 := [(3, .long (0 : Int64)), (0, .ref (aO 0)), (1, .int x1), (2, .int x2)]) X dX12_gain_1 rfl (by decide) rfl ?_
  refine z_iconst (v := (0 : Int32)) X dX12_gain_2 rfl ?_
  refine z_istore (lv2 := [(5, .int (0 : Int32)), (3, .long (0 : Int64)), (0, .ref (aO 0)), (1, .int x1), (2, .int x2)]) X dX12_gain_3 (by decide) rfl ?_
  exact z_at (pc2 := 5) (lv2 := [(0, .ref (aO 0)), (1, .int x1), (2, .int x2), (3, .long (0 : Int64)), (5, .int (0 : Int32))]) (st2 := []) (ws2 := [wX12 (zcT C) aO sO]) rfl rfl rfl [2, 3, 4, 1, 0] rfl (bX12_gain_5 X hQ  6000 x1 x2 (0 : Int64) (0 : Int32) h)
theorem metX12_gain (l : Launch) (D : va_G) (T : Nat → ClassId) (aO : Nat → Nat) {sO : zSt} {x1 : Int32} {x2 : Int32} {out : Int64} (hf : fX12_gain sO x1 x2 = some out) (sz : Nat) : Met l yX12_gain (zws yX12_gain cX12_gain 6 (some .long)) rmX12_gain (zPc D T [.ref (aO 0), .int x1, .int x2] [wX12 T aO sO] sz) (zQl D out [] (zA [] sz)) 0 0 (zA [] sz) :=
  zMet (D := D) (T := T) (av := [.ref (aO 0), .int x1, .int x2]) (ws := fun T => [wX12 T aO sO]) (wm := fun T => []) (lv0 := [(0, .ref (aO 0)), (1, .int x1), (2, .int x2)]) [] (Qc := fun D T A => zQl D out [] A) (by decide +kernel) rfl (Nat.le_of_ble_eq_true rfl) rfl (fun C X hQ => bX12_gain_0 X hQ hf) sz
/-- private long top(int, int); of TableaufloorModel -/
abbrev rmX12_top : Room := { frames := 0, cells := 0, slots := 0, locals := 0 }
def fX12_top_5 (sO : zSt) : Nat → Int32 → Int32 → Int64 → Int32 → Option (Int64)
  | 0, _, _, _, _ => none
  | n + 1, x1, x2, x3, x5 =>
    (if (3 : Int32) ≤ x5 then
      some (x3)
    else
      (if zin (((3 : Int32) * x1) + x5) 9 = true then
        (if zin (((3 : Int32) * x2) + x5) 1800 = true then
        (zlet (x3 + ((((zga sO 5 ((((3 : Int32) * x1) + x5)).toNatClampNeg)).toInt64) * (zgb sO 21 ((((3 : Int32) * x2) + x5)).toNatClampNeg))) (fun v37 =>
        (zlet (x5 + 1) (fun v38 =>
        (fX12_top_5 sO n x1 x2 v37 v38))))) else none) else none))
def fX12_top (sO : zSt) (x1 : Int32) (x2 : Int32) : Option (Int64) :=
  (fX12_top_5 sO 6000 x1 x2 (0 : Int64) (0 : Int32))
theorem bX12_top_5 {C : zCtx} (X : zFx C cX12_top 6 RX12 rmX12_top (some .long)) {aO : Nat → Nat} {sO : zSt} {out : Int64} (hQ : zHl C out [] 0 0) : ∀ (n : Nat) (x1 : Int32) (x2 : Int32) (x3 : Int64) (x5 : Int32), fX12_top_5 sO n x1 x2 x3 x5 = some out → zG C 6 [] 0 0 [wX12 (zcT C) aO sO] 5 [(0, .ref (aO 0)), (1, .int x1), (2, .int x2), (3, .long x3), (5, .int x5)] [] := by
  intro n
  induction n with
  | zero =>
    intro x1 x2 x3 x5 h
    rw [fX12_top_5] at h
    exact zno h
  | succ n ih =>
    intro x1 x2 x3 x5 h
    rw [fX12_top_5] at h
    refine z_iload X dX12_top_5 4 rfl ?_
    refine z_iconst (v := (3 : Int32)) X dX12_top_7 rfl ?_
    refine z_icmp_ge (tgt := 44) X dX12_top_8 (by decide) (fun c8 => ?_) (fun c8 => ?_)
    · replace h := zif_t h c8
      refine z_lload_n X dX12_top_44 3 rfl ?_
      cases h
      exact z_lret X hQ dX12_top_45 rfl [] rfl (by decide) (by decide)
    · replace h := zif_f h c8
      refine z_lload_n X dX12_top_11 3 rfl ?_
      refine z_aload_n X dX12_top_12 0 rfl ?_
      refine z_get (v := .ref (aO 6)) X 0 0 13 5 ziX12 rfl (by decide) zw1341 rfl dX12_top_13 rfl rfl rfl ?_
      refine z_iconst (v := (3 : Int32)) X dX12_top_16 rfl ?_
      refine z_iload_n X dX12_top_17 1 rfl ?_
      refine z_imul X dX12_top_18 ?_
      refine z_iload X dX12_top_19 4 rfl ?_
      refine z_iadd X dX12_top_21 ?_
      obtain ⟨g22, h⟩ := zgd_of h
      refine z_iald X 0 6 g22 dX12_top_22 rfl rfl ?_
      refine z_i2l X dX12_top_23 ?_
      refine z_aload_n X dX12_top_24 0 rfl ?_
      refine z_get (v := .ref (aO 22)) X 0 0 13 21 ziX12 rfl (by decide) zw1357 rfl dX12_top_25 rfl rfl rfl ?_
      refine z_iconst (v := (3 : Int32)) X dX12_top_28 rfl ?_
      refine z_iload_n X dX12_top_29 2 rfl ?_
      refine z_imul X dX12_top_30 ?_
      refine z_iload X dX12_top_31 4 rfl ?_
      refine z_iadd X dX12_top_33 ?_
      obtain ⟨g34, h⟩ := zgd_of h
      refine z_lald X 0 13 g34 dX12_top_34 rfl rfl ?_
      refine z_lmul X dX12_top_35 ?_
      refine z_ladd X dX12_top_36 ?_
      obtain ⟨v37, ev37, h⟩ := zlet_of h
      refine z_topl ev37 ?_
      refine z_lstore_n (lv2 := [(3, .long v37), (0, .ref (aO 0)), (1, .int x1), (2, .int x2), (5, .int x5)]) X dX12_top_37 rfl (by decide) rfl ?_
      obtain ⟨v38, ev38, h⟩ := zlet_of h
      refine z_iinc (v := v38) (lv2 := [(5, .int v38), (3, .long v37), (0, .ref (aO 0)), (1, .int x1), (2, .int x2)]) X dX12_top_38 (k := 4) rfl (by rw [ev38]; rfl) (by decide) rfl ?_
      refine z_goto (tgt := 5) X dX12_top_41 (by decide) ?_
      exact z_at (pc2 := 5) (lv2 := [(0, .ref (aO 0)), (1, .int x1), (2, .int x2), (3, .long v37), (5, .int v38)]) (st2 := []) (ws2 := [wX12 (zcT C) aO sO]) rfl rfl rfl [2, 3, 4, 1, 0] rfl (ih x1 x2 v37 v38 h)
theorem bX12_top_0 {C : zCtx} (X : zFx C cX12_top 6 RX12 rmX12_top (some .long)) {aO : Nat → Nat} {sO : zSt} {x1 : Int32} {x2 : Int32} {out : Int64} (hQ : zHl C out [] 0 0) (h : fX12_top sO x1 x2 = some out) : zG C 6 [] 0 0 [wX12 (zcT C) aO sO] 0 [(0, .ref (aO 0)), (1, .int x1), (2, .int x2)] [] := by
  unfold fX12_top at h
  refine z_lconst (v := (0 : Int64)) X dX12_top_0 rfl ?_
  refine z_lstore_n (lv2 := [(3, .long (0 : Int64)), (0, .ref (aO 0)), (1, .int x1), (2, .int x2)]) X dX12_top_1 rfl (by decide) rfl ?_
  refine z_iconst (v := (0 : Int32)) X dX12_top_2 rfl ?_
  refine z_istore (lv2 := [(5, .int (0 : Int32)), (3, .long (0 : Int64)), (0, .ref (aO 0)), (1, .int x1), (2, .int x2)]) X dX12_top_3 (by decide) rfl ?_
  exact z_at (pc2 := 5) (lv2 := [(0, .ref (aO 0)), (1, .int x1), (2, .int x2), (3, .long (0 : Int64)), (5, .int (0 : Int32))]) (st2 := []) (ws2 := [wX12 (zcT C) aO sO]) rfl rfl rfl [2, 3, 4, 1, 0] rfl (bX12_top_5 X hQ  6000 x1 x2 (0 : Int64) (0 : Int32) h)
theorem metX12_top (l : Launch) (D : va_G) (T : Nat → ClassId) (aO : Nat → Nat) {sO : zSt} {x1 : Int32} {x2 : Int32} {out : Int64} (hf : fX12_top sO x1 x2 = some out) (sz : Nat) : Met l yX12_top (zws yX12_top cX12_top 6 (some .long)) rmX12_top (zPc D T [.ref (aO 0), .int x1, .int x2] [wX12 T aO sO] sz) (zQl D out [] (zA [] sz)) 0 0 (zA [] sz) :=
  zMet (D := D) (T := T) (av := [.ref (aO 0), .int x1, .int x2]) (ws := fun T => [wX12 T aO sO]) (wm := fun T => []) (lv0 := [(0, .ref (aO 0)), (1, .int x1), (2, .int x2)]) [] (Qc := fun D T A => zQl D out [] A) (by decide +kernel) rfl (Nat.le_of_ble_eq_true rfl) rfl (fun C X hQ => bX12_top_0 X hQ hf) sz
/-- private boolean isOpenFor(int); of TableaufloorModel -/
abbrev rmX12_isOpenFor : Room := { frames := 1, cells := 0, slots := 0, locals := 25 }
def fX12_isOpenFor_32 (sO : zSt) (k2 : Int32 → Int32 → Option (Int32)) (x1 : Int32) (x2 : Int32) : Option (Int32) :=
  (zlet (x2 + 1) (fun v32 =>
    (k2 x1 v32)))
def fX12_isOpenFor_2 (sO : zSt) : Nat → Int32 → Int32 → Option (Int32)
  | 0, _, _ => none
  | n + 1, x1, x2 =>
    (if (zgi sO 33) ≤ x2 then
      some ((0 : Int32))
    else
      (if zin x2 130 = true then
        (if (zga sO 26 (x2).toNatClampNeg) = 0 then
        (fX12_isOpenFor_32 sO (fX12_isOpenFor_2 sO n) x1 x2)
      else
        ((fX12_gain sO x1 x2).bind (fun o22 =>
          (if o22 ≤ (0 : Int64) then
          (fX12_isOpenFor_32 sO (fX12_isOpenFor_2 sO n) x1 x2)
        else
          some ((1 : Int32)))))) else none))
def fX12_isOpenFor (sO : zSt) (x1 : Int32) : Option (Int32) :=
  (fX12_isOpenFor_2 sO 6000 x1 (0 : Int32))
theorem bX12_isOpenFor_32 {C : zCtx} (X : zFx C cX12_isOpenFor 3 RX12 rmX12_isOpenFor (some .boolean)) {aO : Nat → Nat} {sO : zSt} {k2 : Int32 → Int32 → Option (Int32)} {x1 : Int32} {x2 : Int32} {out : Int32} (hQ : zHi C out [] 0 0) (hk2 : ∀ (x1 : Int32) (x2 : Int32), k2 x1 x2 = some out → zG C 3 [] 0 0 [wX12 (zcT C) aO sO] 2 [(0, .ref (aO 0)), (1, .int x1), (2, .int x2)] []) (h : fX12_isOpenFor_32 sO k2 x1 x2 = some out) : zG C 3 [] 0 0 [wX12 (zcT C) aO sO] 32 [(0, .ref (aO 0)), (1, .int x1), (2, .int x2)] [] := by
  unfold fX12_isOpenFor_32 at h
  obtain ⟨v32, ev32, h⟩ := zlet_of h
  refine z_iinc (v := v32) (lv2 := [(2, .int v32), (0, .ref (aO 0)), (1, .int x1)]) X dX12_isOpenFor_32 (k := 2) rfl (by rw [ev32]; rfl) (by decide) rfl ?_
  refine z_goto (tgt := 2) X dX12_isOpenFor_35 (by decide) ?_
  exact z_at (pc2 := 2) (lv2 := [(0, .ref (aO 0)), (1, .int x1), (2, .int v32)]) (st2 := []) (ws2 := [wX12 (zcT C) aO sO]) rfl rfl rfl [1, 2, 0] rfl (hk2 x1 v32 h)
theorem bX12_isOpenFor_2 {C : zCtx} (X : zFx C cX12_isOpenFor 3 RX12 rmX12_isOpenFor (some .boolean)) {aO : Nat → Nat} {sO : zSt} {out : Int32} (hQ : zHi C out [] 0 0) : ∀ (n : Nat) (x1 : Int32) (x2 : Int32), fX12_isOpenFor_2 sO n x1 x2 = some out → zG C 3 [] 0 0 [wX12 (zcT C) aO sO] 2 [(0, .ref (aO 0)), (1, .int x1), (2, .int x2)] [] := by
  intro n
  induction n with
  | zero =>
    intro x1 x2 h
    rw [fX12_isOpenFor_2] at h
    exact zno h
  | succ n ih =>
    intro x1 x2 h
    rw [fX12_isOpenFor_2] at h
    refine z_iload_n X dX12_isOpenFor_2 2 rfl ?_
    refine z_aload_n X dX12_isOpenFor_3 0 rfl ?_
    refine z_get (v := .int (zgi sO 33)) X 0 0 13 33 ziX12 rfl (by decide) zw1369 rfl dX12_isOpenFor_4 rfl rfl rfl ?_
    refine z_icmp_ge (tgt := 38) X dX12_isOpenFor_7 (by decide) (fun c7 => ?_) (fun c7 => ?_)
    · replace h := zif_t h c7
      refine z_iconst (v := (0 : Int32)) X dX12_isOpenFor_38 rfl ?_
      cases h
      exact z_nret X hQ rfl dX12_isOpenFor_39 rfl [] rfl (by decide) (by decide)
    · replace h := zif_f h c7
      refine z_aload_n X dX12_isOpenFor_10 0 rfl ?_
      refine z_get (v := .ref (aO 27)) X 0 0 13 26 ziX12 rfl (by decide) zw1362 rfl dX12_isOpenFor_11 rfl rfl rfl ?_
      refine z_iload_n X dX12_isOpenFor_14 2 rfl ?_
      obtain ⟨g15, h⟩ := zgd_of h
      refine z_zald X 0 18 g15 dX12_isOpenFor_15 rfl rfl ?_
      refine z_if_eq (tgt := 32) X dX12_isOpenFor_16 (by decide) (fun c16 => ?_) (fun c16 => ?_)
      · replace h := zif_t h c16
        exact z_at (pc2 := 32) (lv2 := [(0, .ref (aO 0)), (1, .int x1), (2, .int x2)]) (st2 := []) (ws2 := [wX12 (zcT C) aO sO]) rfl rfl rfl [0, 1, 2] rfl (bX12_isOpenFor_32 X hQ ih h)
      · replace h := zif_f h c16
        refine z_aload_n X dX12_isOpenFor_19 0 rfl ?_
        refine z_iload_n X dX12_isOpenFor_20 1 rfl ?_
        refine z_iload_n X dX12_isOpenFor_21 2 rfl ?_
        obtain ⟨o22, ho22, h⟩ := zbind_of h
        refine z_callVl (st := []) (ws2 := [wX12 (zcT C) aO sO]) X (metX12_gain (zcl C) (zcD C) (zcT C) aO ho22) zmX12_gain zw1841 dX12_isOpenFor_22 0 0 13 rfl rfl rfl rfl [0] rfl rfl [] rfl (by decide) trivial rfl rfl rfl (Nat.le_of_ble_eq_true rfl) rfl rfl ⟨Nat.le_of_ble_eq_true rfl, Nat.le_of_ble_eq_true rfl⟩ ⟨Nat.le_of_ble_eq_true rfl, Nat.le_of_ble_eq_true rfl⟩ ?_
        refine z_lconst (v := (0 : Int64)) X dX12_isOpenFor_25 rfl ?_
        refine z_lcmp_le (tgt := 32) X dX12_isOpenFor_26 dX12_isOpenFor_27 (by decide) (fun c26 => ?_) (fun c26 => ?_)
        · replace h := zif_t h c26
          exact z_at (pc2 := 32) (lv2 := [(0, .ref (aO 0)), (1, .int x1), (2, .int x2)]) (st2 := []) (ws2 := [wX12 (zcT C) aO sO]) rfl rfl rfl [0, 1, 2] rfl (bX12_isOpenFor_32 X hQ ih h)
        · replace h := zif_f h c26
          refine z_iconst (v := (1 : Int32)) X dX12_isOpenFor_30 rfl ?_
          cases h
          exact z_nret X hQ rfl dX12_isOpenFor_31 rfl [] rfl (by decide) (by decide)
theorem bX12_isOpenFor_0 {C : zCtx} (X : zFx C cX12_isOpenFor 3 RX12 rmX12_isOpenFor (some .boolean)) {aO : Nat → Nat} {sO : zSt} {x1 : Int32} {out : Int32} (hQ : zHi C out [] 0 0) (h : fX12_isOpenFor sO x1 = some out) : zG C 3 [] 0 0 [wX12 (zcT C) aO sO] 0 [(0, .ref (aO 0)), (1, .int x1)] [] := by
  unfold fX12_isOpenFor at h
  refine z_iconst (v := (0 : Int32)) X dX12_isOpenFor_0 rfl ?_
  refine z_istore_n (lv2 := [(2, .int (0 : Int32)), (0, .ref (aO 0)), (1, .int x1)]) X dX12_isOpenFor_1 rfl (by decide) rfl ?_
  exact z_at (pc2 := 2) (lv2 := [(0, .ref (aO 0)), (1, .int x1), (2, .int (0 : Int32))]) (st2 := []) (ws2 := [wX12 (zcT C) aO sO]) rfl rfl rfl [1, 2, 0] rfl (bX12_isOpenFor_2 X hQ  6000 x1 (0 : Int32) h)
theorem metX12_isOpenFor (l : Launch) (D : va_G) (T : Nat → ClassId) (aO : Nat → Nat) {sO : zSt} {x1 : Int32} {out : Int32} (hf : fX12_isOpenFor sO x1 = some out) (sz : Nat) : Met l yX12_isOpenFor (zws yX12_isOpenFor cX12_isOpenFor 3 (some .boolean)) rmX12_isOpenFor (zPc D T [.ref (aO 0), .int x1] [wX12 T aO sO] sz) (zQi D out [] (zA [] sz)) 0 0 (zA [] sz) :=
  zMet (D := D) (T := T) (av := [.ref (aO 0), .int x1]) (ws := fun T => [wX12 T aO sO]) (wm := fun T => []) (lv0 := [(0, .ref (aO 0)), (1, .int x1)]) [] (Qc := fun D T A => zQi D out [] A) (by decide +kernel) rfl (Nat.le_of_ble_eq_true rfl) rfl (fun C X hQ => bX12_isOpenFor_0 X hQ hf) sz
/-- private static long divisor(long, long); of TableaufloorModel -/
abbrev rmX12_divisor : Room := { frames := 0, cells := 0, slots := 0, locals := 0 }
def fX12_divisor_17 : Nat → Int64 → Int64 → Option (Int64)
  | 0, _, _ => none
  | n + 1, x4, x6 =>
    (if x6 ≤ (0 : Int64) then
      some (x4)
    else
      (if x6 = 0 then none else
        (zlet (x4 - x4 / x6 * x6) (fun v29 =>
        (fX12_divisor_17 n x6 v29)))))
def fX12_divisor_12 (x2 : Int64) (y0 : Int64) : Option (Int64) :=
  (fX12_divisor_17 6000 y0 x2)
def fX12_divisor (x0 : Int64) (x2 : Int64) : Option (Int64) :=
  (if (0 : Int64) ≤ x0 then
    (fX12_divisor_12 x2 x0)
  else
    (fX12_divisor_12 x2 (-x0)))
theorem bX12_divisor_17 {C : zCtx} (X : zFx C cX12_divisor 10 RX12 rmX12_divisor (some .long)) {out : Int64} (hQ : zHl C out [] 0 0) : ∀ (n : Nat) (x4 : Int64) (x6 : Int64), fX12_divisor_17 n x4 x6 = some out → zG C 10 [] 0 0 [] 17 [(4, .long x4), (6, .long x6)] [] := by
  intro n
  induction n with
  | zero =>
    intro x4 x6 h
    rw [fX12_divisor_17] at h
    exact zno h
  | succ n ih =>
    intro x4 x6 h
    rw [fX12_divisor_17] at h
    refine z_lload X dX12_divisor_17 1 rfl ?_
    refine z_lconst (v := (0 : Int64)) X dX12_divisor_19 rfl ?_
    refine z_lcmp_le (tgt := 42) X dX12_divisor_20 dX12_divisor_21 (by decide) (fun c20 => ?_) (fun c20 => ?_)
    · replace h := zif_t h c20
      refine z_lload X dX12_divisor_42 0 rfl ?_
      cases h
      exact z_lret X hQ dX12_divisor_44 rfl [] rfl (by decide) (by decide)
    · replace h := zif_f h c20
      refine z_lload X dX12_divisor_24 0 rfl ?_
      refine z_lload X dX12_divisor_26 1 rfl ?_
      have g28 : ¬ x6 = 0 := fun e => by rw [if_pos e] at h; exact zno h
      replace h := zif_f h g28
      refine z_lrem X dX12_divisor_28 g28 ?_
      obtain ⟨v29, ev29, h⟩ := zlet_of h
      refine z_topl ev29 ?_
      refine z_lstore (lv2 := [(8, .long v29), (4, .long x4), (6, .long x6)]) X dX12_divisor_29 (by decide) rfl ?_
      refine z_lload X dX12_divisor_31 2 rfl ?_
      refine z_lstore (lv2 := [(4, .long x6), (8, .long v29), (6, .long x6)]) X dX12_divisor_33 (by decide) rfl ?_
      refine z_lload X dX12_divisor_35 1 rfl ?_
      refine z_lstore (lv2 := [(6, .long v29), (4, .long x6), (8, .long v29)]) X dX12_divisor_37 (by decide) rfl ?_
      refine z_goto (tgt := 17) X dX12_divisor_39 (by decide) ?_
      exact z_at (pc2 := 17) (lv2 := [(4, .long x6), (6, .long v29)]) (st2 := []) (ws2 := []) rfl rfl rfl [1, 0] rfl (ih x6 v29 h)
theorem bX12_divisor_12 {C : zCtx} (X : zFx C cX12_divisor 10 RX12 rmX12_divisor (some .long)) {x2 : Int64} {y0 : Int64} {out : Int64} (hQ : zHl C out [] 0 0) (h : fX12_divisor_12 x2 y0 = some out) : zG C 10 [] 0 0 [] 12 [(2, .long x2)] [.long y0] := by
  unfold fX12_divisor_12 at h
  refine z_lstore (lv2 := [(4, .long y0), (2, .long x2)]) X dX12_divisor_12 (by decide) rfl ?_
  refine z_lload_n X dX12_divisor_14 1 rfl ?_
  refine z_lstore (lv2 := [(6, .long x2), (4, .long y0), (2, .long x2)]) X dX12_divisor_15 (by decide) rfl ?_
  exact z_at (pc2 := 17) (lv2 := [(4, .long y0), (6, .long x2)]) (st2 := []) (ws2 := []) rfl rfl rfl [1, 0] rfl (bX12_divisor_17 X hQ  6000 y0 x2 h)
theorem bX12_divisor_0 {C : zCtx} (X : zFx C cX12_divisor 10 RX12 rmX12_divisor (some .long)) {x0 : Int64} {x2 : Int64} {out : Int64} (hQ : zHl C out [] 0 0) (h : fX12_divisor x0 x2 = some out) : zG C 10 [] 0 0 [] 0 [(0, .long x0), (2, .long x2)] [] := by
  unfold fX12_divisor at h
  refine z_lload_n X dX12_divisor_0 0 rfl ?_
  refine z_lconst (v := (0 : Int64)) X dX12_divisor_1 rfl ?_
  refine z_lcmp_ge (tgt := 11) X dX12_divisor_2 dX12_divisor_3 (by decide) (fun c2 => ?_) (fun c2 => ?_)
  · replace h := zif_t h c2
    refine z_lload_n X dX12_divisor_11 0 rfl ?_
    exact z_at (pc2 := 12) (lv2 := [(2, .long x2)]) (st2 := [.long x0]) (ws2 := []) rfl rfl rfl [1] rfl (bX12_divisor_12 X hQ  h)
  · replace h := zif_f h c2
    refine z_lload_n X dX12_divisor_6 0 rfl ?_
    refine z_lneg X dX12_divisor_7 ?_
    refine z_goto (tgt := 12) X dX12_divisor_8 (by decide) ?_
    exact z_at (pc2 := 12) (lv2 := [(2, .long x2)]) (st2 := [.long (-x0)]) (ws2 := []) rfl rfl rfl [1] rfl (bX12_divisor_12 X hQ  h)
theorem metX12_divisor (l : Launch) (D : va_G) (T : Nat → ClassId) {x0 : Int64} {x2 : Int64} {out : Int64} (hf : fX12_divisor x0 x2 = some out) (sz : Nat) : Met l yX12_divisor (zws yX12_divisor cX12_divisor 10 (some .long)) rmX12_divisor (zPc D T [.long x0, .long x2] [] sz) (zQl D out [] (zA [] sz)) 0 0 (zA [] sz) :=
  zMet (D := D) (T := T) (av := [.long x0, .long x2]) (ws := fun T => []) (wm := fun T => []) (lv0 := [(0, .long x0), (2, .long x2)]) [] (Qc := fun D T A => zQl D out [] A) (by decide +kernel) rfl (Nat.le_of_ble_eq_true rfl) rfl (fun C X hQ => bX12_divisor_0 X hQ hf) sz
/-- private long better(int, int, int); of TableaufloorModel -/
abbrev rmX12_better : Room := { frames := 1, cells := 0, slots := 0, locals := 25 }
def fX12_better_46 (sO : zSt) (y0 : Int64) : Option (Int64) :=
  some (y0)
def fX12_better (sO : zSt) (x1 : Int32) (x2 : Int32) (x3 : Int32) : Option (Int64) :=
  ((fX12_top sO x1 x2).bind (fun o3 =>
    (if zin x3 600 = true then
    ((fX12_top sO x1 x3).bind (fun o16 =>
    (if zin x2 600 = true then
    (zlet ((o3 * (zgb sO 22 (x3).toNatClampNeg)) - (o16 * (zgb sO 22 (x2).toNatClampNeg))) (fun v27 =>
    (if zin x1 3 = true then
    (if (zga sO 7 (x1).toNatClampNeg) = 0 then
    (fX12_better_46 sO (-v27))
  else
    (fX12_better_46 sO v27)) else none))) else none))) else none)))
theorem bX12_better_46 {C : zCtx} (X : zFx C cX12_better 6 RX12 rmX12_better (some .long)) {aO : Nat → Nat} {sO : zSt} {y0 : Int64} {out : Int64} (hQ : zHl C out [] 0 0) (h : fX12_better_46 sO y0 = some out) : zG C 6 [] 0 0 [wX12 (zcT C) aO sO] 46 [] [.long y0] := by
  unfold fX12_better_46 at h
  cases h
  exact z_lret X hQ dX12_better_46 rfl [] rfl (by decide) (by decide)
theorem bX12_better_0 {C : zCtx} (X : zFx C cX12_better 6 RX12 rmX12_better (some .long)) {aO : Nat → Nat} {sO : zSt} {x1 : Int32} {x2 : Int32} {x3 : Int32} {out : Int64} (hQ : zHl C out [] 0 0) (h : fX12_better sO x1 x2 x3 = some out) : zG C 6 [] 0 0 [wX12 (zcT C) aO sO] 0 [(0, .ref (aO 0)), (1, .int x1), (2, .int x2), (3, .int x3)] [] := by
  unfold fX12_better at h
  refine z_aload_n X dX12_better_0 0 rfl ?_
  refine z_iload_n X dX12_better_1 1 rfl ?_
  refine z_iload_n X dX12_better_2 2 rfl ?_
  obtain ⟨o3, ho3, h⟩ := zbind_of h
  refine z_callVl (st := []) (ws2 := [wX12 (zcT C) aO sO]) X (metX12_top (zcl C) (zcD C) (zcT C) aO ho3) zmX12_top zw1853 dX12_better_3 0 0 13 rfl rfl rfl rfl [0] rfl rfl [] rfl (by decide) trivial rfl rfl rfl (Nat.le_of_ble_eq_true rfl) rfl rfl ⟨Nat.le_of_ble_eq_true rfl, Nat.le_of_ble_eq_true rfl⟩ ⟨Nat.le_of_ble_eq_true rfl, Nat.le_of_ble_eq_true rfl⟩ ?_
  refine z_aload_n X dX12_better_6 0 rfl ?_
  refine z_get (v := .ref (aO 23)) X 0 0 13 22 ziX12 rfl (by decide) zw1358 rfl dX12_better_7 rfl rfl rfl ?_
  refine z_iload_n X dX12_better_10 3 rfl ?_
  obtain ⟨g11, h⟩ := zgd_of h
  refine z_lald X 0 14 g11 dX12_better_11 rfl rfl ?_
  refine z_lmul X dX12_better_12 ?_
  refine z_aload_n X dX12_better_13 0 rfl ?_
  refine z_iload_n X dX12_better_14 1 rfl ?_
  refine z_iload_n X dX12_better_15 3 rfl ?_
  obtain ⟨o16, ho16, h⟩ := zbind_of h
  refine z_callVl (st := [.long (o3 * (zgb sO 22 (x3).toNatClampNeg))]) (ws2 := [wX12 (zcT C) aO sO]) X (metX12_top (zcl C) (zcD C) (zcT C) aO ho16) zmX12_top zw1853 dX12_better_16 0 0 13 rfl rfl rfl rfl [0] rfl rfl [] rfl (by decide) trivial rfl rfl rfl (Nat.le_of_ble_eq_true rfl) rfl rfl ⟨Nat.le_of_ble_eq_true rfl, Nat.le_of_ble_eq_true rfl⟩ ⟨Nat.le_of_ble_eq_true rfl, Nat.le_of_ble_eq_true rfl⟩ ?_
  refine z_aload_n X dX12_better_19 0 rfl ?_
  refine z_get (v := .ref (aO 23)) X 0 0 13 22 ziX12 rfl (by decide) zw1358 rfl dX12_better_20 rfl rfl rfl ?_
  refine z_iload_n X dX12_better_23 2 rfl ?_
  obtain ⟨g24, h⟩ := zgd_of h
  refine z_lald X 0 14 g24 dX12_better_24 rfl rfl ?_
  refine z_lmul X dX12_better_25 ?_
  refine z_lsub X dX12_better_26 ?_
  obtain ⟨v27, ev27, h⟩ := zlet_of h
  refine z_topl ev27 ?_
  refine z_lstore (lv2 := [(4, .long v27), (0, .ref (aO 0)), (1, .int x1), (2, .int x2), (3, .int x3)]) X dX12_better_27 (by decide) rfl ?_
  refine z_aload_n X dX12_better_29 1 rfl ?_
  refine z_get (v := .ref (aO 8)) X 0 0 13 7 ziX12 rfl (by decide) zw1343 rfl dX12_better_30 rfl rfl rfl ?_
  refine z_iload_n X dX12_better_33 2 rfl ?_
  obtain ⟨g34, h⟩ := zgd_of h
  refine z_zald X 0 8 g34 dX12_better_34 rfl rfl ?_
  refine z_if_eq (tgt := 43) X dX12_better_35 (by decide) (fun c35 => ?_) (fun c35 => ?_)
  · replace h := zif_t h c35
    refine z_lload X dX12_better_43 0 rfl ?_
    refine z_lneg X dX12_better_45 ?_
    exact z_at (pc2 := 46) (lv2 := []) (st2 := [.long (-v27)]) (ws2 := [wX12 (zcT C) aO sO]) rfl rfl rfl [] rfl (bX12_better_46 X hQ  h)
  · replace h := zif_f h c35
    refine z_lload X dX12_better_38 0 rfl ?_
    refine z_goto (tgt := 46) X dX12_better_40 (by decide) ?_
    exact z_at (pc2 := 46) (lv2 := []) (st2 := [.long v27]) (ws2 := [wX12 (zcT C) aO sO]) rfl rfl rfl [] rfl (bX12_better_46 X hQ  h)
theorem metX12_better (l : Launch) (D : va_G) (T : Nat → ClassId) (aO : Nat → Nat) {sO : zSt} {x1 : Int32} {x2 : Int32} {x3 : Int32} {out : Int64} (hf : fX12_better sO x1 x2 x3 = some out) (sz : Nat) : Met l yX12_better (zws yX12_better cX12_better 6 (some .long)) rmX12_better (zPc D T [.ref (aO 0), .int x1, .int x2, .int x3] [wX12 T aO sO] sz) (zQl D out [] (zA [] sz)) 0 0 (zA [] sz) :=
  zMet (D := D) (T := T) (av := [.ref (aO 0), .int x1, .int x2, .int x3]) (ws := fun T => [wX12 T aO sO]) (wm := fun T => []) (lv0 := [(0, .ref (aO 0)), (1, .int x1), (2, .int x2), (3, .int x3)]) [] (Qc := fun D T A => zQl D out [] A) (by decide +kernel) rfl (Nat.le_of_ble_eq_true rfl) rfl (fun C X hQ => bX12_better_0 X hQ hf) sz
