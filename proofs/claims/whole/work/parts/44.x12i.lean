/-- public int tight(); of TableaufloorModel -/
abbrev rmX12_tight : Room := { frames := 6, cells := 0, slots := 0, locals := 147 }
def fX12_tight_135 (k34 : zSt → Int32 → Int32 → Option (Int32 × zSt)) (sO : zSt) (x2 : Int32) (y0 : Int32) (y1 : Int32) : Option (Int32 × zSt) :=
  (zlet (y0 + y1) (fun v136 =>
    (zlet (x2 + 1) (fun v137 =>
    (k34 sO v136 v137)))))
def fX12_tight_134 (k34 : zSt → Int32 → Int32 → Option (Int32 × zSt)) (sO : zSt) (x2 : Int32) (y0 : Int32) : Option (Int32 × zSt) :=
  (fX12_tight_135 k34 sO x2 y0 (0 : Int32))
def fX12_tight_82 (k34 : zSt → Int32 → Int32 → Option (Int32 × zSt)) (sO : zSt) (x2 : Int32) (y0 : Int32) (y1 : Int32) : Option (Int32 × zSt) :=
  (zlet (y0 + y1) (fun v83 =>
    (if zin x2 3 = true then
    (if (100 : Int32) ≤ (zga sO 1 (x2).toNatClampNeg) then
    (fX12_tight_134 k34 sO x2 v83)
  else
    (if zin (((3 : Int32) * (zgi sO 35)) + x2) 1800 = true then
      (if zin x2 3 = true then
      (if zin (zgi sO 35) 600 = true then
      (if (zgb sO 21 ((((3 : Int32) * (zgi sO 35)) + x2)).toNatClampNeg) = ((((zga sO 1 (x2).toNatClampNeg)).toInt64) * (zgb sO 22 ((zgi sO 35)).toNatClampNeg)) then
      (fX12_tight_135 k34 sO x2 v83 (1 : Int32))
    else
      (fX12_tight_134 k34 sO x2 v83)) else none) else none) else none)) else none)))
def fX12_tight_34 : Nat → zSt → Int32 → Int32 → Option (Int32 × zSt)
  | 0, _, _, _ => none
  | n + 1, sO, x1, x2 =>
    (if (zgi sO 10) ≤ x2 then
      some (x1, sO)
    else
      (if zin (((3 : Int32) * (zgi sO 35)) + x2) 1800 = true then
        (if zin x2 3 = true then
        (if zin (zgi sO 35) 600 = true then
        (if (zgb sO 21 ((((3 : Int32) * (zgi sO 35)) + x2)).toNatClampNeg) = ((((zga sO 0 (x2).toNatClampNeg)).toInt64) * (zgb sO 22 ((zgi sO 35)).toNatClampNeg)) then
        (fX12_tight_82 (fX12_tight_34 n) sO x2 x1 (1 : Int32))
      else
        (fX12_tight_82 (fX12_tight_34 n) sO x2 x1 (0 : Int32))) else none) else none) else none))
def fX12_tight_19 (sO : zSt) (y1 : Int32) : Option (Int32 × zSt) :=
  ((fX12_checked sO y1).bind (fun o19 =>
    (if o19.1 ≤ 0 then
    ((fX12_tightRows o19.2).bind (fun o28 =>
      (fX12_tight_34 6000 o19.2 o28 (0 : Int32))))
  else
    some ((0 : Int32), o19.2))))
def fX12_tight (sO : zSt) : Option (Int32 × zSt) :=
  ((fX12_looksNow sO).bind (fun o1 =>
    (if (zgi o1 36) = (111 : Int32) then
    (fX12_tight_19 o1 (1 : Int32))
  else
    (fX12_tight_19 o1 (0 : Int32)))))
theorem bX12_tight_135 {C : zCtx} (X : zFx C cX12_tight 3 RX12 rmX12_tight (some .int)) {aO : Nat → Nat} {k34 : zSt → Int32 → Int32 → Option (Int32 × zSt)} {sO : zSt} {x2 : Int32} {y0 : Int32} {y1 : Int32} {out : Int32 × zSt} (hQ : zHi C out.1 [wX12 (zcT C) aO out.2] 0 0) (hk34 : ∀ (sO : zSt) (x1 : Int32) (x2 : Int32), k34 sO x1 x2 = some out → zG C 3 [0] 0 0 [wX12 (zcT C) aO sO] 34 [(0, .ref (aO 0)), (1, .int x1), (2, .int x2)] []) (h : fX12_tight_135 k34 sO x2 y0 y1 = some out) : zG C 3 [0] 0 0 [wX12 (zcT C) aO sO] 135 [(0, .ref (aO 0)), (2, .int x2)] [.int y1, .int y0] := by
  unfold fX12_tight_135 at h
  refine z_iadd X dX12_tight_135 ?_
  obtain ⟨v136, ev136, h⟩ := zlet_of h
  refine z_topi ev136 ?_
  refine z_istore_n (lv2 := [(1, .int v136), (0, .ref (aO 0)), (2, .int x2)]) X dX12_tight_136 rfl (by decide) rfl ?_
  obtain ⟨v137, ev137, h⟩ := zlet_of h
  refine z_iinc (v := v137) (lv2 := [(2, .int v137), (1, .int v136), (0, .ref (aO 0))]) X dX12_tight_137 (k := 2) rfl (by rw [ev137]; rfl) (by decide) rfl ?_
  refine z_goto (tgt := 34) X dX12_tight_140 (by decide) ?_
  exact z_at (pc2 := 34) (lv2 := [(0, .ref (aO 0)), (1, .int v136), (2, .int v137)]) (st2 := []) (ws2 := [wX12 (zcT C) aO sO]) rfl rfl rfl [2, 1, 0] rfl (hk34 sO v136 v137 h)
theorem bX12_tight_134 {C : zCtx} (X : zFx C cX12_tight 3 RX12 rmX12_tight (some .int)) {aO : Nat → Nat} {k34 : zSt → Int32 → Int32 → Option (Int32 × zSt)} {sO : zSt} {x2 : Int32} {y0 : Int32} {out : Int32 × zSt} (hQ : zHi C out.1 [wX12 (zcT C) aO out.2] 0 0) (hk34 : ∀ (sO : zSt) (x1 : Int32) (x2 : Int32), k34 sO x1 x2 = some out → zG C 3 [0] 0 0 [wX12 (zcT C) aO sO] 34 [(0, .ref (aO 0)), (1, .int x1), (2, .int x2)] []) (h : fX12_tight_134 k34 sO x2 y0 = some out) : zG C 3 [0] 0 0 [wX12 (zcT C) aO sO] 134 [(0, .ref (aO 0)), (2, .int x2)] [.int y0] := by
  unfold fX12_tight_134 at h
  refine z_iconst (v := (0 : Int32)) X dX12_tight_134 rfl ?_
  exact z_at (pc2 := 135) (lv2 := [(0, .ref (aO 0)), (2, .int x2)]) (st2 := [.int (0 : Int32), .int y0]) (ws2 := [wX12 (zcT C) aO sO]) rfl rfl rfl [0, 1] rfl (bX12_tight_135 X hQ hk34 h)
theorem bX12_tight_82 {C : zCtx} (X : zFx C cX12_tight 3 RX12 rmX12_tight (some .int)) {aO : Nat → Nat} {k34 : zSt → Int32 → Int32 → Option (Int32 × zSt)} {sO : zSt} {x2 : Int32} {y0 : Int32} {y1 : Int32} {out : Int32 × zSt} (hQ : zHi C out.1 [wX12 (zcT C) aO out.2] 0 0) (hk34 : ∀ (sO : zSt) (x1 : Int32) (x2 : Int32), k34 sO x1 x2 = some out → zG C 3 [0] 0 0 [wX12 (zcT C) aO sO] 34 [(0, .ref (aO 0)), (1, .int x1), (2, .int x2)] []) (h : fX12_tight_82 k34 sO x2 y0 y1 = some out) : zG C 3 [0] 0 0 [wX12 (zcT C) aO sO] 82 [(0, .ref (aO 0)), (2, .int x2)] [.int y1, .int y0] := by
  unfold fX12_tight_82 at h
  refine z_iadd X dX12_tight_82 ?_
  obtain ⟨v83, ev83, h⟩ := zlet_of h
  refine z_topi ev83 ?_
  refine z_istore_n (lv2 := [(1, .int v83), (0, .ref (aO 0)), (2, .int x2)]) X dX12_tight_83 rfl (by decide) rfl ?_
  refine z_iload_n X dX12_tight_84 0 rfl ?_
  refine z_aload_n X dX12_tight_85 1 rfl ?_
  refine z_get (v := .ref (aO 2)) X 0 0 13 1 ziX12 rfl (by decide) zw1337 rfl dX12_tight_86 rfl rfl rfl ?_
  refine z_iload_n X dX12_tight_89 2 rfl ?_
  obtain ⟨g90, h⟩ := zgd_of h
  refine z_iald X 0 2 g90 dX12_tight_90 rfl rfl ?_
  refine z_bipush (v := (100 : Int32)) X dX12_tight_91 rfl ?_
  refine z_icmp_ge (tgt := 134) X dX12_tight_93 (by decide) (fun c93 => ?_) (fun c93 => ?_)
  · replace h := zif_t h c93
    exact z_at (pc2 := 134) (lv2 := [(0, .ref (aO 0)), (2, .int x2)]) (st2 := [.int v83]) (ws2 := [wX12 (zcT C) aO sO]) rfl rfl rfl [1, 2] rfl (bX12_tight_134 X hQ hk34 h)
  · replace h := zif_f h c93
    refine z_aload_n X dX12_tight_96 1 rfl ?_
    refine z_get (v := .ref (aO 22)) X 0 0 13 21 ziX12 rfl (by decide) zw1357 rfl dX12_tight_97 rfl rfl rfl ?_
    refine z_iconst (v := (3 : Int32)) X dX12_tight_100 rfl ?_
    refine z_aload_n X dX12_tight_101 1 rfl ?_
    refine z_get (v := .int (zgi sO 35)) X 0 0 13 35 ziX12 rfl (by decide) zw1371 rfl dX12_tight_102 rfl rfl rfl ?_
    refine z_imul X dX12_tight_105 ?_
    refine z_iload_n X dX12_tight_106 2 rfl ?_
    refine z_iadd X dX12_tight_107 ?_
    obtain ⟨g108, h⟩ := zgd_of h
    refine z_lald X 0 13 g108 dX12_tight_108 rfl rfl ?_
    refine z_aload_n X dX12_tight_109 1 rfl ?_
    refine z_get (v := .ref (aO 2)) X 0 0 13 1 ziX12 rfl (by decide) zw1337 rfl dX12_tight_110 rfl rfl rfl ?_
    refine z_iload_n X dX12_tight_113 2 rfl ?_
    obtain ⟨g114, h⟩ := zgd_of h
    refine z_iald X 0 2 g114 dX12_tight_114 rfl rfl ?_
    refine z_i2l X dX12_tight_115 ?_
    refine z_aload_n X dX12_tight_116 1 rfl ?_
    refine z_get (v := .ref (aO 23)) X 0 0 13 22 ziX12 rfl (by decide) zw1358 rfl dX12_tight_117 rfl rfl rfl ?_
    refine z_aload_n X dX12_tight_120 1 rfl ?_
    refine z_get (v := .int (zgi sO 35)) X 0 0 13 35 ziX12 rfl (by decide) zw1371 rfl dX12_tight_121 rfl rfl rfl ?_
    obtain ⟨g124, h⟩ := zgd_of h
    refine z_lald X 0 14 g124 dX12_tight_124 rfl rfl ?_
    refine z_lmul X dX12_tight_125 ?_
    refine z_lcmp_ne (tgt := 134) X dX12_tight_126 dX12_tight_127 (by decide) (fun c126 => ?_) (fun c126 => ?_)
    · replace h := zif_f h c126
      exact z_at (pc2 := 134) (lv2 := [(0, .ref (aO 0)), (2, .int x2)]) (st2 := [.int v83]) (ws2 := [wX12 (zcT C) aO sO]) rfl rfl rfl [1, 2] rfl (bX12_tight_134 X hQ hk34 h)
    · replace h := zif_t h c126
      refine z_iconst (v := (1 : Int32)) X dX12_tight_130 rfl ?_
      refine z_goto (tgt := 135) X dX12_tight_131 (by decide) ?_
      exact z_at (pc2 := 135) (lv2 := [(0, .ref (aO 0)), (2, .int x2)]) (st2 := [.int (1 : Int32), .int v83]) (ws2 := [wX12 (zcT C) aO sO]) rfl rfl rfl [1, 2] rfl (bX12_tight_135 X hQ hk34 h)
theorem bX12_tight_34 {C : zCtx} (X : zFx C cX12_tight 3 RX12 rmX12_tight (some .int)) {aO : Nat → Nat} {out : Int32 × zSt} (hQ : zHi C out.1 [wX12 (zcT C) aO out.2] 0 0) : ∀ (n : Nat) (sO : zSt) (x1 : Int32) (x2 : Int32), fX12_tight_34 n sO x1 x2 = some out → zG C 3 [0] 0 0 [wX12 (zcT C) aO sO] 34 [(0, .ref (aO 0)), (1, .int x1), (2, .int x2)] [] := by
  intro n
  induction n with
  | zero =>
    intro sO x1 x2 h
    rw [fX12_tight_34] at h
    exact zno h
  | succ n ih =>
    intro sO x1 x2 h
    rw [fX12_tight_34] at h
    refine z_iload_n X dX12_tight_34 2 rfl ?_
    refine z_aload_n X dX12_tight_35 0 rfl ?_
    refine z_get (v := .int (zgi sO 10)) X 0 0 13 10 ziX12 rfl (by decide) zw1346 rfl dX12_tight_36 rfl rfl rfl ?_
    refine z_icmp_ge (tgt := 143) X dX12_tight_39 (by decide) (fun c39 => ?_) (fun c39 => ?_)
    · replace h := zif_t h c39
      refine z_iload_n X dX12_tight_143 1 rfl ?_
      cases h
      exact z_iret X hQ dX12_tight_144 rfl [0] rfl (by decide) (by decide)
    · replace h := zif_f h c39
      refine z_iload_n X dX12_tight_42 1 rfl ?_
      refine z_aload_n X dX12_tight_43 0 rfl ?_
      refine z_get (v := .ref (aO 22)) X 0 0 13 21 ziX12 rfl (by decide) zw1357 rfl dX12_tight_44 rfl rfl rfl ?_
      refine z_iconst (v := (3 : Int32)) X dX12_tight_47 rfl ?_
      refine z_aload_n X dX12_tight_48 0 rfl ?_
      refine z_get (v := .int (zgi sO 35)) X 0 0 13 35 ziX12 rfl (by decide) zw1371 rfl dX12_tight_49 rfl rfl rfl ?_
      refine z_imul X dX12_tight_52 ?_
      refine z_iload_n X dX12_tight_53 2 rfl ?_
      refine z_iadd X dX12_tight_54 ?_
      obtain ⟨g55, h⟩ := zgd_of h
      refine z_lald X 0 13 g55 dX12_tight_55 rfl rfl ?_
      refine z_aload_n X dX12_tight_56 0 rfl ?_
      refine z_get (v := .ref (aO 1)) X 0 0 13 0 ziX12 rfl (by decide) zw1336 rfl dX12_tight_57 rfl rfl rfl ?_
      refine z_iload_n X dX12_tight_60 2 rfl ?_
      obtain ⟨g61, h⟩ := zgd_of h
      refine z_iald X 0 1 g61 dX12_tight_61 rfl rfl ?_
      refine z_i2l X dX12_tight_62 ?_
      refine z_aload_n X dX12_tight_63 0 rfl ?_
      refine z_get (v := .ref (aO 23)) X 0 0 13 22 ziX12 rfl (by decide) zw1358 rfl dX12_tight_64 rfl rfl rfl ?_
      refine z_aload_n X dX12_tight_67 0 rfl ?_
      refine z_get (v := .int (zgi sO 35)) X 0 0 13 35 ziX12 rfl (by decide) zw1371 rfl dX12_tight_68 rfl rfl rfl ?_
      obtain ⟨g71, h⟩ := zgd_of h
      refine z_lald X 0 14 g71 dX12_tight_71 rfl rfl ?_
      refine z_lmul X dX12_tight_72 ?_
      refine z_lcmp_ne (tgt := 81) X dX12_tight_73 dX12_tight_74 (by decide) (fun c73 => ?_) (fun c73 => ?_)
      · replace h := zif_f h c73
        refine z_iconst (v := (0 : Int32)) X dX12_tight_81 rfl ?_
        exact z_at (pc2 := 82) (lv2 := [(0, .ref (aO 0)), (2, .int x2)]) (st2 := [.int (0 : Int32), .int x1]) (ws2 := [wX12 (zcT C) aO sO]) rfl rfl rfl [0, 2] rfl (bX12_tight_82 X hQ ih h)
      · replace h := zif_t h c73
        refine z_iconst (v := (1 : Int32)) X dX12_tight_77 rfl ?_
        refine z_goto (tgt := 82) X dX12_tight_78 (by decide) ?_
        exact z_at (pc2 := 82) (lv2 := [(0, .ref (aO 0)), (2, .int x2)]) (st2 := [.int (1 : Int32), .int x1]) (ws2 := [wX12 (zcT C) aO sO]) rfl rfl rfl [0, 2] rfl (bX12_tight_82 X hQ ih h)
theorem bX12_tight_19 {C : zCtx} (X : zFx C cX12_tight 3 RX12 rmX12_tight (some .int)) {aO : Nat → Nat} {sO : zSt} {y1 : Int32} {out : Int32 × zSt} (hQ : zHi C out.1 [wX12 (zcT C) aO out.2] 0 0) (h : fX12_tight_19 sO y1 = some out) : zG C 3 [0] 0 0 [wX12 (zcT C) aO sO] 19 [(0, .ref (aO 0))] [.int y1, .ref (aO 0)] := by
  unfold fX12_tight_19 at h
  obtain ⟨o19, ho19, h⟩ := zbind_of h
  refine z_callVi (st := []) (ws2 := [wX12 (zcT C) aO o19.2]) X (metX12_checked (zcl C) (zcD C) (zcT C) aO ho19) zmX12_checked zw1550 dX12_tight_19 0 0 13 rfl rfl rfl rfl [0] rfl rfl [0] rfl (by decide) ⟨zsX12 , trivial⟩ rfl rfl rfl (Nat.le_of_ble_eq_true rfl) rfl rfl ⟨Nat.le_of_ble_eq_true rfl, Nat.le_of_ble_eq_true rfl⟩ ⟨Nat.le_of_ble_eq_true rfl, Nat.le_of_ble_eq_true rfl⟩ ?_
  refine z_if_le (tgt := 27) X dX12_tight_22 (by decide) (fun c22 => ?_) (fun c22 => ?_)
  · replace h := zif_t h c22
    refine z_aload_n X dX12_tight_27 0 rfl ?_
    obtain ⟨o28, ho28, h⟩ := zbind_of h
    refine z_callVi (st := []) (ws2 := [wX12 (zcT C) aO o19.2]) X (metX12_tightRows (zcl C) (zcD C) (zcT C) aO ho28) zmX12_tightRows zw1912 dX12_tight_28 0 0 13 rfl rfl rfl rfl [0] rfl rfl [] rfl (by decide) trivial rfl rfl rfl (Nat.le_of_ble_eq_true rfl) rfl rfl ⟨Nat.le_of_ble_eq_true rfl, Nat.le_of_ble_eq_true rfl⟩ ⟨Nat.le_of_ble_eq_true rfl, Nat.le_of_ble_eq_true rfl⟩ ?_
    refine z_istore_n (lv2 := [(1, .int o28), (0, .ref (aO 0))]) X dX12_tight_31 rfl (by decide) rfl ?_
    refine z_iconst (v := (0 : Int32)) X dX12_tight_32 rfl ?_
    refine z_istore_n (lv2 := [(2, .int (0 : Int32)), (1, .int o28), (0, .ref (aO 0))]) X dX12_tight_33 rfl (by decide) rfl ?_
    exact z_at (pc2 := 34) (lv2 := [(0, .ref (aO 0)), (1, .int o28), (2, .int (0 : Int32))]) (st2 := []) (ws2 := [wX12 (zcT C) aO o19.2]) rfl rfl rfl [2, 1, 0] rfl (bX12_tight_34 X hQ  6000 o19.2 o28 (0 : Int32) h)
  · replace h := zif_f h c22
    refine z_iconst (v := (0 : Int32)) X dX12_tight_25 rfl ?_
    cases h
    exact z_iret X hQ dX12_tight_26 rfl [0] rfl (by decide) (by decide)
theorem bX12_tight_0 {C : zCtx} (X : zFx C cX12_tight 3 RX12 rmX12_tight (some .int)) {aO : Nat → Nat} {sO : zSt} {out : Int32 × zSt} (hQ : zHi C out.1 [wX12 (zcT C) aO out.2] 0 0) (h : fX12_tight sO = some out) : zG C 3 [0] 0 0 [wX12 (zcT C) aO sO] 0 [(0, .ref (aO 0))] [] := by
  unfold fX12_tight at h
  refine z_aload_n X dX12_tight_0 0 rfl ?_
  obtain ⟨o1, ho1, h⟩ := zbind_of h
  refine z_callVv (st := []) (ws2 := [wX12 (zcT C) aO o1]) X (metX12_looksNow (zcl C) (zcD C) (zcT C) aO ho1) zmX12_looksNow zw1792 dX12_tight_1 0 0 13 rfl rfl rfl rfl [0] rfl rfl [0] rfl (by decide) ⟨zsX12 , trivial⟩ rfl rfl rfl (Nat.le_of_ble_eq_true rfl) rfl rfl ⟨Nat.le_of_ble_eq_true rfl, Nat.le_of_ble_eq_true rfl⟩ ⟨Nat.le_of_ble_eq_true rfl, Nat.le_of_ble_eq_true rfl⟩ ?_
  refine z_aload_n X dX12_tight_4 0 rfl ?_
  refine z_aload_n X dX12_tight_5 0 rfl ?_
  refine z_get (v := .int (zgi o1 36)) X 0 0 13 36 ziX12 rfl (by decide) zw1372 rfl dX12_tight_6 rfl rfl rfl ?_
  refine z_bipush (v := (111 : Int32)) X dX12_tight_9 rfl ?_
  refine z_icmp_ne (tgt := 18) X dX12_tight_11 (by decide) (fun c11 => ?_) (fun c11 => ?_)
  · replace h := zif_f h c11
    refine z_iconst (v := (0 : Int32)) X dX12_tight_18 rfl ?_
    exact z_at (pc2 := 19) (lv2 := [(0, .ref (aO 0))]) (st2 := [.int (0 : Int32), .ref (aO 0)]) (ws2 := [wX12 (zcT C) aO o1]) rfl rfl rfl [0] rfl (bX12_tight_19 X hQ  h)
  · replace h := zif_t h c11
    refine z_iconst (v := (1 : Int32)) X dX12_tight_14 rfl ?_
    refine z_goto (tgt := 19) X dX12_tight_15 (by decide) ?_
    exact z_at (pc2 := 19) (lv2 := [(0, .ref (aO 0))]) (st2 := [.int (1 : Int32), .ref (aO 0)]) (ws2 := [wX12 (zcT C) aO o1]) rfl rfl rfl [0] rfl (bX12_tight_19 X hQ  h)
theorem metX12_tight (l : Launch) (D : va_G) (T : Nat → ClassId) (aO : Nat → Nat) {sO : zSt} {out : Int32 × zSt} (hf : fX12_tight sO = some out) (sz : Nat) : Met l yX12_tight (zws yX12_tight cX12_tight 3 (some .int)) rmX12_tight (zPc D T [.ref (aO 0)] [wX12 T aO sO] sz) (zQi D out.1 [wX12 T aO out.2] (zA [wX12 T aO sO] sz)) 0 0 (zA [wX12 T aO sO] sz) :=
  zMet (D := D) (T := T) (av := [.ref (aO 0)]) (ws := fun T => [wX12 T aO sO]) (wm := fun T => [wX12 T aO sO]) (lv0 := [(0, .ref (aO 0))]) [0] (Qc := fun D T A => zQi D out.1 [wX12 T aO out.2] A) (by decide +kernel) rfl (Nat.le_of_ble_eq_true rfl) rfl (fun C X hQ => bX12_tight_0 X hQ hf) sz
/-- public boolean isProved(); of TableaufloorModel -/
abbrev rmX12_isProved : Room := { frames := 0, cells := 0, slots := 0, locals := 0 }
def fX12_isProved (sO : zSt) : Option (Int32 × zSt) :=
  (zlet (zsi sO 9 (0 : Int32)) (fun sO2 =>
    some ((1 : Int32), sO2)))
theorem bX12_isProved_0 {C : zCtx} (X : zFx C cX12_isProved 1 RX12 rmX12_isProved (some .boolean)) {aO : Nat → Nat} {sO : zSt} {out : Int32 × zSt} (hQ : zHi C out.1 [wX12 (zcT C) aO out.2] 0 0) (h : fX12_isProved sO = some out) : zG C 1 [0] 0 0 [wX12 (zcT C) aO sO] 0 [(0, .ref (aO 0))] [] := by
  unfold fX12_isProved at h
  refine z_aload_n X dX12_isProved_0 0 rfl ?_
  refine z_iconst (v := (0 : Int32)) X dX12_isProved_1 rfl ?_
  obtain ⟨sO2, esO2, h⟩ := zlet_of h
  refine z_put (ws2 := [wX12 (zcT C) aO sO2]) X 0 0 13 9 ziX12 rfl tyX12 tyX12_ok nmX12 (by decide) zw1345 rfl rfl (ty := .int) (by decide +kernel) rfl rfl (by show 9 < 40; decide) dX12_isProved_2 rfl rfl (by decide) (w2 := wX12 (zcT C) aO sO2) (by rw [esO2]; rfl) rfl ?_
  refine z_iconst (v := (1 : Int32)) X dX12_isProved_5 rfl ?_
  cases h
  exact z_nret X hQ rfl dX12_isProved_6 rfl [0] rfl (by decide) (by decide)
theorem metX12_isProved (l : Launch) (D : va_G) (T : Nat → ClassId) (aO : Nat → Nat) {sO : zSt} {out : Int32 × zSt} (hf : fX12_isProved sO = some out) (sz : Nat) : Met l yX12_isProved (zws yX12_isProved cX12_isProved 1 (some .boolean)) rmX12_isProved (zPc D T [.ref (aO 0)] [wX12 T aO sO] sz) (zQi D out.1 [wX12 T aO out.2] (zA [wX12 T aO sO] sz)) 0 0 (zA [wX12 T aO sO] sz) :=
  zMet (D := D) (T := T) (av := [.ref (aO 0)]) (ws := fun T => [wX12 T aO sO]) (wm := fun T => [wX12 T aO sO]) (lv0 := [(0, .ref (aO 0))]) [0] (Qc := fun D T A => zQi D out.1 [wX12 T aO out.2] A) (by decide +kernel) rfl (Nat.le_of_ble_eq_true rfl) rfl (fun C X hQ => bX12_isProved_0 X hQ hf) sz
/-- private int wrongWorth(int); of TableaufloorModel -/
abbrev rmX12_wrongWorth : Room := { frames := 6, cells := 0, slots := 0, locals := 147 }
def fX12_wrongWorth_60 (sO : zSt) : Option (Int32 × zSt) :=
  some ((3 : Int32), sO)
def fX12_wrongWorth_102 (sO : zSt) : Option (Int32 × zSt) :=
  some ((3 : Int32), sO)
def fX12_wrongWorth_33 (sO : zSt) (x1 : Int32) (y0 : Int32) : Option (Int32 × zSt) :=
  (if y0 ≤ 0 then
    ((fX12_looksNow sO).bind (fun o41 =>
      (if (zgi o41 36) = (105 : Int32) then
      (fX12_wrongWorth_60 o41)
    else
      (if (zgi o41 34) = 0 then
        (fX12_wrongWorth_60 o41)
      else
        (if zin (0 : Int32) 3 = true then
          (zlet (zgb o41 28 ((0 : Int32)).toNatClampNeg) (fun v68 =>
          (if zin (0 : Int32) 3 = true then
          (zlet (zgb o41 29 ((0 : Int32)).toNatClampNeg) (fun v75 =>
          ((fX12_allLeft o41).bind (fun o79 =>
          ((fX12_looks o41 o79 x1).bind (fun o83 =>
          (if (zgi o83 36) = (105 : Int32) then
          (fX12_wrongWorth_102 o83)
        else
          (if (zgi o83 34) = 0 then
            (fX12_wrongWorth_102 o83)
          else
            (if zin (0 : Int32) 3 = true then
              (if zin (0 : Int32) 3 = true then
              (zlet (((zgb o83 28 ((0 : Int32)).toNatClampNeg) * v75) - (v68 * (zgb o83 29 ((0 : Int32)).toNatClampNeg))) (fun v122 =>
              (if zin (0 : Int32) 3 = true then
              ((fX12_divisor v122 (v75 * (zgb o83 29 ((0 : Int32)).toNatClampNeg))).bind (fun o135 =>
              (if o135 = 0 then none else
              (if zin (0 : Int32) 3 = true then
              (zlet (zsb o83 30 (vp_updL (zgb o83 30) ((0 : Int32)).toNatClampNeg (v122 / o135))) (fun sO150 =>
              (if zin (0 : Int32) 3 = true then
              (if o135 = 0 then none else
              (if zin (1 : Int32) 3 = true then
              (zlet (zsb sO150 30 (vp_updL (zgb sO150 30) ((1 : Int32)).toNatClampNeg ((v75 * (zgb sO150 29 ((0 : Int32)).toNatClampNeg)) / o135))) (fun sO168 =>
              some ((0 : Int32), sO168))) else none)) else none))) else none)))) else none))) else none) else none))))))))) else none))) else none)))))
  else
    some (y0, sO))
def fX12_wrongWorth_28 (sO : zSt) (x1 : Int32) : Option (Int32 × zSt) :=
  (fX12_wrongWorth_33 sO x1 (2 : Int32))
def fX12_wrongWorth (sO : zSt) (x1 : Int32) : Option (Int32 × zSt) :=
  ((fX12_isRow sO x1).bind (fun o2 =>
    (if o2 = 0 then
    (fX12_wrongWorth_33 sO x1 (1 : Int32))
  else
    (if zin x1 12 = true then
      (if (zga sO 6 (x1).toNatClampNeg) = 0 then
      (if (zgi sO 12) = 0 then
        (fX12_wrongWorth_28 sO x1)
      else
        (fX12_wrongWorth_33 sO x1 (0 : Int32)))
    else
      (fX12_wrongWorth_28 sO x1)) else none))))
theorem bX12_wrongWorth_60 {C : zCtx} (X : zFx C cX12_wrongWorth 11 RX12 rmX12_wrongWorth (some .int)) {aO : Nat → Nat} {sO : zSt} {out : Int32 × zSt} (hQ : zHi C out.1 [wX12 (zcT C) aO out.2] 0 0) (h : fX12_wrongWorth_60 sO = some out) : zG C 11 [0] 0 0 [wX12 (zcT C) aO sO] 60 [] [] := by
  unfold fX12_wrongWorth_60 at h
  refine z_iconst (v := (3 : Int32)) X dX12_wrongWorth_60 rfl ?_
  cases h
  exact z_iret X hQ dX12_wrongWorth_61 rfl [0] rfl (by decide) (by decide)
theorem bX12_wrongWorth_102 {C : zCtx} (X : zFx C cX12_wrongWorth 11 RX12 rmX12_wrongWorth (some .int)) {aO : Nat → Nat} {sO : zSt} {out : Int32 × zSt} (hQ : zHi C out.1 [wX12 (zcT C) aO out.2] 0 0) (h : fX12_wrongWorth_102 sO = some out) : zG C 11 [0] 0 0 [wX12 (zcT C) aO sO] 102 [] [] := by
  unfold fX12_wrongWorth_102 at h
  refine z_iconst (v := (3 : Int32)) X dX12_wrongWorth_102 rfl ?_
  cases h
  exact z_iret X hQ dX12_wrongWorth_103 rfl [0] rfl (by decide) (by decide)
theorem bX12_wrongWorth_33 {C : zCtx} (X : zFx C cX12_wrongWorth 11 RX12 rmX12_wrongWorth (some .int)) {aO : Nat → Nat} {sO : zSt} {x1 : Int32} {y0 : Int32} {out : Int32 × zSt} (hQ : zHi C out.1 [wX12 (zcT C) aO out.2] 0 0) (h : fX12_wrongWorth_33 sO x1 y0 = some out) : zG C 11 [0] 0 0 [wX12 (zcT C) aO sO] 33 [(0, .ref (aO 0)), (1, .int x1)] [.int y0] := by
  unfold fX12_wrongWorth_33 at h
  refine z_istore_n (lv2 := [(2, .int y0), (0, .ref (aO 0)), (1, .int x1)]) X dX12_wrongWorth_33 rfl (by decide) rfl ?_
  refine z_iload_n X dX12_wrongWorth_34 0 rfl ?_
  refine z_if_le (tgt := 40) X dX12_wrongWorth_35 (by decide) (fun c35 => ?_) (fun c35 => ?_)
  · replace h := zif_t h c35
    refine z_aload_n X dX12_wrongWorth_40 1 rfl ?_
    obtain ⟨o41, ho41, h⟩ := zbind_of h
    refine z_callVv (st := []) (ws2 := [wX12 (zcT C) aO o41]) X (metX12_looksNow (zcl C) (zcD C) (zcT C) aO ho41) zmX12_looksNow zw1792 dX12_wrongWorth_41 0 0 13 rfl rfl rfl rfl [0] rfl rfl [0] rfl (by decide) ⟨zsX12 , trivial⟩ rfl rfl rfl (Nat.le_of_ble_eq_true rfl) rfl rfl ⟨Nat.le_of_ble_eq_true rfl, Nat.le_of_ble_eq_true rfl⟩ ⟨Nat.le_of_ble_eq_true rfl, Nat.le_of_ble_eq_true rfl⟩ ?_
    refine z_aload_n X dX12_wrongWorth_44 1 rfl ?_
    refine z_get (v := .int (zgi o41 36)) X 0 0 13 36 ziX12 rfl (by decide) zw1372 rfl dX12_wrongWorth_45 rfl rfl rfl ?_
    refine z_bipush (v := (105 : Int32)) X dX12_wrongWorth_48 rfl ?_
    refine z_icmp_eq (tgt := 60) X dX12_wrongWorth_50 (by decide) (fun c50 => ?_) (fun c50 => ?_)
    · replace h := zif_t h c50
      exact z_at (pc2 := 60) (lv2 := []) (st2 := []) (ws2 := [wX12 (zcT C) aO o41]) rfl rfl rfl [] rfl (bX12_wrongWorth_60 X hQ  h)
    · replace h := zif_f h c50
      refine z_aload_n X dX12_wrongWorth_53 1 rfl ?_
      refine z_get (v := .int (zgi o41 34)) X 0 0 13 34 ziX12 rfl (by decide) zw1370 rfl dX12_wrongWorth_54 rfl rfl rfl ?_
      refine z_if_ne (tgt := 62) X dX12_wrongWorth_57 (by decide) (fun c57 => ?_) (fun c57 => ?_)
      · replace h := zif_f h c57
        refine z_aload_n X dX12_wrongWorth_62 1 rfl ?_
        refine z_get (v := .ref (aO 29)) X 0 0 13 28 ziX12 rfl (by decide) zw1364 rfl dX12_wrongWorth_63 rfl rfl rfl ?_
        refine z_iconst (v := (0 : Int32)) X dX12_wrongWorth_66 rfl ?_
        obtain ⟨g67, h⟩ := zgd_of h
        refine z_lald X 0 20 g67 dX12_wrongWorth_67 rfl rfl ?_
        obtain ⟨v68, ev68, h⟩ := zlet_of h
        refine z_topl ev68 ?_
        refine z_lstore_n (lv2 := [(3, .long v68), (2, .int y0), (0, .ref (aO 0)), (1, .int x1)]) X dX12_wrongWorth_68 rfl (by decide) rfl ?_
        refine z_aload_n X dX12_wrongWorth_69 2 rfl ?_
        refine z_get (v := .ref (aO 30)) X 0 0 13 29 ziX12 rfl (by decide) zw1365 rfl dX12_wrongWorth_70 rfl rfl rfl ?_
        refine z_iconst (v := (0 : Int32)) X dX12_wrongWorth_73 rfl ?_
        obtain ⟨g74, h⟩ := zgd_of h
        refine z_lald X 0 21 g74 dX12_wrongWorth_74 rfl rfl ?_
        obtain ⟨v75, ev75, h⟩ := zlet_of h
        refine z_topl ev75 ?_
        refine z_lstore (lv2 := [(5, .long v75), (3, .long v68), (2, .int y0), (0, .ref (aO 0)), (1, .int x1)]) X dX12_wrongWorth_75 (by decide) rfl ?_
        refine z_aload_n X dX12_wrongWorth_77 3 rfl ?_
        refine z_aload_n X dX12_wrongWorth_78 3 rfl ?_
        obtain ⟨o79, ho79, h⟩ := zbind_of h
        refine z_callVi (st := [.ref (aO 0)]) (ws2 := [wX12 (zcT C) aO o41]) X (metX12_allLeft (zcl C) (zcD C) (zcT C) aO ho79) zmX12_allLeft zw1796 dX12_wrongWorth_79 0 0 13 rfl rfl rfl rfl [0] rfl rfl [] rfl (by decide) trivial rfl rfl rfl (Nat.le_of_ble_eq_true rfl) rfl rfl ⟨Nat.le_of_ble_eq_true rfl, Nat.le_of_ble_eq_true rfl⟩ ⟨Nat.le_of_ble_eq_true rfl, Nat.le_of_ble_eq_true rfl⟩ ?_
        refine z_iload_n X dX12_wrongWorth_82 4 rfl ?_
        obtain ⟨o83, ho83, h⟩ := zbind_of h
        refine z_callVv (st := []) (ws2 := [wX12 (zcT C) aO o83]) X (metX12_looks (zcl C) (zcD C) (zcT C) aO ho83) zmX12_looks zw1800 dX12_wrongWorth_83 0 0 13 rfl rfl rfl rfl [0] rfl rfl [0] rfl (by decide) ⟨zsX12 , trivial⟩ rfl rfl rfl (Nat.le_of_ble_eq_true rfl) rfl rfl ⟨Nat.le_of_ble_eq_true rfl, Nat.le_of_ble_eq_true rfl⟩ ⟨Nat.le_of_ble_eq_true rfl, Nat.le_of_ble_eq_true rfl⟩ ?_
        refine z_aload_n X dX12_wrongWorth_86 3 rfl ?_
        refine z_get (v := .int (zgi o83 36)) X 0 0 13 36 ziX12 rfl (by decide) zw1372 rfl dX12_wrongWorth_87 rfl rfl rfl ?_
        refine z_bipush (v := (105 : Int32)) X dX12_wrongWorth_90 rfl ?_
        refine z_icmp_eq (tgt := 102) X dX12_wrongWorth_92 (by decide) (fun c92 => ?_) (fun c92 => ?_)
        · replace h := zif_t h c92
          exact z_at (pc2 := 102) (lv2 := []) (st2 := []) (ws2 := [wX12 (zcT C) aO o83]) rfl rfl rfl [] rfl (bX12_wrongWorth_102 X hQ  h)
        · replace h := zif_f h c92
          refine z_aload_n X dX12_wrongWorth_95 3 rfl ?_
          refine z_get (v := .int (zgi o83 34)) X 0 0 13 34 ziX12 rfl (by decide) zw1370 rfl dX12_wrongWorth_96 rfl rfl rfl ?_
          refine z_if_ne (tgt := 104) X dX12_wrongWorth_99 (by decide) (fun c99 => ?_) (fun c99 => ?_)
          · replace h := zif_f h c99
            refine z_aload_n X dX12_wrongWorth_104 3 rfl ?_
            refine z_get (v := .ref (aO 29)) X 0 0 13 28 ziX12 rfl (by decide) zw1364 rfl dX12_wrongWorth_105 rfl rfl rfl ?_
            refine z_iconst (v := (0 : Int32)) X dX12_wrongWorth_108 rfl ?_
            obtain ⟨g109, h⟩ := zgd_of h
            refine z_lald X 0 20 g109 dX12_wrongWorth_109 rfl rfl ?_
            refine z_lload X dX12_wrongWorth_110 0 rfl ?_
            refine z_lmul X dX12_wrongWorth_112 ?_
            refine z_lload_n X dX12_wrongWorth_113 1 rfl ?_
            refine z_aload_n X dX12_wrongWorth_114 3 rfl ?_
            refine z_get (v := .ref (aO 30)) X 0 0 13 29 ziX12 rfl (by decide) zw1365 rfl dX12_wrongWorth_115 rfl rfl rfl ?_
            refine z_iconst (v := (0 : Int32)) X dX12_wrongWorth_118 rfl ?_
            obtain ⟨g119, h⟩ := zgd_of h
            refine z_lald X 0 21 g119 dX12_wrongWorth_119 rfl rfl ?_
            refine z_lmul X dX12_wrongWorth_120 ?_
            refine z_lsub X dX12_wrongWorth_121 ?_
            obtain ⟨v122, ev122, h⟩ := zlet_of h
            refine z_topl ev122 ?_
            refine z_lstore (lv2 := [(7, .long v122), (5, .long v75), (3, .long v68), (2, .int y0), (0, .ref (aO 0)), (1, .int x1)]) X dX12_wrongWorth_122 (by decide) rfl ?_
            refine z_lload X dX12_wrongWorth_124 0 rfl ?_
            refine z_lload X dX12_wrongWorth_126 1 rfl ?_
            refine z_aload_n X dX12_wrongWorth_128 4 rfl ?_
            refine z_get (v := .ref (aO 30)) X 0 0 13 29 ziX12 rfl (by decide) zw1365 rfl dX12_wrongWorth_129 rfl rfl rfl ?_
            refine z_iconst (v := (0 : Int32)) X dX12_wrongWorth_132 rfl ?_
            obtain ⟨g133, h⟩ := zgd_of h
            refine z_lald X 0 21 g133 dX12_wrongWorth_133 rfl rfl ?_
            refine z_lmul X dX12_wrongWorth_134 ?_
            obtain ⟨o135, ho135, h⟩ := zbind_of h
            refine z_callSl (st := []) (ws2 := [wX12 (zcT C) aO o83]) X (metX12_divisor (zcl C) (zcD C) (zcT C)  ho135) zmX12_divisor zw1857 dX12_wrongWorth_135 [] rfl rfl [] rfl (by decide) trivial rfl rfl rfl (Nat.le_of_ble_eq_true rfl) rfl rfl ⟨Nat.le_of_ble_eq_true rfl, Nat.le_of_ble_eq_true rfl⟩ ⟨Nat.le_of_ble_eq_true rfl, Nat.le_of_ble_eq_true rfl⟩ ?_
            refine z_lstore (lv2 := [(9, .long o135), (7, .long v122), (5, .long v75), (3, .long v68), (2, .int y0), (0, .ref (aO 0)), (1, .int x1)]) X dX12_wrongWorth_138 (by decide) rfl ?_
            refine z_aload_n X dX12_wrongWorth_140 5 rfl ?_
            refine z_get (v := .ref (aO 31)) X 0 0 13 30 ziX12 rfl (by decide) zw1366 rfl dX12_wrongWorth_141 rfl rfl rfl ?_
            refine z_iconst (v := (0 : Int32)) X dX12_wrongWorth_144 rfl ?_
            refine z_lload X dX12_wrongWorth_145 1 rfl ?_
            refine z_lload X dX12_wrongWorth_147 0 rfl ?_
            have g149 : ¬ o135 = 0 := fun e => by rw [if_pos e] at h; exact zno h
            replace h := zif_f h g149
            refine z_ldiv X dX12_wrongWorth_149 g149 ?_
            obtain ⟨g150, h⟩ := zgd_of h
            obtain ⟨sO150, esO150, h⟩ := zlet_of h
            refine z_last (ws2 := [wX12 (zcT C) aO sO150]) X 0 22 g150 dX12_wrongWorth_150 rfl rfl (by decide) (w2 := wX12 (zcT C) aO sO150) (by rw [esO150]; rfl) rfl ?_
            refine z_aload_n X dX12_wrongWorth_151 5 rfl ?_
            refine z_get (v := .ref (aO 31)) X 0 0 13 30 ziX12 rfl (by decide) zw1366 rfl dX12_wrongWorth_152 rfl rfl rfl ?_
            refine z_iconst (v := (1 : Int32)) X dX12_wrongWorth_155 rfl ?_
            refine z_lload X dX12_wrongWorth_156 2 rfl ?_
            refine z_aload_n X dX12_wrongWorth_158 5 rfl ?_
            refine z_get (v := .ref (aO 30)) X 0 0 13 29 ziX12 rfl (by decide) zw1365 rfl dX12_wrongWorth_159 rfl rfl rfl ?_
            refine z_iconst (v := (0 : Int32)) X dX12_wrongWorth_162 rfl ?_
            obtain ⟨g163, h⟩ := zgd_of h
            refine z_lald X 0 21 g163 dX12_wrongWorth_163 rfl rfl ?_
            refine z_lmul X dX12_wrongWorth_164 ?_
            refine z_lload X dX12_wrongWorth_165 0 rfl ?_
            have g167 : ¬ o135 = 0 := fun e => by rw [if_pos e] at h; exact zno h
            replace h := zif_f h g167
            refine z_ldiv X dX12_wrongWorth_167 g167 ?_
            obtain ⟨g168, h⟩ := zgd_of h
            obtain ⟨sO168, esO168, h⟩ := zlet_of h
            refine z_last (ws2 := [wX12 (zcT C) aO sO168]) X 0 22 g168 dX12_wrongWorth_168 rfl rfl (by decide) (w2 := wX12 (zcT C) aO sO168) (by rw [esO168]; rfl) rfl ?_
            refine z_iconst (v := (0 : Int32)) X dX12_wrongWorth_169 rfl ?_
            cases h
            exact z_iret X hQ dX12_wrongWorth_170 rfl [0] rfl (by decide) (by decide)
          · replace h := zif_t h c99
            exact z_at (pc2 := 102) (lv2 := []) (st2 := []) (ws2 := [wX12 (zcT C) aO o83]) rfl rfl rfl [] rfl (bX12_wrongWorth_102 X hQ  h)
      · replace h := zif_t h c57
        exact z_at (pc2 := 60) (lv2 := []) (st2 := []) (ws2 := [wX12 (zcT C) aO o41]) rfl rfl rfl [] rfl (bX12_wrongWorth_60 X hQ  h)
  · replace h := zif_f h c35
    refine z_iload_n X dX12_wrongWorth_38 0 rfl ?_
    cases h
    exact z_iret X hQ dX12_wrongWorth_39 rfl [0] rfl (by decide) (by decide)
theorem bX12_wrongWorth_28 {C : zCtx} (X : zFx C cX12_wrongWorth 11 RX12 rmX12_wrongWorth (some .int)) {aO : Nat → Nat} {sO : zSt} {x1 : Int32} {out : Int32 × zSt} (hQ : zHi C out.1 [wX12 (zcT C) aO out.2] 0 0) (h : fX12_wrongWorth_28 sO x1 = some out) : zG C 11 [0] 0 0 [wX12 (zcT C) aO sO] 28 [(0, .ref (aO 0)), (1, .int x1)] [] := by
  unfold fX12_wrongWorth_28 at h
  refine z_iconst (v := (2 : Int32)) X dX12_wrongWorth_28 rfl ?_
  refine z_goto (tgt := 33) X dX12_wrongWorth_29 (by decide) ?_
  exact z_at (pc2 := 33) (lv2 := [(0, .ref (aO 0)), (1, .int x1)]) (st2 := [.int (2 : Int32)]) (ws2 := [wX12 (zcT C) aO sO]) rfl rfl rfl [0, 1] rfl (bX12_wrongWorth_33 X hQ  h)
theorem bX12_wrongWorth_0 {C : zCtx} (X : zFx C cX12_wrongWorth 11 RX12 rmX12_wrongWorth (some .int)) {aO : Nat → Nat} {sO : zSt} {x1 : Int32} {out : Int32 × zSt} (hQ : zHi C out.1 [wX12 (zcT C) aO out.2] 0 0) (h : fX12_wrongWorth sO x1 = some out) : zG C 11 [0] 0 0 [wX12 (zcT C) aO sO] 0 [(0, .ref (aO 0)), (1, .int x1)] [] := by
  unfold fX12_wrongWorth at h
  refine z_aload_n X dX12_wrongWorth_0 0 rfl ?_
  refine z_iload_n X dX12_wrongWorth_1 1 rfl ?_
  obtain ⟨o2, ho2, h⟩ := zbind_of h
  refine z_callVi (st := []) (ws2 := [wX12 (zcT C) aO sO]) X (metX12_isRow (zcl C) (zcD C) (zcT C) aO ho2) zmX12_isRow zw1578 dX12_wrongWorth_2 0 0 13 rfl rfl rfl rfl [0] rfl rfl [] rfl (by decide) trivial rfl rfl rfl (Nat.le_of_ble_eq_true rfl) rfl rfl ⟨Nat.le_of_ble_eq_true rfl, Nat.le_of_ble_eq_true rfl⟩ ⟨Nat.le_of_ble_eq_true rfl, Nat.le_of_ble_eq_true rfl⟩ ?_
  refine z_if_ne (tgt := 12) X dX12_wrongWorth_5 (by decide) (fun c5 => ?_) (fun c5 => ?_)
  · replace h := zif_f h c5
    refine z_aload_n X dX12_wrongWorth_12 0 rfl ?_
    refine z_get (v := .ref (aO 7)) X 0 0 13 6 ziX12 rfl (by decide) zw1342 rfl dX12_wrongWorth_13 rfl rfl rfl ?_
    refine z_iload_n X dX12_wrongWorth_16 1 rfl ?_
    obtain ⟨g17, h⟩ := zgd_of h
    refine z_zald X 0 7 g17 dX12_wrongWorth_17 rfl rfl ?_
    refine z_if_ne (tgt := 28) X dX12_wrongWorth_18 (by decide) (fun c18 => ?_) (fun c18 => ?_)
    · replace h := zif_f h c18
      exact z_at (pc2 := 28) (lv2 := [(0, .ref (aO 0)), (1, .int x1)]) (st2 := []) (ws2 := [wX12 (zcT C) aO sO]) rfl rfl rfl [0, 1] rfl (bX12_wrongWorth_28 X hQ  h)
    · replace h := zif_t h c18
      refine z_aload_n X dX12_wrongWorth_21 0 rfl ?_
      refine z_get (v := .int (zgi sO 12)) X 0 0 13 12 ziX12 rfl (by decide) zw1348 rfl dX12_wrongWorth_22 rfl rfl rfl ?_
      refine z_if_ne (tgt := 32) X dX12_wrongWorth_25 (by decide) (fun c25 => ?_) (fun c25 => ?_)
      · replace h := zif_f h c25
        refine z_iconst (v := (0 : Int32)) X dX12_wrongWorth_32 rfl ?_
        exact z_at (pc2 := 33) (lv2 := [(0, .ref (aO 0)), (1, .int x1)]) (st2 := [.int (0 : Int32)]) (ws2 := [wX12 (zcT C) aO sO]) rfl rfl rfl [0, 1] rfl (bX12_wrongWorth_33 X hQ  h)
      · replace h := zif_t h c25
        exact z_at (pc2 := 28) (lv2 := [(0, .ref (aO 0)), (1, .int x1)]) (st2 := []) (ws2 := [wX12 (zcT C) aO sO]) rfl rfl rfl [0, 1] rfl (bX12_wrongWorth_28 X hQ  h)
  · replace h := zif_t h c5
    refine z_iconst (v := (1 : Int32)) X dX12_wrongWorth_8 rfl ?_
    refine z_goto (tgt := 33) X dX12_wrongWorth_9 (by decide) ?_
    exact z_at (pc2 := 33) (lv2 := [(0, .ref (aO 0)), (1, .int x1)]) (st2 := [.int (1 : Int32)]) (ws2 := [wX12 (zcT C) aO sO]) rfl rfl rfl [0, 1] rfl (bX12_wrongWorth_33 X hQ  h)
theorem metX12_wrongWorth (l : Launch) (D : va_G) (T : Nat → ClassId) (aO : Nat → Nat) {sO : zSt} {x1 : Int32} {out : Int32 × zSt} (hf : fX12_wrongWorth sO x1 = some out) (sz : Nat) : Met l yX12_wrongWorth (zws yX12_wrongWorth cX12_wrongWorth 11 (some .int)) rmX12_wrongWorth (zPc D T [.ref (aO 0), .int x1] [wX12 T aO sO] sz) (zQi D out.1 [wX12 T aO out.2] (zA [wX12 T aO sO] sz)) 0 0 (zA [wX12 T aO sO] sz) :=
  zMet (D := D) (T := T) (av := [.ref (aO 0), .int x1]) (ws := fun T => [wX12 T aO sO]) (wm := fun T => [wX12 T aO sO]) (lv0 := [(0, .ref (aO 0)), (1, .int x1)]) [0] (Qc := fun D T A => zQi D out.1 [wX12 T aO out.2] A) (by decide +kernel) rfl (Nat.le_of_ble_eq_true rfl) rfl (fun C X hQ => bX12_wrongWorth_0 X hQ hf) sz
/-- public long worthTop(int); of TableaufloorModel -/
abbrev rmX12_worthTop : Room := { frames := 7, cells := 0, slots := 0, locals := 177 }
def fX12_worthTop_26 (sO : zSt) (y0 : Int64) : Option (Int64 × zSt) :=
  some (y0, sO)
def fX12_worthTop (sO : zSt) (x1 : Int32) : Option (Int64 × zSt) :=
  ((fX12_wrongWorth sO x1).bind (fun o3 =>
    (zlet (zsi o3.2 9 o3.1) (fun sO6 =>
    (if (zgi sO6 9) ≤ 0 then
    (if zin (0 : Int32) 3 = true then
      (fX12_worthTop_26 sO6 (zgb sO6 30 ((0 : Int32)).toNatClampNeg)) else none)
  else
    (fX12_worthTop_26 sO6 (0 : Int64)))))))
theorem bX12_worthTop_26 {C : zCtx} (X : zFx C cX12_worthTop 2 RX12 rmX12_worthTop (some .long)) {aO : Nat → Nat} {sO : zSt} {y0 : Int64} {out : Int64 × zSt} (hQ : zHl C out.1 [wX12 (zcT C) aO out.2] 0 0) (h : fX12_worthTop_26 sO y0 = some out) : zG C 2 [0] 0 0 [wX12 (zcT C) aO sO] 26 [] [.long y0] := by
  unfold fX12_worthTop_26 at h
  cases h
  exact z_lret X hQ dX12_worthTop_26 rfl [0] rfl (by decide) (by decide)
theorem bX12_worthTop_0 {C : zCtx} (X : zFx C cX12_worthTop 2 RX12 rmX12_worthTop (some .long)) {aO : Nat → Nat} {sO : zSt} {x1 : Int32} {out : Int64 × zSt} (hQ : zHl C out.1 [wX12 (zcT C) aO out.2] 0 0) (h : fX12_worthTop sO x1 = some out) : zG C 2 [0] 0 0 [wX12 (zcT C) aO sO] 0 [(0, .ref (aO 0)), (1, .int x1)] [] := by
  unfold fX12_worthTop at h
  refine z_aload_n X dX12_worthTop_0 0 rfl ?_
  refine z_aload_n X dX12_worthTop_1 0 rfl ?_
  refine z_iload_n X dX12_worthTop_2 1 rfl ?_
  obtain ⟨o3, ho3, h⟩ := zbind_of h
  refine z_callVi (st := [.ref (aO 0)]) (ws2 := [wX12 (zcT C) aO o3.2]) X (metX12_wrongWorth (zcl C) (zcD C) (zcT C) aO ho3) zmX12_wrongWorth zw1924 dX12_worthTop_3 0 0 13 rfl rfl rfl rfl [0] rfl rfl [0] rfl (by decide) ⟨zsX12 , trivial⟩ rfl rfl rfl (Nat.le_of_ble_eq_true rfl) rfl rfl ⟨Nat.le_of_ble_eq_true rfl, Nat.le_of_ble_eq_true rfl⟩ ⟨Nat.le_of_ble_eq_true rfl, Nat.le_of_ble_eq_true rfl⟩ ?_
  obtain ⟨sO6, esO6, h⟩ := zlet_of h
  refine z_put (ws2 := [wX12 (zcT C) aO sO6]) X 0 0 13 9 ziX12 rfl tyX12 tyX12_ok nmX12 (by decide) zw1345 rfl rfl (ty := .int) (by decide +kernel) rfl rfl (by show 9 < 40; decide) dX12_worthTop_6 rfl rfl (by decide) (w2 := wX12 (zcT C) aO sO6) (by rw [esO6]; rfl) rfl ?_
  refine z_aload_n X dX12_worthTop_9 0 rfl ?_
  refine z_get (v := .int (zgi sO6 9)) X 0 0 13 9 ziX12 rfl (by decide) zw1345 rfl dX12_worthTop_10 rfl rfl rfl ?_
  refine z_if_le (tgt := 20) X dX12_worthTop_13 (by decide) (fun c13 => ?_) (fun c13 => ?_)
  · replace h := zif_t h c13
    refine z_aload_n X dX12_worthTop_20 0 rfl ?_
    refine z_get (v := .ref (aO 31)) X 0 0 13 30 ziX12 rfl (by decide) zw1366 rfl dX12_worthTop_21 rfl rfl rfl ?_
    refine z_iconst (v := (0 : Int32)) X dX12_worthTop_24 rfl ?_
    obtain ⟨g25, h⟩ := zgd_of h
    refine z_lald X 0 22 g25 dX12_worthTop_25 rfl rfl ?_
    exact z_at (pc2 := 26) (lv2 := []) (st2 := [.long (zgb sO6 30 ((0 : Int32)).toNatClampNeg)]) (ws2 := [wX12 (zcT C) aO sO6]) rfl rfl rfl [] rfl (bX12_worthTop_26 X hQ  h)
  · replace h := zif_f h c13
    refine z_lconst (v := (0 : Int64)) X dX12_worthTop_16 rfl ?_
    refine z_goto (tgt := 26) X dX12_worthTop_17 (by decide) ?_
    exact z_at (pc2 := 26) (lv2 := []) (st2 := [.long (0 : Int64)]) (ws2 := [wX12 (zcT C) aO sO6]) rfl rfl rfl [] rfl (bX12_worthTop_26 X hQ  h)
theorem metX12_worthTop (l : Launch) (D : va_G) (T : Nat → ClassId) (aO : Nat → Nat) {sO : zSt} {x1 : Int32} {out : Int64 × zSt} (hf : fX12_worthTop sO x1 = some out) (sz : Nat) : Met l yX12_worthTop (zws yX12_worthTop cX12_worthTop 2 (some .long)) rmX12_worthTop (zPc D T [.ref (aO 0), .int x1] [wX12 T aO sO] sz) (zQl D out.1 [wX12 T aO out.2] (zA [wX12 T aO sO] sz)) 0 0 (zA [wX12 T aO sO] sz) :=
  zMet (D := D) (T := T) (av := [.ref (aO 0), .int x1]) (ws := fun T => [wX12 T aO sO]) (wm := fun T => [wX12 T aO sO]) (lv0 := [(0, .ref (aO 0)), (1, .int x1)]) [0] (Qc := fun D T A => zQl D out.1 [wX12 T aO out.2] A) (by decide +kernel) rfl (Nat.le_of_ble_eq_true rfl) rfl (fun C X hQ => bX12_worthTop_0 X hQ hf) sz
/-- public long worthBottom(int); of TableaufloorModel -/
abbrev rmX12_worthBottom : Room := { frames := 7, cells := 0, slots := 0, locals := 177 }
def fX12_worthBottom_26 (sO : zSt) (y0 : Int64) : Option (Int64 × zSt) :=
  some (y0, sO)
def fX12_worthBottom (sO : zSt) (x1 : Int32) : Option (Int64 × zSt) :=
  ((fX12_wrongWorth sO x1).bind (fun o3 =>
    (zlet (zsi o3.2 9 o3.1) (fun sO6 =>
    (if (zgi sO6 9) ≤ 0 then
    (if zin (1 : Int32) 3 = true then
      (fX12_worthBottom_26 sO6 (zgb sO6 30 ((1 : Int32)).toNatClampNeg)) else none)
  else
    (fX12_worthBottom_26 sO6 (0 : Int64)))))))
theorem bX12_worthBottom_26 {C : zCtx} (X : zFx C cX12_worthBottom 2 RX12 rmX12_worthBottom (some .long)) {aO : Nat → Nat} {sO : zSt} {y0 : Int64} {out : Int64 × zSt} (hQ : zHl C out.1 [wX12 (zcT C) aO out.2] 0 0) (h : fX12_worthBottom_26 sO y0 = some out) : zG C 2 [0] 0 0 [wX12 (zcT C) aO sO] 26 [] [.long y0] := by
  unfold fX12_worthBottom_26 at h
  cases h
  exact z_lret X hQ dX12_worthBottom_26 rfl [0] rfl (by decide) (by decide)
theorem bX12_worthBottom_0 {C : zCtx} (X : zFx C cX12_worthBottom 2 RX12 rmX12_worthBottom (some .long)) {aO : Nat → Nat} {sO : zSt} {x1 : Int32} {out : Int64 × zSt} (hQ : zHl C out.1 [wX12 (zcT C) aO out.2] 0 0) (h : fX12_worthBottom sO x1 = some out) : zG C 2 [0] 0 0 [wX12 (zcT C) aO sO] 0 [(0, .ref (aO 0)), (1, .int x1)] [] := by
  unfold fX12_worthBottom at h
  refine z_aload_n X dX12_worthBottom_0 0 rfl ?_
  refine z_aload_n X dX12_worthBottom_1 0 rfl ?_
  refine z_iload_n X dX12_worthBottom_2 1 rfl ?_
  obtain ⟨o3, ho3, h⟩ := zbind_of h
  refine z_callVi (st := [.ref (aO 0)]) (ws2 := [wX12 (zcT C) aO o3.2]) X (metX12_wrongWorth (zcl C) (zcD C) (zcT C) aO ho3) zmX12_wrongWorth zw1924 dX12_worthBottom_3 0 0 13 rfl rfl rfl rfl [0] rfl rfl [0] rfl (by decide) ⟨zsX12 , trivial⟩ rfl rfl rfl (Nat.le_of_ble_eq_true rfl) rfl rfl ⟨Nat.le_of_ble_eq_true rfl, Nat.le_of_ble_eq_true rfl⟩ ⟨Nat.le_of_ble_eq_true rfl, Nat.le_of_ble_eq_true rfl⟩ ?_
  obtain ⟨sO6, esO6, h⟩ := zlet_of h
  refine z_put (ws2 := [wX12 (zcT C) aO sO6]) X 0 0 13 9 ziX12 rfl tyX12 tyX12_ok nmX12 (by decide) zw1345 rfl rfl (ty := .int) (by decide +kernel) rfl rfl (by show 9 < 40; decide) dX12_worthBottom_6 rfl rfl (by decide) (w2 := wX12 (zcT C) aO sO6) (by rw [esO6]; rfl) rfl ?_
  refine z_aload_n X dX12_worthBottom_9 0 rfl ?_
  refine z_get (v := .int (zgi sO6 9)) X 0 0 13 9 ziX12 rfl (by decide) zw1345 rfl dX12_worthBottom_10 rfl rfl rfl ?_
  refine z_if_le (tgt := 20) X dX12_worthBottom_13 (by decide) (fun c13 => ?_) (fun c13 => ?_)
  · replace h := zif_t h c13
    refine z_aload_n X dX12_worthBottom_20 0 rfl ?_
    refine z_get (v := .ref (aO 31)) X 0 0 13 30 ziX12 rfl (by decide) zw1366 rfl dX12_worthBottom_21 rfl rfl rfl ?_
    refine z_iconst (v := (1 : Int32)) X dX12_worthBottom_24 rfl ?_
    obtain ⟨g25, h⟩ := zgd_of h
    refine z_lald X 0 22 g25 dX12_worthBottom_25 rfl rfl ?_
    exact z_at (pc2 := 26) (lv2 := []) (st2 := [.long (zgb sO6 30 ((1 : Int32)).toNatClampNeg)]) (ws2 := [wX12 (zcT C) aO sO6]) rfl rfl rfl [] rfl (bX12_worthBottom_26 X hQ  h)
  · replace h := zif_f h c13
    refine z_lconst (v := (0 : Int64)) X dX12_worthBottom_16 rfl ?_
    refine z_goto (tgt := 26) X dX12_worthBottom_17 (by decide) ?_
    exact z_at (pc2 := 26) (lv2 := []) (st2 := [.long (0 : Int64)]) (ws2 := [wX12 (zcT C) aO sO6]) rfl rfl rfl [] rfl (bX12_worthBottom_26 X hQ  h)
theorem metX12_worthBottom (l : Launch) (D : va_G) (T : Nat → ClassId) (aO : Nat → Nat) {sO : zSt} {x1 : Int32} {out : Int64 × zSt} (hf : fX12_worthBottom sO x1 = some out) (sz : Nat) : Met l yX12_worthBottom (zws yX12_worthBottom cX12_worthBottom 2 (some .long)) rmX12_worthBottom (zPc D T [.ref (aO 0), .int x1] [wX12 T aO sO] sz) (zQl D out.1 [wX12 T aO out.2] (zA [wX12 T aO sO] sz)) 0 0 (zA [wX12 T aO sO] sz) :=
  zMet (D := D) (T := T) (av := [.ref (aO 0), .int x1]) (ws := fun T => [wX12 T aO sO]) (wm := fun T => [wX12 T aO sO]) (lv0 := [(0, .ref (aO 0)), (1, .int x1)]) [0] (Qc := fun D T A => zQl D out.1 [wX12 T aO out.2] A) (by decide +kernel) rfl (Nat.le_of_ble_eq_true rfl) rfl (fun C X hQ => bX12_worthBottom_0 X hQ hf) sz
/-- public int conflict(); of TableaufloorModel -/
abbrev rmX12_conflict : Room := { frames := 6, cells := 0, slots := 0, locals := 147 }
def fX12_conflict_76 (k34 : zSt → Int32 → Int32 → Option (Int32 × zSt)) (sO : zSt) (x1 : Int32) (x2 : Int32) : Option (Int32 × zSt) :=
  (zlet (x2 + 1) (fun v76 =>
    (k34 sO x1 v76)))
def fX12_conflict_34 : Nat → zSt → Int32 → Int32 → Option (Int32 × zSt)
  | 0, _, _, _ => none
  | n + 1, sO, x1, x2 =>
    (if (zgi sO 11) ≤ x2 then
      some (x1, sO)
    else
      (if ((x1 >>> (x2 &&& 31)) - (x1 >>> (x2 &&& 31)) / (2 : Int32) * (2 : Int32)) = 0 then
        (fX12_conflict_76 (fX12_conflict_34 n) sO x1 x2)
      else
        ((fX12_findsPoints sO (x1 - ((1 : Int32) <<< (x2 &&& 31))) (-1 : Int32)).bind (fun o60 =>
          (if (zgi o60 32) = 0 then
          (zlet (x1 - ((1 : Int32) <<< (x2 &&& 31))) (fun v75 =>
            (fX12_conflict_76 (fX12_conflict_34 n) o60 v75 x2)))
        else
          (fX12_conflict_76 (fX12_conflict_34 n) o60 x1 x2))))))
def fX12_conflict_19 (sO : zSt) (y1 : Int32) : Option (Int32 × zSt) :=
  ((fX12_checked sO y1).bind (fun o19 =>
    (if o19.1 ≤ 0 then
    ((fX12_allLeft o19.2).bind (fun o28 =>
      (fX12_conflict_34 6000 o19.2 o28 (0 : Int32))))
  else
    some ((0 : Int32), o19.2))))
def fX12_conflict (sO : zSt) : Option (Int32 × zSt) :=
  ((fX12_looksNow sO).bind (fun o1 =>
    (if (zgi o1 36) = (105 : Int32) then
    (fX12_conflict_19 o1 (1 : Int32))
  else
    (fX12_conflict_19 o1 (0 : Int32)))))
theorem bX12_conflict_76 {C : zCtx} (X : zFx C cX12_conflict 3 RX12 rmX12_conflict (some .int)) {aO : Nat → Nat} {k34 : zSt → Int32 → Int32 → Option (Int32 × zSt)} {sO : zSt} {x1 : Int32} {x2 : Int32} {out : Int32 × zSt} (hQ : zHi C out.1 [wX12 (zcT C) aO out.2] 0 0) (hk34 : ∀ (sO : zSt) (x1 : Int32) (x2 : Int32), k34 sO x1 x2 = some out → zG C 3 [0] 0 0 [wX12 (zcT C) aO sO] 34 [(0, .ref (aO 0)), (1, .int x1), (2, .int x2)] []) (h : fX12_conflict_76 k34 sO x1 x2 = some out) : zG C 3 [0] 0 0 [wX12 (zcT C) aO sO] 76 [(0, .ref (aO 0)), (1, .int x1), (2, .int x2)] [] := by
  unfold fX12_conflict_76 at h
  obtain ⟨v76, ev76, h⟩ := zlet_of h
  refine z_iinc (v := v76) (lv2 := [(2, .int v76), (0, .ref (aO 0)), (1, .int x1)]) X dX12_conflict_76 (k := 2) rfl (by rw [ev76]; rfl) (by decide) rfl ?_
  refine z_goto (tgt := 34) X dX12_conflict_79 (by decide) ?_
  exact z_at (pc2 := 34) (lv2 := [(0, .ref (aO 0)), (1, .int x1), (2, .int v76)]) (st2 := []) (ws2 := [wX12 (zcT C) aO sO]) rfl rfl rfl [1, 2, 0] rfl (hk34 sO x1 v76 h)
theorem bX12_conflict_34 {C : zCtx} (X : zFx C cX12_conflict 3 RX12 rmX12_conflict (some .int)) {aO : Nat → Nat} {out : Int32 × zSt} (hQ : zHi C out.1 [wX12 (zcT C) aO out.2] 0 0) : ∀ (n : Nat) (sO : zSt) (x1 : Int32) (x2 : Int32), fX12_conflict_34 n sO x1 x2 = some out → zG C 3 [0] 0 0 [wX12 (zcT C) aO sO] 34 [(0, .ref (aO 0)), (1, .int x1), (2, .int x2)] [] := by
  intro n
  induction n with
  | zero =>
    intro sO x1 x2 h
    rw [fX12_conflict_34] at h
    exact zno h
  | succ n ih =>
    intro sO x1 x2 h
    rw [fX12_conflict_34] at h
    refine z_iload_n X dX12_conflict_34 2 rfl ?_
    refine z_aload_n X dX12_conflict_35 0 rfl ?_
    refine z_get (v := .int (zgi sO 11)) X 0 0 13 11 ziX12 rfl (by decide) zw1347 rfl dX12_conflict_36 rfl rfl rfl ?_
    refine z_icmp_ge (tgt := 82) X dX12_conflict_39 (by decide) (fun c39 => ?_) (fun c39 => ?_)
    · replace h := zif_t h c39
      refine z_iload_n X dX12_conflict_82 1 rfl ?_
      cases h
      exact z_iret X hQ dX12_conflict_83 rfl [0] rfl (by decide) (by decide)
    · replace h := zif_f h c39
      refine z_iload_n X dX12_conflict_42 1 rfl ?_
      refine z_iload_n X dX12_conflict_43 2 rfl ?_
      refine z_ishr X dX12_conflict_44 ?_
      refine z_iconst (v := (2 : Int32)) X dX12_conflict_45 rfl ?_
      refine z_irem X dX12_conflict_46 (by decide) ?_
      refine z_if_ne (tgt := 53) X dX12_conflict_47 (by decide) (fun c47 => ?_) (fun c47 => ?_)
      · replace h := zif_f h c47
        refine z_aload_n X dX12_conflict_53 0 rfl ?_
        refine z_iload_n X dX12_conflict_54 1 rfl ?_
        refine z_iconst (v := (1 : Int32)) X dX12_conflict_55 rfl ?_
        refine z_iload_n X dX12_conflict_56 2 rfl ?_
        refine z_ishl X dX12_conflict_57 ?_
        refine z_isub X dX12_conflict_58 ?_
        refine z_iconst (v := (-1 : Int32)) X dX12_conflict_59 rfl ?_
        obtain ⟨o60, ho60, h⟩ := zbind_of h
        refine z_callVv (st := []) (ws2 := [wX12 (zcT C) aO o60]) X (metX12_findsPoints (zcl C) (zcD C) (zcT C) aO ho60) zmX12_findsPoints zw1804 dX12_conflict_60 0 0 13 rfl rfl rfl rfl [0] rfl rfl [0] rfl (by decide) ⟨zsX12 , trivial⟩ rfl rfl rfl (Nat.le_of_ble_eq_true rfl) rfl rfl ⟨Nat.le_of_ble_eq_true rfl, Nat.le_of_ble_eq_true rfl⟩ ⟨Nat.le_of_ble_eq_true rfl, Nat.le_of_ble_eq_true rfl⟩ ?_
        refine z_aload_n X dX12_conflict_63 0 rfl ?_
        refine z_get (v := .int (zgi o60 32)) X 0 0 13 32 ziX12 rfl (by decide) zw1368 rfl dX12_conflict_64 rfl rfl rfl ?_
        refine z_if_ne (tgt := 76) X dX12_conflict_67 (by decide) (fun c67 => ?_) (fun c67 => ?_)
        · replace h := zif_f h c67
          exact z_at (pc2 := 76) (lv2 := [(0, .ref (aO 0)), (1, .int x1), (2, .int x2)]) (st2 := []) (ws2 := [wX12 (zcT C) aO o60]) rfl rfl rfl [0, 1, 2] rfl (bX12_conflict_76 X hQ ih h)
        · replace h := zif_t h c67
          refine z_iload_n X dX12_conflict_70 1 rfl ?_
          refine z_iconst (v := (1 : Int32)) X dX12_conflict_71 rfl ?_
          refine z_iload_n X dX12_conflict_72 2 rfl ?_
          refine z_ishl X dX12_conflict_73 ?_
          refine z_isub X dX12_conflict_74 ?_
          obtain ⟨v75, ev75, h⟩ := zlet_of h
          refine z_topi ev75 ?_
          refine z_istore_n (lv2 := [(1, .int v75), (0, .ref (aO 0)), (2, .int x2)]) X dX12_conflict_75 rfl (by decide) rfl ?_
          exact z_at (pc2 := 76) (lv2 := [(0, .ref (aO 0)), (1, .int v75), (2, .int x2)]) (st2 := []) (ws2 := [wX12 (zcT C) aO o60]) rfl rfl rfl [1, 0, 2] rfl (bX12_conflict_76 X hQ ih h)
      · replace h := zif_t h c47
        refine z_goto (tgt := 76) X dX12_conflict_50 (by decide) ?_
        exact z_at (pc2 := 76) (lv2 := [(0, .ref (aO 0)), (1, .int x1), (2, .int x2)]) (st2 := []) (ws2 := [wX12 (zcT C) aO sO]) rfl rfl rfl [0, 1, 2] rfl (bX12_conflict_76 X hQ ih h)
theorem bX12_conflict_19 {C : zCtx} (X : zFx C cX12_conflict 3 RX12 rmX12_conflict (some .int)) {aO : Nat → Nat} {sO : zSt} {y1 : Int32} {out : Int32 × zSt} (hQ : zHi C out.1 [wX12 (zcT C) aO out.2] 0 0) (h : fX12_conflict_19 sO y1 = some out) : zG C 3 [0] 0 0 [wX12 (zcT C) aO sO] 19 [(0, .ref (aO 0))] [.int y1, .ref (aO 0)] := by
  unfold fX12_conflict_19 at h
  obtain ⟨o19, ho19, h⟩ := zbind_of h
  refine z_callVi (st := []) (ws2 := [wX12 (zcT C) aO o19.2]) X (metX12_checked (zcl C) (zcD C) (zcT C) aO ho19) zmX12_checked zw1550 dX12_conflict_19 0 0 13 rfl rfl rfl rfl [0] rfl rfl [0] rfl (by decide) ⟨zsX12 , trivial⟩ rfl rfl rfl (Nat.le_of_ble_eq_true rfl) rfl rfl ⟨Nat.le_of_ble_eq_true rfl, Nat.le_of_ble_eq_true rfl⟩ ⟨Nat.le_of_ble_eq_true rfl, Nat.le_of_ble_eq_true rfl⟩ ?_
  refine z_if_le (tgt := 27) X dX12_conflict_22 (by decide) (fun c22 => ?_) (fun c22 => ?_)
  · replace h := zif_t h c22
    refine z_aload_n X dX12_conflict_27 0 rfl ?_
    obtain ⟨o28, ho28, h⟩ := zbind_of h
    refine z_callVi (st := []) (ws2 := [wX12 (zcT C) aO o19.2]) X (metX12_allLeft (zcl C) (zcD C) (zcT C) aO ho28) zmX12_allLeft zw1796 dX12_conflict_28 0 0 13 rfl rfl rfl rfl [0] rfl rfl [] rfl (by decide) trivial rfl rfl rfl (Nat.le_of_ble_eq_true rfl) rfl rfl ⟨Nat.le_of_ble_eq_true rfl, Nat.le_of_ble_eq_true rfl⟩ ⟨Nat.le_of_ble_eq_true rfl, Nat.le_of_ble_eq_true rfl⟩ ?_
    refine z_istore_n (lv2 := [(1, .int o28), (0, .ref (aO 0))]) X dX12_conflict_31 rfl (by decide) rfl ?_
    refine z_iconst (v := (0 : Int32)) X dX12_conflict_32 rfl ?_
    refine z_istore_n (lv2 := [(2, .int (0 : Int32)), (1, .int o28), (0, .ref (aO 0))]) X dX12_conflict_33 rfl (by decide) rfl ?_
    exact z_at (pc2 := 34) (lv2 := [(0, .ref (aO 0)), (1, .int o28), (2, .int (0 : Int32))]) (st2 := []) (ws2 := [wX12 (zcT C) aO o19.2]) rfl rfl rfl [2, 1, 0] rfl (bX12_conflict_34 X hQ  6000 o19.2 o28 (0 : Int32) h)
  · replace h := zif_f h c22
    refine z_iconst (v := (0 : Int32)) X dX12_conflict_25 rfl ?_
    cases h
    exact z_iret X hQ dX12_conflict_26 rfl [0] rfl (by decide) (by decide)
theorem bX12_conflict_0 {C : zCtx} (X : zFx C cX12_conflict 3 RX12 rmX12_conflict (some .int)) {aO : Nat → Nat} {sO : zSt} {out : Int32 × zSt} (hQ : zHi C out.1 [wX12 (zcT C) aO out.2] 0 0) (h : fX12_conflict sO = some out) : zG C 3 [0] 0 0 [wX12 (zcT C) aO sO] 0 [(0, .ref (aO 0))] [] := by
  unfold fX12_conflict at h
  refine z_aload_n X dX12_conflict_0 0 rfl ?_
  obtain ⟨o1, ho1, h⟩ := zbind_of h
  refine z_callVv (st := []) (ws2 := [wX12 (zcT C) aO o1]) X (metX12_looksNow (zcl C) (zcD C) (zcT C) aO ho1) zmX12_looksNow zw1792 dX12_conflict_1 0 0 13 rfl rfl rfl rfl [0] rfl rfl [0] rfl (by decide) ⟨zsX12 , trivial⟩ rfl rfl rfl (Nat.le_of_ble_eq_true rfl) rfl rfl ⟨Nat.le_of_ble_eq_true rfl, Nat.le_of_ble_eq_true rfl⟩ ⟨Nat.le_of_ble_eq_true rfl, Nat.le_of_ble_eq_true rfl⟩ ?_
  refine z_aload_n X dX12_conflict_4 0 rfl ?_
  refine z_aload_n X dX12_conflict_5 0 rfl ?_
  refine z_get (v := .int (zgi o1 36)) X 0 0 13 36 ziX12 rfl (by decide) zw1372 rfl dX12_conflict_6 rfl rfl rfl ?_
  refine z_bipush (v := (105 : Int32)) X dX12_conflict_9 rfl ?_
  refine z_icmp_ne (tgt := 18) X dX12_conflict_11 (by decide) (fun c11 => ?_) (fun c11 => ?_)
  · replace h := zif_f h c11
    refine z_iconst (v := (0 : Int32)) X dX12_conflict_18 rfl ?_
    exact z_at (pc2 := 19) (lv2 := [(0, .ref (aO 0))]) (st2 := [.int (0 : Int32), .ref (aO 0)]) (ws2 := [wX12 (zcT C) aO o1]) rfl rfl rfl [0] rfl (bX12_conflict_19 X hQ  h)
  · replace h := zif_t h c11
    refine z_iconst (v := (1 : Int32)) X dX12_conflict_14 rfl ?_
    refine z_goto (tgt := 19) X dX12_conflict_15 (by decide) ?_
    exact z_at (pc2 := 19) (lv2 := [(0, .ref (aO 0))]) (st2 := [.int (1 : Int32), .ref (aO 0)]) (ws2 := [wX12 (zcT C) aO o1]) rfl rfl rfl [0] rfl (bX12_conflict_19 X hQ  h)
theorem metX12_conflict (l : Launch) (D : va_G) (T : Nat → ClassId) (aO : Nat → Nat) {sO : zSt} {out : Int32 × zSt} (hf : fX12_conflict sO = some out) (sz : Nat) : Met l yX12_conflict (zws yX12_conflict cX12_conflict 3 (some .int)) rmX12_conflict (zPc D T [.ref (aO 0)] [wX12 T aO sO] sz) (zQi D out.1 [wX12 T aO out.2] (zA [wX12 T aO sO] sz)) 0 0 (zA [wX12 T aO sO] sz) :=
  zMet (D := D) (T := T) (av := [.ref (aO 0)]) (ws := fun T => [wX12 T aO sO]) (wm := fun T => [wX12 T aO sO]) (lv0 := [(0, .ref (aO 0))]) [0] (Qc := fun D T A => zQi D out.1 [wX12 T aO out.2] A) (by decide +kernel) rfl (Nat.le_of_ble_eq_true rfl) rfl (fun C X hQ => bX12_conflict_0 X hQ hf) sz
/-- private boolean isWholeLooked(); of TableaufloorModel -/
abbrev rmX12_isWholeLooked : Room := { frames := 0, cells := 0, slots := 0, locals := 0 }
def fX12_isWholeLooked_39 (sO : zSt) : Option (Int32) :=
  some ((0 : Int32))
def fX12_isWholeLooked_2 (sO : zSt) : Nat → Int32 → Option (Int32)
  | 0, _ => none
  | n + 1, x1 =>
    (if (zgi sO 10) ≤ x1 then
      some ((1 : Int32))
    else
      (if zin x1 3 = true then
        (if (zga sO 1 (x1).toNatClampNeg) = (100 : Int32) then
        (fX12_isWholeLooked_39 sO)
      else
        (if zin x1 3 = true then
          (if zin x1 3 = true then
          (if ((zga sO 1 (x1).toNatClampNeg) - (zga sO 0 (x1).toNatClampNeg)) ≤ (6 : Int32) then
          (zlet (x1 + 1) (fun v41 =>
            (fX12_isWholeLooked_2 sO n v41)))
        else
          (fX12_isWholeLooked_39 sO)) else none) else none)) else none))
def fX12_isWholeLooked (sO : zSt) : Option (Int32) :=
  (fX12_isWholeLooked_2 sO 6000 (0 : Int32))
theorem bX12_isWholeLooked_39 {C : zCtx} (X : zFx C cX12_isWholeLooked 2 RX12 rmX12_isWholeLooked (some .boolean)) {aO : Nat → Nat} {sO : zSt} {out : Int32} (hQ : zHi C out [] 0 0) (h : fX12_isWholeLooked_39 sO = some out) : zG C 2 [] 0 0 [wX12 (zcT C) aO sO] 39 [] [] := by
  unfold fX12_isWholeLooked_39 at h
  refine z_iconst (v := (0 : Int32)) X dX12_isWholeLooked_39 rfl ?_
  cases h
  exact z_nret X hQ rfl dX12_isWholeLooked_40 rfl [] rfl (by decide) (by decide)
theorem bX12_isWholeLooked_2 {C : zCtx} (X : zFx C cX12_isWholeLooked 2 RX12 rmX12_isWholeLooked (some .boolean)) {aO : Nat → Nat} {sO : zSt} {out : Int32} (hQ : zHi C out [] 0 0) : ∀ (n : Nat) (x1 : Int32), fX12_isWholeLooked_2 sO n x1 = some out → zG C 2 [] 0 0 [wX12 (zcT C) aO sO] 2 [(0, .ref (aO 0)), (1, .int x1)] [] := by
  intro n
  induction n with
  | zero =>
    intro x1 h
    rw [fX12_isWholeLooked_2] at h
    exact zno h
  | succ n ih =>
    intro x1 h
    rw [fX12_isWholeLooked_2] at h
    refine z_iload_n X dX12_isWholeLooked_2 1 rfl ?_
    refine z_aload_n X dX12_isWholeLooked_3 0 rfl ?_
    refine z_get (v := .int (zgi sO 10)) X 0 0 13 10 ziX12 rfl (by decide) zw1346 rfl dX12_isWholeLooked_4 rfl rfl rfl ?_
    refine z_icmp_ge (tgt := 47) X dX12_isWholeLooked_7 (by decide) (fun c7 => ?_) (fun c7 => ?_)
    · replace h := zif_t h c7
      refine z_iconst (v := (1 : Int32)) X dX12_isWholeLooked_47 rfl ?_
      cases h
      exact z_nret X hQ rfl dX12_isWholeLooked_48 rfl [] rfl (by decide) (by decide)
    · replace h := zif_f h c7
      refine z_aload_n X dX12_isWholeLooked_10 0 rfl ?_
      refine z_get (v := .ref (aO 2)) X 0 0 13 1 ziX12 rfl (by decide) zw1337 rfl dX12_isWholeLooked_11 rfl rfl rfl ?_
      refine z_iload_n X dX12_isWholeLooked_14 1 rfl ?_
      obtain ⟨g15, h⟩ := zgd_of h
      refine z_iald X 0 2 g15 dX12_isWholeLooked_15 rfl rfl ?_
      refine z_bipush (v := (100 : Int32)) X dX12_isWholeLooked_16 rfl ?_
      refine z_icmp_eq (tgt := 39) X dX12_isWholeLooked_18 (by decide) (fun c18 => ?_) (fun c18 => ?_)
      · replace h := zif_t h c18
        exact z_at (pc2 := 39) (lv2 := []) (st2 := []) (ws2 := [wX12 (zcT C) aO sO]) rfl rfl rfl [] rfl (bX12_isWholeLooked_39 X hQ  h)
      · replace h := zif_f h c18
        refine z_aload_n X dX12_isWholeLooked_21 0 rfl ?_
        refine z_get (v := .ref (aO 2)) X 0 0 13 1 ziX12 rfl (by decide) zw1337 rfl dX12_isWholeLooked_22 rfl rfl rfl ?_
        refine z_iload_n X dX12_isWholeLooked_25 1 rfl ?_
        obtain ⟨g26, h⟩ := zgd_of h
        refine z_iald X 0 2 g26 dX12_isWholeLooked_26 rfl rfl ?_
        refine z_aload_n X dX12_isWholeLooked_27 0 rfl ?_
        refine z_get (v := .ref (aO 1)) X 0 0 13 0 ziX12 rfl (by decide) zw1336 rfl dX12_isWholeLooked_28 rfl rfl rfl ?_
        refine z_iload_n X dX12_isWholeLooked_31 1 rfl ?_
        obtain ⟨g32, h⟩ := zgd_of h
        refine z_iald X 0 1 g32 dX12_isWholeLooked_32 rfl rfl ?_
        refine z_isub X dX12_isWholeLooked_33 ?_
        refine z_bipush (v := (6 : Int32)) X dX12_isWholeLooked_34 rfl ?_
        refine z_icmp_le (tgt := 41) X dX12_isWholeLooked_36 (by decide) (fun c36 => ?_) (fun c36 => ?_)
        · replace h := zif_t h c36
          obtain ⟨v41, ev41, h⟩ := zlet_of h
          refine z_iinc (v := v41) (lv2 := [(1, .int v41), (0, .ref (aO 0))]) X dX12_isWholeLooked_41 (k := 1) rfl (by rw [ev41]; rfl) (by decide) rfl ?_
          refine z_goto (tgt := 2) X dX12_isWholeLooked_44 (by decide) ?_
          exact z_at (pc2 := 2) (lv2 := [(0, .ref (aO 0)), (1, .int v41)]) (st2 := []) (ws2 := [wX12 (zcT C) aO sO]) rfl rfl rfl [1, 0] rfl (ih v41 h)
        · replace h := zif_f h c36
          exact z_at (pc2 := 39) (lv2 := []) (st2 := []) (ws2 := [wX12 (zcT C) aO sO]) rfl rfl rfl [] rfl (bX12_isWholeLooked_39 X hQ  h)
theorem bX12_isWholeLooked_0 {C : zCtx} (X : zFx C cX12_isWholeLooked 2 RX12 rmX12_isWholeLooked (some .boolean)) {aO : Nat → Nat} {sO : zSt} {out : Int32} (hQ : zHi C out [] 0 0) (h : fX12_isWholeLooked sO = some out) : zG C 2 [] 0 0 [wX12 (zcT C) aO sO] 0 [(0, .ref (aO 0))] [] := by
  unfold fX12_isWholeLooked at h
  refine z_iconst (v := (0 : Int32)) X dX12_isWholeLooked_0 rfl ?_
  refine z_istore_n (lv2 := [(1, .int (0 : Int32)), (0, .ref (aO 0))]) X dX12_isWholeLooked_1 rfl (by decide) rfl ?_
  exact z_at (pc2 := 2) (lv2 := [(0, .ref (aO 0)), (1, .int (0 : Int32))]) (st2 := []) (ws2 := [wX12 (zcT C) aO sO]) rfl rfl rfl [1, 0] rfl (bX12_isWholeLooked_2 X hQ  6000 (0 : Int32) h)
theorem metX12_isWholeLooked (l : Launch) (D : va_G) (T : Nat → ClassId) (aO : Nat → Nat) {sO : zSt} {out : Int32} (hf : fX12_isWholeLooked sO = some out) (sz : Nat) : Met l yX12_isWholeLooked (zws yX12_isWholeLooked cX12_isWholeLooked 2 (some .boolean)) rmX12_isWholeLooked (zPc D T [.ref (aO 0)] [wX12 T aO sO] sz) (zQi D out [] (zA [] sz)) 0 0 (zA [] sz) :=
  zMet (D := D) (T := T) (av := [.ref (aO 0)]) (ws := fun T => [wX12 T aO sO]) (wm := fun T => []) (lv0 := [(0, .ref (aO 0))]) [] (Qc := fun D T A => zQi D out [] A) (by decide +kernel) rfl (Nat.le_of_ble_eq_true rfl) rfl (fun C X hQ => bX12_isWholeLooked_0 X hQ hf) sz
