/-- private void reads(); of TableaufloorModel -/
abbrev rmX12_reads : Room := { frames := 4, cells := 0, slots := 0, locals := 86 }
def fX12_reads_90 (sO : zSt) : Option (zSt) :=
  some (sO)
def fX12_reads_78 (sO : zSt) (y0 : Int32) : Option (zSt) :=
  (if y0 = 0 then
    (fX12_reads_90 sO)
  else
    ((fX12_isInRange sO).bind (fun o84 =>
      (if o84 = 0 then
      (zlet (zsi sO 18 (114 : Int32)) (fun sO94 =>
        (zlet (zsi sO94 15 (zgi sO94 13)) (fun sO102 =>
        some (sO102)))))
    else
      (fX12_reads_90 sO)))))
def fX12_reads_77 (sO : zSt) : Option (zSt) :=
  (fX12_reads_78 sO (0 : Int32))
def fX12_reads_13 : Nat → zSt → Int32 → Option (zSt)
  | 0, _, _ => none
  | n + 1, sO, x1 =>
    (if (3 : Int32) ≤ x1 then
      ((fX12_isAimText sO).bind (fun o32 =>
        (if o32 = 0 then
        ((fX12_readsSum sO).bind (fun o46 =>
          (if o46.1 = 0 then
          (fX12_reads_77 o46.2)
        else
          ((fX12_readsRelation o46.2).bind (fun o53 =>
            (if o53.1 = 0 then
            (fX12_reads_77 o53.2)
          else
            ((fX12_readsNumber o53.2).bind (fun o60 =>
              (if o60.1 = 0 then
              (fX12_reads_77 o60.2)
            else
              ((fX12_readsEnd o60.2).bind (fun o67 =>
                (if o67.1 = 0 then
                (fX12_reads_77 o67.2)
              else
                (fX12_reads_78 o67.2 (1 : Int32))))))))))))))
      else
        ((fX12_readsAim sO).bind (fun o39 =>
          (fX12_reads_78 o39.2 o39.1))))))
    else
      (if zin x1 3 = true then
        (zlet (zsa sO 14 (upd (zga sO 14) (x1).toNatClampNeg (0 : Int32))) (fun sO24 =>
        (zlet (x1 + 1) (fun v25 =>
        (fX12_reads_13 n sO24 v25))))) else none))
def fX12_reads (sO : zSt) : Option (zSt) :=
  (zlet (zsi sO 15 (0 : Int32)) (fun sO2 =>
    (zlet (zsi sO2 18 (45 : Int32)) (fun sO8 =>
    (fX12_reads_13 6000 sO8 (0 : Int32))))))
theorem bX12_reads_90 {C : zCtx} (X : zFx C cX12_reads 2 RX12 rmX12_reads none) {aO : Nat → Nat} {sO : zSt} {out : zSt} (hQ : zHv C [wX12 (zcT C) aO out] 0 0) (h : fX12_reads_90 sO = some out) : zG C 2 [0] 0 0 [wX12 (zcT C) aO sO] 90 [] [] := by
  unfold fX12_reads_90 at h
  cases h
  exact z_vret X hQ dX12_reads_90 [0] rfl (by decide) (by decide)
theorem bX12_reads_78 {C : zCtx} (X : zFx C cX12_reads 2 RX12 rmX12_reads none) {aO : Nat → Nat} {sO : zSt} {y0 : Int32} {out : zSt} (hQ : zHv C [wX12 (zcT C) aO out] 0 0) (h : fX12_reads_78 sO y0 = some out) : zG C 2 [0] 0 0 [wX12 (zcT C) aO sO] 78 [(0, .ref (aO 0))] [.int y0] := by
  unfold fX12_reads_78 at h
  refine z_istore_n (lv2 := [(1, .int y0), (0, .ref (aO 0))]) X dX12_reads_78 rfl (by decide) rfl ?_
  refine z_iload_n X dX12_reads_79 0 rfl ?_
  refine z_if_eq (tgt := 90) X dX12_reads_80 (by decide) (fun c80 => ?_) (fun c80 => ?_)
  · replace h := zif_t h c80
    exact z_at (pc2 := 90) (lv2 := []) (st2 := []) (ws2 := [wX12 (zcT C) aO sO]) rfl rfl rfl [] rfl (bX12_reads_90 X hQ  h)
  · replace h := zif_f h c80
    refine z_aload_n X dX12_reads_83 1 rfl ?_
    obtain ⟨o84, ho84, h⟩ := zbind_of h
    refine z_callVi (st := []) (ws2 := [wX12 (zcT C) aO sO]) X (metX12_isInRange (zcl C) (zcD C) (zcT C) aO ho84) zmX12_isInRange zw1542 dX12_reads_84 0 0 13 rfl rfl rfl rfl [0] rfl rfl [] rfl (by decide) trivial rfl rfl rfl (Nat.le_of_ble_eq_true rfl) rfl rfl ⟨Nat.le_of_ble_eq_true rfl, Nat.le_of_ble_eq_true rfl⟩ ⟨Nat.le_of_ble_eq_true rfl, Nat.le_of_ble_eq_true rfl⟩ ?_
    refine z_if_eq (tgt := 91) X dX12_reads_87 (by decide) (fun c87 => ?_) (fun c87 => ?_)
    · replace h := zif_t h c87
      refine z_aload_n X dX12_reads_91 1 rfl ?_
      refine z_bipush (v := (114 : Int32)) X dX12_reads_92 rfl ?_
      obtain ⟨sO94, esO94, h⟩ := zlet_of h
      refine z_put (ws2 := [wX12 (zcT C) aO sO94]) X 0 0 13 18 ziX12 rfl tyX12 tyX12_ok nmX12 (by decide) zw1354 rfl rfl (ty := .char) (by decide +kernel) rfl rfl (by show 18 < 40; decide) dX12_reads_94 rfl rfl (by decide) (w2 := wX12 (zcT C) aO sO94) (by rw [esO94]; rfl) rfl ?_
      refine z_aload_n X dX12_reads_97 1 rfl ?_
      refine z_aload_n X dX12_reads_98 1 rfl ?_
      refine z_get (v := .int (zgi sO94 13)) X 0 0 13 13 ziX12 rfl (by decide) zw1349 rfl dX12_reads_99 rfl rfl rfl ?_
      obtain ⟨sO102, esO102, h⟩ := zlet_of h
      refine z_put (ws2 := [wX12 (zcT C) aO sO102]) X 0 0 13 15 ziX12 rfl tyX12 tyX12_ok nmX12 (by decide) zw1351 rfl rfl (ty := .int) (by decide +kernel) rfl rfl (by show 15 < 40; decide) dX12_reads_102 rfl rfl (by decide) (w2 := wX12 (zcT C) aO sO102) (by rw [esO102]; rfl) rfl ?_
      cases h
      exact z_vret X hQ dX12_reads_105 [0] rfl (by decide) (by decide)
    · replace h := zif_f h c87
      exact z_at (pc2 := 90) (lv2 := []) (st2 := []) (ws2 := [wX12 (zcT C) aO sO]) rfl rfl rfl [] rfl (bX12_reads_90 X hQ  h)
theorem bX12_reads_77 {C : zCtx} (X : zFx C cX12_reads 2 RX12 rmX12_reads none) {aO : Nat → Nat} {sO : zSt} {out : zSt} (hQ : zHv C [wX12 (zcT C) aO out] 0 0) (h : fX12_reads_77 sO = some out) : zG C 2 [0] 0 0 [wX12 (zcT C) aO sO] 77 [(0, .ref (aO 0))] [] := by
  unfold fX12_reads_77 at h
  refine z_iconst (v := (0 : Int32)) X dX12_reads_77 rfl ?_
  exact z_at (pc2 := 78) (lv2 := [(0, .ref (aO 0))]) (st2 := [.int (0 : Int32)]) (ws2 := [wX12 (zcT C) aO sO]) rfl rfl rfl [0] rfl (bX12_reads_78 X hQ  h)
theorem bX12_reads_13 {C : zCtx} (X : zFx C cX12_reads 2 RX12 rmX12_reads none) {aO : Nat → Nat} {out : zSt} (hQ : zHv C [wX12 (zcT C) aO out] 0 0) : ∀ (n : Nat) (sO : zSt) (x1 : Int32), fX12_reads_13 n sO x1 = some out → zG C 2 [0] 0 0 [wX12 (zcT C) aO sO] 13 [(0, .ref (aO 0)), (1, .int x1)] [] := by
  intro n
  induction n with
  | zero =>
    intro sO x1 h
    rw [fX12_reads_13] at h
    exact zno h
  | succ n ih =>
    intro sO x1 h
    rw [fX12_reads_13] at h
    refine z_iload_n X dX12_reads_13 1 rfl ?_
    refine z_iconst (v := (3 : Int32)) X dX12_reads_14 rfl ?_
    refine z_icmp_ge (tgt := 31) X dX12_reads_15 (by decide) (fun c15 => ?_) (fun c15 => ?_)
    · replace h := zif_t h c15
      refine z_aload_n X dX12_reads_31 0 rfl ?_
      obtain ⟨o32, ho32, h⟩ := zbind_of h
      refine z_callVi (st := []) (ws2 := [wX12 (zcT C) aO sO]) X (metX12_isAimText (zcl C) (zcD C) (zcT C) aO ho32) zmX12_isAimText zw1502 dX12_reads_32 0 0 13 rfl rfl rfl rfl [0] rfl rfl [] rfl (by decide) trivial rfl rfl rfl (Nat.le_of_ble_eq_true rfl) rfl rfl ⟨Nat.le_of_ble_eq_true rfl, Nat.le_of_ble_eq_true rfl⟩ ⟨Nat.le_of_ble_eq_true rfl, Nat.le_of_ble_eq_true rfl⟩ ?_
      refine z_if_eq (tgt := 45) X dX12_reads_35 (by decide) (fun c35 => ?_) (fun c35 => ?_)
      · replace h := zif_t h c35
        refine z_aload_n X dX12_reads_45 0 rfl ?_
        obtain ⟨o46, ho46, h⟩ := zbind_of h
        refine z_callVi (st := []) (ws2 := [wX12 (zcT C) aO o46.2]) X (metX12_readsSum (zcl C) (zcD C) (zcT C) aO ho46) zmX12_readsSum zw1522 dX12_reads_46 0 0 13 rfl rfl rfl rfl [0] rfl rfl [0] rfl (by decide) ⟨zsX12 , trivial⟩ rfl rfl rfl (Nat.le_of_ble_eq_true rfl) rfl rfl ⟨Nat.le_of_ble_eq_true rfl, Nat.le_of_ble_eq_true rfl⟩ ⟨Nat.le_of_ble_eq_true rfl, Nat.le_of_ble_eq_true rfl⟩ ?_
        refine z_if_eq (tgt := 77) X dX12_reads_49 (by decide) (fun c49 => ?_) (fun c49 => ?_)
        · replace h := zif_t h c49
          exact z_at (pc2 := 77) (lv2 := [(0, .ref (aO 0))]) (st2 := []) (ws2 := [wX12 (zcT C) aO o46.2]) rfl rfl rfl [0] rfl (bX12_reads_77 X hQ  h)
        · replace h := zif_f h c49
          refine z_aload_n X dX12_reads_52 0 rfl ?_
          obtain ⟨o53, ho53, h⟩ := zbind_of h
          refine z_callVi (st := []) (ws2 := [wX12 (zcT C) aO o53.2]) X (metX12_readsRelation (zcl C) (zcD C) (zcT C) aO ho53) zmX12_readsRelation zw1534 dX12_reads_53 0 0 13 rfl rfl rfl rfl [0] rfl rfl [0] rfl (by decide) ⟨zsX12 , trivial⟩ rfl rfl rfl (Nat.le_of_ble_eq_true rfl) rfl rfl ⟨Nat.le_of_ble_eq_true rfl, Nat.le_of_ble_eq_true rfl⟩ ⟨Nat.le_of_ble_eq_true rfl, Nat.le_of_ble_eq_true rfl⟩ ?_
          refine z_if_eq (tgt := 77) X dX12_reads_56 (by decide) (fun c56 => ?_) (fun c56 => ?_)
          · replace h := zif_t h c56
            exact z_at (pc2 := 77) (lv2 := [(0, .ref (aO 0))]) (st2 := []) (ws2 := [wX12 (zcT C) aO o53.2]) rfl rfl rfl [0] rfl (bX12_reads_77 X hQ  h)
          · replace h := zif_f h c56
            refine z_aload_n X dX12_reads_59 0 rfl ?_
            obtain ⟨o60, ho60, h⟩ := zbind_of h
            refine z_callVi (st := []) (ws2 := [wX12 (zcT C) aO o60.2]) X (metX12_readsNumber (zcl C) (zcD C) (zcT C) aO ho60) zmX12_readsNumber zw1538 dX12_reads_60 0 0 13 rfl rfl rfl rfl [0] rfl rfl [0] rfl (by decide) ⟨zsX12 , trivial⟩ rfl rfl rfl (Nat.le_of_ble_eq_true rfl) rfl rfl ⟨Nat.le_of_ble_eq_true rfl, Nat.le_of_ble_eq_true rfl⟩ ⟨Nat.le_of_ble_eq_true rfl, Nat.le_of_ble_eq_true rfl⟩ ?_
            refine z_if_eq (tgt := 77) X dX12_reads_63 (by decide) (fun c63 => ?_) (fun c63 => ?_)
            · replace h := zif_t h c63
              exact z_at (pc2 := 77) (lv2 := [(0, .ref (aO 0))]) (st2 := []) (ws2 := [wX12 (zcT C) aO o60.2]) rfl rfl rfl [0] rfl (bX12_reads_77 X hQ  h)
            · replace h := zif_f h c63
              refine z_aload_n X dX12_reads_66 0 rfl ?_
              obtain ⟨o67, ho67, h⟩ := zbind_of h
              refine z_callVi (st := []) (ws2 := [wX12 (zcT C) aO o67.2]) X (metX12_readsEnd (zcl C) (zcD C) (zcT C) aO ho67) zmX12_readsEnd zw1530 dX12_reads_67 0 0 13 rfl rfl rfl rfl [0] rfl rfl [0] rfl (by decide) ⟨zsX12 , trivial⟩ rfl rfl rfl (Nat.le_of_ble_eq_true rfl) rfl rfl ⟨Nat.le_of_ble_eq_true rfl, Nat.le_of_ble_eq_true rfl⟩ ⟨Nat.le_of_ble_eq_true rfl, Nat.le_of_ble_eq_true rfl⟩ ?_
              refine z_if_eq (tgt := 77) X dX12_reads_70 (by decide) (fun c70 => ?_) (fun c70 => ?_)
              · replace h := zif_t h c70
                exact z_at (pc2 := 77) (lv2 := [(0, .ref (aO 0))]) (st2 := []) (ws2 := [wX12 (zcT C) aO o67.2]) rfl rfl rfl [0] rfl (bX12_reads_77 X hQ  h)
              · replace h := zif_f h c70
                refine z_iconst (v := (1 : Int32)) X dX12_reads_73 rfl ?_
                refine z_goto (tgt := 78) X dX12_reads_74 (by decide) ?_
                exact z_at (pc2 := 78) (lv2 := [(0, .ref (aO 0))]) (st2 := [.int (1 : Int32)]) (ws2 := [wX12 (zcT C) aO o67.2]) rfl rfl rfl [0] rfl (bX12_reads_78 X hQ  h)
      · replace h := zif_f h c35
        refine z_aload_n X dX12_reads_38 0 rfl ?_
        obtain ⟨o39, ho39, h⟩ := zbind_of h
        refine z_callVi (st := []) (ws2 := [wX12 (zcT C) aO o39.2]) X (metX12_readsAim (zcl C) (zcD C) (zcT C) aO ho39) zmX12_readsAim zw1506 dX12_reads_39 0 0 13 rfl rfl rfl rfl [0] rfl rfl [0] rfl (by decide) ⟨zsX12 , trivial⟩ rfl rfl rfl (Nat.le_of_ble_eq_true rfl) rfl rfl ⟨Nat.le_of_ble_eq_true rfl, Nat.le_of_ble_eq_true rfl⟩ ⟨Nat.le_of_ble_eq_true rfl, Nat.le_of_ble_eq_true rfl⟩ ?_
        refine z_goto (tgt := 78) X dX12_reads_42 (by decide) ?_
        exact z_at (pc2 := 78) (lv2 := [(0, .ref (aO 0))]) (st2 := [.int o39.1]) (ws2 := [wX12 (zcT C) aO o39.2]) rfl rfl rfl [0] rfl (bX12_reads_78 X hQ  h)
    · replace h := zif_f h c15
      refine z_aload_n X dX12_reads_18 0 rfl ?_
      refine z_get (v := .ref (aO 15)) X 0 0 13 14 ziX12 rfl (by decide) zw1350 rfl dX12_reads_19 rfl rfl rfl ?_
      refine z_iload_n X dX12_reads_22 1 rfl ?_
      refine z_iconst (v := (0 : Int32)) X dX12_reads_23 rfl ?_
      obtain ⟨g24, h⟩ := zgd_of h
      obtain ⟨sO24, esO24, h⟩ := zlet_of h
      refine z_iast (ws2 := [wX12 (zcT C) aO sO24]) X 0 10 g24 dX12_reads_24 rfl rfl (by decide) (w2 := wX12 (zcT C) aO sO24) (by rw [esO24]; rfl) rfl ?_
      obtain ⟨v25, ev25, h⟩ := zlet_of h
      refine z_iinc (v := v25) (lv2 := [(1, .int v25), (0, .ref (aO 0))]) X dX12_reads_25 (k := 1) rfl (by rw [ev25]; rfl) (by decide) rfl ?_
      refine z_goto (tgt := 13) X dX12_reads_28 (by decide) ?_
      exact z_at (pc2 := 13) (lv2 := [(0, .ref (aO 0)), (1, .int v25)]) (st2 := []) (ws2 := [wX12 (zcT C) aO sO24]) rfl rfl rfl [1, 0] rfl (ih sO24 v25 h)
theorem bX12_reads_0 {C : zCtx} (X : zFx C cX12_reads 2 RX12 rmX12_reads none) {aO : Nat → Nat} {sO : zSt} {out : zSt} (hQ : zHv C [wX12 (zcT C) aO out] 0 0) (h : fX12_reads sO = some out) : zG C 2 [0] 0 0 [wX12 (zcT C) aO sO] 0 [(0, .ref (aO 0))] [] := by
  unfold fX12_reads at h
  refine z_aload_n X dX12_reads_0 0 rfl ?_
  refine z_iconst (v := (0 : Int32)) X dX12_reads_1 rfl ?_
  obtain ⟨sO2, esO2, h⟩ := zlet_of h
  refine z_put (ws2 := [wX12 (zcT C) aO sO2]) X 0 0 13 15 ziX12 rfl tyX12 tyX12_ok nmX12 (by decide) zw1351 rfl rfl (ty := .int) (by decide +kernel) rfl rfl (by show 15 < 40; decide) dX12_reads_2 rfl rfl (by decide) (w2 := wX12 (zcT C) aO sO2) (by rw [esO2]; rfl) rfl ?_
  refine z_aload_n X dX12_reads_5 0 rfl ?_
  refine z_bipush (v := (45 : Int32)) X dX12_reads_6 rfl ?_
  obtain ⟨sO8, esO8, h⟩ := zlet_of h
  refine z_put (ws2 := [wX12 (zcT C) aO sO8]) X 0 0 13 18 ziX12 rfl tyX12 tyX12_ok nmX12 (by decide) zw1354 rfl rfl (ty := .char) (by decide +kernel) rfl rfl (by show 18 < 40; decide) dX12_reads_8 rfl rfl (by decide) (w2 := wX12 (zcT C) aO sO8) (by rw [esO8]; rfl) rfl ?_
  refine z_iconst (v := (0 : Int32)) X dX12_reads_11 rfl ?_
  refine z_istore_n (lv2 := [(1, .int (0 : Int32)), (0, .ref (aO 0))]) X dX12_reads_12 rfl (by decide) rfl ?_
  exact z_at (pc2 := 13) (lv2 := [(0, .ref (aO 0)), (1, .int (0 : Int32))]) (st2 := []) (ws2 := [wX12 (zcT C) aO sO8]) rfl rfl rfl [1, 0] rfl (bX12_reads_13 X hQ  6000 sO8 (0 : Int32) h)
theorem metX12_reads (l : Launch) (D : va_G) (T : Nat → ClassId) (aO : Nat → Nat) {sO : zSt} {out : zSt} (hf : fX12_reads sO = some out) (sz : Nat) : Met l yX12_reads (zws yX12_reads cX12_reads 2 none) rmX12_reads (zPc D T [.ref (aO 0)] [wX12 T aO sO] sz) (zQv D [wX12 T aO out] (zA [wX12 T aO sO] sz)) 0 0 (zA [wX12 T aO sO] sz) :=
  zMet (D := D) (T := T) (av := [.ref (aO 0)]) (ws := fun T => [wX12 T aO sO]) (wm := fun T => [wX12 T aO sO]) (lv0 := [(0, .ref (aO 0))]) [0] (Qc := fun D T A => zQv D [wX12 T aO out] A) (by decide +kernel) rfl (Nat.le_of_ble_eq_true rfl) rfl (fun C X hQ => bX12_reads_0 X hQ hf) sz
/-- public char fault(); of TableaufloorModel -/
abbrev rmX12_fault : Room := { frames := 5, cells := 0, slots := 0, locals := 107 }
def fX12_fault (sO : zSt) : Option (Int32 × zSt) :=
  (zlet (zsi sO 9 (0 : Int32)) (fun sO2 =>
    ((fX12_reads sO2).bind (fun o6 =>
    (if znar .char (zgi o6 18) = true then
    some ((zgi o6 18), o6) else none)))))
theorem bX12_fault_0 {C : zCtx} (X : zFx C cX12_fault 1 RX12 rmX12_fault (some .char)) {aO : Nat → Nat} {sO : zSt} {out : Int32 × zSt} (hQ : zHi C out.1 [wX12 (zcT C) aO out.2] 0 0) (h : fX12_fault sO = some out) : zG C 1 [0] 0 0 [wX12 (zcT C) aO sO] 0 [(0, .ref (aO 0))] [] := by
  unfold fX12_fault at h
  refine z_aload_n X dX12_fault_0 0 rfl ?_
  refine z_iconst (v := (0 : Int32)) X dX12_fault_1 rfl ?_
  obtain ⟨sO2, esO2, h⟩ := zlet_of h
  refine z_put (ws2 := [wX12 (zcT C) aO sO2]) X 0 0 13 9 ziX12 rfl tyX12 tyX12_ok nmX12 (by decide) zw1345 rfl rfl (ty := .int) (by decide +kernel) rfl rfl (by show 9 < 40; decide) dX12_fault_2 rfl rfl (by decide) (w2 := wX12 (zcT C) aO sO2) (by rw [esO2]; rfl) rfl ?_
  refine z_aload_n X dX12_fault_5 0 rfl ?_
  obtain ⟨o6, ho6, h⟩ := zbind_of h
  refine z_callVv (st := []) (ws2 := [wX12 (zcT C) aO o6]) X (metX12_reads (zcl C) (zcD C) (zcT C) aO ho6) zmX12_reads zw1498 dX12_fault_6 0 0 13 rfl rfl rfl rfl [0] rfl rfl [0] rfl (by decide) ⟨zsX12 , trivial⟩ rfl rfl rfl (Nat.le_of_ble_eq_true rfl) rfl rfl ⟨Nat.le_of_ble_eq_true rfl, Nat.le_of_ble_eq_true rfl⟩ ⟨Nat.le_of_ble_eq_true rfl, Nat.le_of_ble_eq_true rfl⟩ ?_
  refine z_aload_n X dX12_fault_9 0 rfl ?_
  refine z_get (v := .int (zgi o6 18)) X 0 0 13 18 ziX12 rfl (by decide) zw1354 rfl dX12_fault_10 rfl rfl rfl ?_
  obtain ⟨g13, h⟩ := zgd_of h
  cases h
  exact z_nret X hQ g13 dX12_fault_13 rfl [0] rfl (by decide) (by decide)
theorem metX12_fault (l : Launch) (D : va_G) (T : Nat → ClassId) (aO : Nat → Nat) {sO : zSt} {out : Int32 × zSt} (hf : fX12_fault sO = some out) (sz : Nat) : Met l yX12_fault (zws yX12_fault cX12_fault 1 (some .char)) rmX12_fault (zPc D T [.ref (aO 0)] [wX12 T aO sO] sz) (zQi D out.1 [wX12 T aO out.2] (zA [wX12 T aO sO] sz)) 0 0 (zA [wX12 T aO sO] sz) :=
  zMet (D := D) (T := T) (av := [.ref (aO 0)]) (ws := fun T => [wX12 T aO sO]) (wm := fun T => [wX12 T aO sO]) (lv0 := [(0, .ref (aO 0))]) [0] (Qc := fun D T A => zQi D out.1 [wX12 T aO out.2] A) (by decide +kernel) rfl (Nat.le_of_ble_eq_true rfl) rfl (fun C X hQ => bX12_fault_0 X hQ hf) sz
/-- public int faultAt(); of TableaufloorModel -/
abbrev rmX12_faultAt : Room := { frames := 5, cells := 0, slots := 0, locals := 107 }
def fX12_faultAt_33 (sO : zSt) (y0 : Int32) : Option (Int32 × zSt) :=
  some (y0, sO)
def fX12_faultAt_19 (sO : zSt) (y1 : Int32) : Option (Int32 × zSt) :=
  ((fX12_checked sO y1).bind (fun o19 =>
    (if o19.1 ≤ 0 then
    (fX12_faultAt_33 o19.2 (zgi o19.2 15))
  else
    (fX12_faultAt_33 o19.2 (0 : Int32)))))
def fX12_faultAt (sO : zSt) : Option (Int32 × zSt) :=
  ((fX12_reads sO).bind (fun o1 =>
    (if (zgi o1 18) = (45 : Int32) then
    (fX12_faultAt_19 o1 (0 : Int32))
  else
    (fX12_faultAt_19 o1 (1 : Int32)))))
theorem bX12_faultAt_33 {C : zCtx} (X : zFx C cX12_faultAt 1 RX12 rmX12_faultAt (some .int)) {aO : Nat → Nat} {sO : zSt} {y0 : Int32} {out : Int32 × zSt} (hQ : zHi C out.1 [wX12 (zcT C) aO out.2] 0 0) (h : fX12_faultAt_33 sO y0 = some out) : zG C 1 [0] 0 0 [wX12 (zcT C) aO sO] 33 [] [.int y0] := by
  unfold fX12_faultAt_33 at h
  cases h
  exact z_iret X hQ dX12_faultAt_33 rfl [0] rfl (by decide) (by decide)
theorem bX12_faultAt_19 {C : zCtx} (X : zFx C cX12_faultAt 1 RX12 rmX12_faultAt (some .int)) {aO : Nat → Nat} {sO : zSt} {y1 : Int32} {out : Int32 × zSt} (hQ : zHi C out.1 [wX12 (zcT C) aO out.2] 0 0) (h : fX12_faultAt_19 sO y1 = some out) : zG C 1 [0] 0 0 [wX12 (zcT C) aO sO] 19 [(0, .ref (aO 0))] [.int y1, .ref (aO 0)] := by
  unfold fX12_faultAt_19 at h
  obtain ⟨o19, ho19, h⟩ := zbind_of h
  refine z_callVi (st := []) (ws2 := [wX12 (zcT C) aO o19.2]) X (metX12_checked (zcl C) (zcD C) (zcT C) aO ho19) zmX12_checked zw1550 dX12_faultAt_19 0 0 13 rfl rfl rfl rfl [0] rfl rfl [0] rfl (by decide) ⟨zsX12 , trivial⟩ rfl rfl rfl (Nat.le_of_ble_eq_true rfl) rfl rfl ⟨Nat.le_of_ble_eq_true rfl, Nat.le_of_ble_eq_true rfl⟩ ⟨Nat.le_of_ble_eq_true rfl, Nat.le_of_ble_eq_true rfl⟩ ?_
  refine z_if_le (tgt := 29) X dX12_faultAt_22 (by decide) (fun c22 => ?_) (fun c22 => ?_)
  · replace h := zif_t h c22
    refine z_aload_n X dX12_faultAt_29 0 rfl ?_
    refine z_get (v := .int (zgi o19.2 15)) X 0 0 13 15 ziX12 rfl (by decide) zw1351 rfl dX12_faultAt_30 rfl rfl rfl ?_
    exact z_at (pc2 := 33) (lv2 := []) (st2 := [.int (zgi o19.2 15)]) (ws2 := [wX12 (zcT C) aO o19.2]) rfl rfl rfl [] rfl (bX12_faultAt_33 X hQ  h)
  · replace h := zif_f h c22
    refine z_iconst (v := (0 : Int32)) X dX12_faultAt_25 rfl ?_
    refine z_goto (tgt := 33) X dX12_faultAt_26 (by decide) ?_
    exact z_at (pc2 := 33) (lv2 := []) (st2 := [.int (0 : Int32)]) (ws2 := [wX12 (zcT C) aO o19.2]) rfl rfl rfl [] rfl (bX12_faultAt_33 X hQ  h)
theorem bX12_faultAt_0 {C : zCtx} (X : zFx C cX12_faultAt 1 RX12 rmX12_faultAt (some .int)) {aO : Nat → Nat} {sO : zSt} {out : Int32 × zSt} (hQ : zHi C out.1 [wX12 (zcT C) aO out.2] 0 0) (h : fX12_faultAt sO = some out) : zG C 1 [0] 0 0 [wX12 (zcT C) aO sO] 0 [(0, .ref (aO 0))] [] := by
  unfold fX12_faultAt at h
  refine z_aload_n X dX12_faultAt_0 0 rfl ?_
  obtain ⟨o1, ho1, h⟩ := zbind_of h
  refine z_callVv (st := []) (ws2 := [wX12 (zcT C) aO o1]) X (metX12_reads (zcl C) (zcD C) (zcT C) aO ho1) zmX12_reads zw1498 dX12_faultAt_1 0 0 13 rfl rfl rfl rfl [0] rfl rfl [0] rfl (by decide) ⟨zsX12 , trivial⟩ rfl rfl rfl (Nat.le_of_ble_eq_true rfl) rfl rfl ⟨Nat.le_of_ble_eq_true rfl, Nat.le_of_ble_eq_true rfl⟩ ⟨Nat.le_of_ble_eq_true rfl, Nat.le_of_ble_eq_true rfl⟩ ?_
  refine z_aload_n X dX12_faultAt_4 0 rfl ?_
  refine z_aload_n X dX12_faultAt_5 0 rfl ?_
  refine z_get (v := .int (zgi o1 18)) X 0 0 13 18 ziX12 rfl (by decide) zw1354 rfl dX12_faultAt_6 rfl rfl rfl ?_
  refine z_bipush (v := (45 : Int32)) X dX12_faultAt_9 rfl ?_
  refine z_icmp_eq (tgt := 18) X dX12_faultAt_11 (by decide) (fun c11 => ?_) (fun c11 => ?_)
  · replace h := zif_t h c11
    refine z_iconst (v := (0 : Int32)) X dX12_faultAt_18 rfl ?_
    exact z_at (pc2 := 19) (lv2 := [(0, .ref (aO 0))]) (st2 := [.int (0 : Int32), .ref (aO 0)]) (ws2 := [wX12 (zcT C) aO o1]) rfl rfl rfl [0] rfl (bX12_faultAt_19 X hQ  h)
  · replace h := zif_f h c11
    refine z_iconst (v := (1 : Int32)) X dX12_faultAt_14 rfl ?_
    refine z_goto (tgt := 19) X dX12_faultAt_15 (by decide) ?_
    exact z_at (pc2 := 19) (lv2 := [(0, .ref (aO 0))]) (st2 := [.int (1 : Int32), .ref (aO 0)]) (ws2 := [wX12 (zcT C) aO o1]) rfl rfl rfl [0] rfl (bX12_faultAt_19 X hQ  h)
theorem metX12_faultAt (l : Launch) (D : va_G) (T : Nat → ClassId) (aO : Nat → Nat) {sO : zSt} {out : Int32 × zSt} (hf : fX12_faultAt sO = some out) (sz : Nat) : Met l yX12_faultAt (zws yX12_faultAt cX12_faultAt 1 (some .int)) rmX12_faultAt (zPc D T [.ref (aO 0)] [wX12 T aO sO] sz) (zQi D out.1 [wX12 T aO out.2] (zA [wX12 T aO sO] sz)) 0 0 (zA [wX12 T aO sO] sz) :=
  zMet (D := D) (T := T) (av := [.ref (aO 0)]) (ws := fun T => [wX12 T aO sO]) (wm := fun T => [wX12 T aO sO]) (lv0 := [(0, .ref (aO 0))]) [0] (Qc := fun D T A => zQi D out.1 [wX12 T aO out.2] A) (by decide +kernel) rfl (Nat.le_of_ble_eq_true rfl) rfl (fun C X hQ => bX12_faultAt_0 X hQ hf) sz
/-- public boolean isAim(); of TableaufloorModel -/
abbrev rmX12_isAim : Room := { frames := 1, cells := 0, slots := 0, locals := 20 }
def fX12_isAim (sO : zSt) : Option (Int32 × zSt) :=
  (zlet (zsi sO 9 (0 : Int32)) (fun sO2 =>
    ((fX12_isAimText sO2).bind (fun o6 =>
    (if znar .boolean o6 = true then
    some (o6, sO2) else none)))))
theorem bX12_isAim_0 {C : zCtx} (X : zFx C cX12_isAim 1 RX12 rmX12_isAim (some .boolean)) {aO : Nat → Nat} {sO : zSt} {out : Int32 × zSt} (hQ : zHi C out.1 [wX12 (zcT C) aO out.2] 0 0) (h : fX12_isAim sO = some out) : zG C 1 [0] 0 0 [wX12 (zcT C) aO sO] 0 [(0, .ref (aO 0))] [] := by
  unfold fX12_isAim at h
  refine z_aload_n X dX12_isAim_0 0 rfl ?_
  refine z_iconst (v := (0 : Int32)) X dX12_isAim_1 rfl ?_
  obtain ⟨sO2, esO2, h⟩ := zlet_of h
  refine z_put (ws2 := [wX12 (zcT C) aO sO2]) X 0 0 13 9 ziX12 rfl tyX12 tyX12_ok nmX12 (by decide) zw1345 rfl rfl (ty := .int) (by decide +kernel) rfl rfl (by show 9 < 40; decide) dX12_isAim_2 rfl rfl (by decide) (w2 := wX12 (zcT C) aO sO2) (by rw [esO2]; rfl) rfl ?_
  refine z_aload_n X dX12_isAim_5 0 rfl ?_
  obtain ⟨o6, ho6, h⟩ := zbind_of h
  refine z_callVi (st := []) (ws2 := [wX12 (zcT C) aO sO2]) X (metX12_isAimText (zcl C) (zcD C) (zcT C) aO ho6) zmX12_isAimText zw1502 dX12_isAim_6 0 0 13 rfl rfl rfl rfl [0] rfl rfl [] rfl (by decide) trivial rfl rfl rfl (Nat.le_of_ble_eq_true rfl) rfl rfl ⟨Nat.le_of_ble_eq_true rfl, Nat.le_of_ble_eq_true rfl⟩ ⟨Nat.le_of_ble_eq_true rfl, Nat.le_of_ble_eq_true rfl⟩ ?_
  obtain ⟨g9, h⟩ := zgd_of h
  cases h
  exact z_nret X hQ g9 dX12_isAim_9 rfl [0] rfl (by decide) (by decide)
theorem metX12_isAim (l : Launch) (D : va_G) (T : Nat → ClassId) (aO : Nat → Nat) {sO : zSt} {out : Int32 × zSt} (hf : fX12_isAim sO = some out) (sz : Nat) : Met l yX12_isAim (zws yX12_isAim cX12_isAim 1 (some .boolean)) rmX12_isAim (zPc D T [.ref (aO 0)] [wX12 T aO sO] sz) (zQi D out.1 [wX12 T aO out.2] (zA [wX12 T aO sO] sz)) 0 0 (zA [wX12 T aO sO] sz) :=
  zMet (D := D) (T := T) (av := [.ref (aO 0)]) (ws := fun T => [wX12 T aO sO]) (wm := fun T => [wX12 T aO sO]) (lv0 := [(0, .ref (aO 0))]) [0] (Qc := fun D T A => zQi D out.1 [wX12 T aO out.2] A) (by decide +kernel) rfl (Nat.le_of_ble_eq_true rfl) rfl (fun C X hQ => bX12_isAim_0 X hQ hf) sz
/-- private int leftRows(); of TableaufloorModel -/
abbrev rmX12_leftRows : Room := { frames := 0, cells := 0, slots := 0, locals := 0 }
def fX12_leftRows_27 (sO : zSt) (k4 : Int32 → Int32 → Option (Int32)) (x2 : Int32) (y0 : Int32) (y1 : Int32) : Option (Int32) :=
  (zlet (y0 + y1) (fun v28 =>
    (zlet (x2 + 1) (fun v29 =>
    (k4 v28 v29)))))
def fX12_leftRows_4 (sO : zSt) : Nat → Int32 → Int32 → Option (Int32)
  | 0, _, _ => none
  | n + 1, x1, x2 =>
    (if (zgi sO 11) ≤ x2 then
      some (x1)
    else
      (if zin x2 12 = true then
        (if (zga sO 6 (x2).toNatClampNeg) = 0 then
        (fX12_leftRows_27 sO (fX12_leftRows_4 sO n) x2 x1 (1 : Int32))
      else
        (fX12_leftRows_27 sO (fX12_leftRows_4 sO n) x2 x1 (0 : Int32))) else none))
def fX12_leftRows (sO : zSt) : Option (Int32) :=
  (fX12_leftRows_4 sO 6000 (0 : Int32) (0 : Int32))
theorem bX12_leftRows_27 {C : zCtx} (X : zFx C cX12_leftRows 3 RX12 rmX12_leftRows (some .int)) {aO : Nat → Nat} {sO : zSt} {k4 : Int32 → Int32 → Option (Int32)} {x2 : Int32} {y0 : Int32} {y1 : Int32} {out : Int32} (hQ : zHi C out [] 0 0) (hk4 : ∀ (x1 : Int32) (x2 : Int32), k4 x1 x2 = some out → zG C 3 [] 0 0 [wX12 (zcT C) aO sO] 4 [(0, .ref (aO 0)), (1, .int x1), (2, .int x2)] []) (h : fX12_leftRows_27 sO k4 x2 y0 y1 = some out) : zG C 3 [] 0 0 [wX12 (zcT C) aO sO] 27 [(0, .ref (aO 0)), (2, .int x2)] [.int y1, .int y0] := by
  unfold fX12_leftRows_27 at h
  refine z_iadd X dX12_leftRows_27 ?_
  obtain ⟨v28, ev28, h⟩ := zlet_of h
  refine z_topi ev28 ?_
  refine z_istore_n (lv2 := [(1, .int v28), (0, .ref (aO 0)), (2, .int x2)]) X dX12_leftRows_28 rfl (by decide) rfl ?_
  obtain ⟨v29, ev29, h⟩ := zlet_of h
  refine z_iinc (v := v29) (lv2 := [(2, .int v29), (1, .int v28), (0, .ref (aO 0))]) X dX12_leftRows_29 (k := 2) rfl (by rw [ev29]; rfl) (by decide) rfl ?_
  refine z_goto (tgt := 4) X dX12_leftRows_32 (by decide) ?_
  exact z_at (pc2 := 4) (lv2 := [(0, .ref (aO 0)), (1, .int v28), (2, .int v29)]) (st2 := []) (ws2 := [wX12 (zcT C) aO sO]) rfl rfl rfl [2, 1, 0] rfl (hk4 v28 v29 h)
theorem bX12_leftRows_4 {C : zCtx} (X : zFx C cX12_leftRows 3 RX12 rmX12_leftRows (some .int)) {aO : Nat → Nat} {sO : zSt} {out : Int32} (hQ : zHi C out [] 0 0) : ∀ (n : Nat) (x1 : Int32) (x2 : Int32), fX12_leftRows_4 sO n x1 x2 = some out → zG C 3 [] 0 0 [wX12 (zcT C) aO sO] 4 [(0, .ref (aO 0)), (1, .int x1), (2, .int x2)] [] := by
  intro n
  induction n with
  | zero =>
    intro x1 x2 h
    rw [fX12_leftRows_4] at h
    exact zno h
  | succ n ih =>
    intro x1 x2 h
    rw [fX12_leftRows_4] at h
    refine z_iload_n X dX12_leftRows_4 2 rfl ?_
    refine z_aload_n X dX12_leftRows_5 0 rfl ?_
    refine z_get (v := .int (zgi sO 11)) X 0 0 13 11 ziX12 rfl (by decide) zw1347 rfl dX12_leftRows_6 rfl rfl rfl ?_
    refine z_icmp_ge (tgt := 35) X dX12_leftRows_9 (by decide) (fun c9 => ?_) (fun c9 => ?_)
    · replace h := zif_t h c9
      refine z_iload_n X dX12_leftRows_35 1 rfl ?_
      cases h
      exact z_iret X hQ dX12_leftRows_36 rfl [] rfl (by decide) (by decide)
    · replace h := zif_f h c9
      refine z_iload_n X dX12_leftRows_12 1 rfl ?_
      refine z_aload_n X dX12_leftRows_13 0 rfl ?_
      refine z_get (v := .ref (aO 7)) X 0 0 13 6 ziX12 rfl (by decide) zw1342 rfl dX12_leftRows_14 rfl rfl rfl ?_
      refine z_iload_n X dX12_leftRows_17 2 rfl ?_
      obtain ⟨g18, h⟩ := zgd_of h
      refine z_zald X 0 7 g18 dX12_leftRows_18 rfl rfl ?_
      refine z_if_eq (tgt := 26) X dX12_leftRows_19 (by decide) (fun c19 => ?_) (fun c19 => ?_)
      · replace h := zif_t h c19
        refine z_iconst (v := (1 : Int32)) X dX12_leftRows_26 rfl ?_
        exact z_at (pc2 := 27) (lv2 := [(0, .ref (aO 0)), (2, .int x2)]) (st2 := [.int (1 : Int32), .int x1]) (ws2 := [wX12 (zcT C) aO sO]) rfl rfl rfl [0, 2] rfl (bX12_leftRows_27 X hQ ih h)
      · replace h := zif_f h c19
        refine z_iconst (v := (0 : Int32)) X dX12_leftRows_22 rfl ?_
        refine z_goto (tgt := 27) X dX12_leftRows_23 (by decide) ?_
        exact z_at (pc2 := 27) (lv2 := [(0, .ref (aO 0)), (2, .int x2)]) (st2 := [.int (0 : Int32), .int x1]) (ws2 := [wX12 (zcT C) aO sO]) rfl rfl rfl [0, 2] rfl (bX12_leftRows_27 X hQ ih h)
theorem bX12_leftRows_0 {C : zCtx} (X : zFx C cX12_leftRows 3 RX12 rmX12_leftRows (some .int)) {aO : Nat → Nat} {sO : zSt} {out : Int32} (hQ : zHi C out [] 0 0) (h : fX12_leftRows sO = some out) : zG C 3 [] 0 0 [wX12 (zcT C) aO sO] 0 [(0, .ref (aO 0))] [] := by
  unfold fX12_leftRows at h
  refine z_iconst (v := (0 : Int32)) X dX12_leftRows_0 rfl ?_
  refine z_istore_n (lv2 := [(1, .int (0 : Int32)), (0, .ref (aO 0))]) X dX12_leftRows_1 rfl (by decide) rfl ?_
  refine z_iconst (v := (0 : Int32)) X dX12_leftRows_2 rfl ?_
  refine z_istore_n (lv2 := [(2, .int (0 : Int32)), (1, .int (0 : Int32)), (0, .ref (aO 0))]) X dX12_leftRows_3 rfl (by decide) rfl ?_
  exact z_at (pc2 := 4) (lv2 := [(0, .ref (aO 0)), (1, .int (0 : Int32)), (2, .int (0 : Int32))]) (st2 := []) (ws2 := [wX12 (zcT C) aO sO]) rfl rfl rfl [2, 1, 0] rfl (bX12_leftRows_4 X hQ  6000 (0 : Int32) (0 : Int32) h)
theorem metX12_leftRows (l : Launch) (D : va_G) (T : Nat → ClassId) (aO : Nat → Nat) {sO : zSt} {out : Int32} (hf : fX12_leftRows sO = some out) (sz : Nat) : Met l yX12_leftRows (zws yX12_leftRows cX12_leftRows 3 (some .int)) rmX12_leftRows (zPc D T [.ref (aO 0)] [wX12 T aO sO] sz) (zQi D out [] (zA [] sz)) 0 0 (zA [] sz) :=
  zMet (D := D) (T := T) (av := [.ref (aO 0)]) (ws := fun T => [wX12 T aO sO]) (wm := fun T => []) (lv0 := [(0, .ref (aO 0))]) [] (Qc := fun D T A => zQi D out [] A) (by decide +kernel) rfl (Nat.le_of_ble_eq_true rfl) rfl (fun C X hQ => bX12_leftRows_0 X hQ hf) sz
/-- private int tellsAim(); of TableaufloorModel -/
abbrev rmX12_tellsAim : Room := { frames := 0, cells := 0, slots := 0, locals := 0 }
def fX12_tellsAim_56 (sO : zSt) (y1 : Int32) (y2 : Int32) : Option (Int32 × zSt) :=
  (if zin y1 3 = true then
    (zlet (zsa sO 7 (upd (zga sO 7) (y1).toNatClampNeg (vp_nar .boolean y2))) (fun sO56 =>
    (zlet (zsi sO56 12 ((zgi sO56 12) + (1 : Int32))) (fun sO64 =>
    some (((zgi sO64 12) - (1 : Int32)), sO64))))) else none)
def fX12_tellsAim_2 : Nat → zSt → Int32 → Option (Int32 × zSt)
  | 0, _, _ => none
  | n + 1, sO, x1 =>
    (if (3 : Int32) ≤ x1 then
      (if zin (1 : Int32) 30 = true then
        (if (zga sO 8 ((1 : Int32)).toNatClampNeg) = (97 : Int32) then
        (fX12_tellsAim_56 sO (zgi sO 12) (1 : Int32))
      else
        (fX12_tellsAim_56 sO (zgi sO 12) (0 : Int32))) else none)
    else
      (if zin x1 3 = true then
        (if zin (((3 : Int32) * (zgi sO 12)) + x1) 9 = true then
        (zlet (zsa sO 5 (upd (zga sO 5) ((((3 : Int32) * (zgi sO 12)) + x1)).toNatClampNeg (zga sO 14 (x1).toNatClampNeg))) (fun sO25 =>
        (zlet (x1 + 1) (fun v26 =>
        (fX12_tellsAim_2 n sO25 v26))))) else none) else none))
def fX12_tellsAim (sO : zSt) : Option (Int32 × zSt) :=
  (fX12_tellsAim_2 6000 sO (0 : Int32))
theorem bX12_tellsAim_56 {C : zCtx} (X : zFx C cX12_tellsAim 2 RX12 rmX12_tellsAim (some .int)) {aO : Nat → Nat} {sO : zSt} {y1 : Int32} {y2 : Int32} {out : Int32 × zSt} (hQ : zHi C out.1 [wX12 (zcT C) aO out.2] 0 0) (h : fX12_tellsAim_56 sO y1 y2 = some out) : zG C 2 [0] 0 0 [wX12 (zcT C) aO sO] 56 [(0, .ref (aO 0))] [.int y2, .int y1, .ref (aO 8)] := by
  unfold fX12_tellsAim_56 at h
  obtain ⟨g56, h⟩ := zgd_of h
  obtain ⟨sO56, esO56, h⟩ := zlet_of h
  refine z_zast (ws2 := [wX12 (zcT C) aO sO56]) X 0 8 g56 dX12_tellsAim_56 rfl rfl (by decide) (w2 := wX12 (zcT C) aO sO56) (by rw [esO56]; rfl) rfl ?_
  refine z_aload_n X dX12_tellsAim_57 0 rfl ?_
  refine z_dup X dX12_tellsAim_58 rfl ?_
  refine z_get (v := .int (zgi sO56 12)) X 0 0 13 12 ziX12 rfl (by decide) zw1348 rfl dX12_tellsAim_59 rfl rfl rfl ?_
  refine z_iconst (v := (1 : Int32)) X dX12_tellsAim_62 rfl ?_
  refine z_iadd X dX12_tellsAim_63 ?_
  obtain ⟨sO64, esO64, h⟩ := zlet_of h
  refine z_put (ws2 := [wX12 (zcT C) aO sO64]) X 0 0 13 12 ziX12 rfl tyX12 tyX12_ok nmX12 (by decide) zw1348 rfl rfl (ty := .int) (by decide +kernel) rfl rfl (by show 12 < 40; decide) dX12_tellsAim_64 rfl rfl (by decide) (w2 := wX12 (zcT C) aO sO64) (by rw [esO64]; rfl) rfl ?_
  refine z_aload_n X dX12_tellsAim_67 0 rfl ?_
  refine z_get (v := .int (zgi sO64 12)) X 0 0 13 12 ziX12 rfl (by decide) zw1348 rfl dX12_tellsAim_68 rfl rfl rfl ?_
  refine z_iconst (v := (1 : Int32)) X dX12_tellsAim_71 rfl ?_
  refine z_isub X dX12_tellsAim_72 ?_
  cases h
  exact z_iret X hQ dX12_tellsAim_73 rfl [0] rfl (by decide) (by decide)
theorem bX12_tellsAim_2 {C : zCtx} (X : zFx C cX12_tellsAim 2 RX12 rmX12_tellsAim (some .int)) {aO : Nat → Nat} {out : Int32 × zSt} (hQ : zHi C out.1 [wX12 (zcT C) aO out.2] 0 0) : ∀ (n : Nat) (sO : zSt) (x1 : Int32), fX12_tellsAim_2 n sO x1 = some out → zG C 2 [0] 0 0 [wX12 (zcT C) aO sO] 2 [(0, .ref (aO 0)), (1, .int x1)] [] := by
  intro n
  induction n with
  | zero =>
    intro sO x1 h
    rw [fX12_tellsAim_2] at h
    exact zno h
  | succ n ih =>
    intro sO x1 h
    rw [fX12_tellsAim_2] at h
    refine z_iload_n X dX12_tellsAim_2 1 rfl ?_
    refine z_iconst (v := (3 : Int32)) X dX12_tellsAim_3 rfl ?_
    refine z_icmp_ge (tgt := 32) X dX12_tellsAim_4 (by decide) (fun c4 => ?_) (fun c4 => ?_)
    · replace h := zif_t h c4
      refine z_aload_n X dX12_tellsAim_32 0 rfl ?_
      refine z_get (v := .ref (aO 8)) X 0 0 13 7 ziX12 rfl (by decide) zw1343 rfl dX12_tellsAim_33 rfl rfl rfl ?_
      refine z_aload_n X dX12_tellsAim_36 0 rfl ?_
      refine z_get (v := .int (zgi sO 12)) X 0 0 13 12 ziX12 rfl (by decide) zw1348 rfl dX12_tellsAim_37 rfl rfl rfl ?_
      refine z_aload_n X dX12_tellsAim_40 0 rfl ?_
      refine z_get (v := .ref (aO 9)) X 0 0 13 8 ziX12 rfl (by decide) zw1344 rfl dX12_tellsAim_41 rfl rfl rfl ?_
      refine z_iconst (v := (1 : Int32)) X dX12_tellsAim_44 rfl ?_
      obtain ⟨g45, h⟩ := zgd_of h
      refine z_cald X 0 9 g45 dX12_tellsAim_45 rfl rfl ?_
      refine z_bipush (v := (97 : Int32)) X dX12_tellsAim_46 rfl ?_
      refine z_icmp_ne (tgt := 55) X dX12_tellsAim_48 (by decide) (fun c48 => ?_) (fun c48 => ?_)
      · replace h := zif_f h c48
        refine z_iconst (v := (0 : Int32)) X dX12_tellsAim_55 rfl ?_
        exact z_at (pc2 := 56) (lv2 := [(0, .ref (aO 0))]) (st2 := [.int (0 : Int32), .int (zgi sO 12), .ref (aO 8)]) (ws2 := [wX12 (zcT C) aO sO]) rfl rfl rfl [0] rfl (bX12_tellsAim_56 X hQ  h)
      · replace h := zif_t h c48
        refine z_iconst (v := (1 : Int32)) X dX12_tellsAim_51 rfl ?_
        refine z_goto (tgt := 56) X dX12_tellsAim_52 (by decide) ?_
        exact z_at (pc2 := 56) (lv2 := [(0, .ref (aO 0))]) (st2 := [.int (1 : Int32), .int (zgi sO 12), .ref (aO 8)]) (ws2 := [wX12 (zcT C) aO sO]) rfl rfl rfl [0] rfl (bX12_tellsAim_56 X hQ  h)
    · replace h := zif_f h c4
      refine z_aload_n X dX12_tellsAim_7 0 rfl ?_
      refine z_get (v := .ref (aO 6)) X 0 0 13 5 ziX12 rfl (by decide) zw1341 rfl dX12_tellsAim_8 rfl rfl rfl ?_
      refine z_iconst (v := (3 : Int32)) X dX12_tellsAim_11 rfl ?_
      refine z_aload_n X dX12_tellsAim_12 0 rfl ?_
      refine z_get (v := .int (zgi sO 12)) X 0 0 13 12 ziX12 rfl (by decide) zw1348 rfl dX12_tellsAim_13 rfl rfl rfl ?_
      refine z_imul X dX12_tellsAim_16 ?_
      refine z_iload_n X dX12_tellsAim_17 1 rfl ?_
      refine z_iadd X dX12_tellsAim_18 ?_
      refine z_aload_n X dX12_tellsAim_19 0 rfl ?_
      refine z_get (v := .ref (aO 15)) X 0 0 13 14 ziX12 rfl (by decide) zw1350 rfl dX12_tellsAim_20 rfl rfl rfl ?_
      refine z_iload_n X dX12_tellsAim_23 1 rfl ?_
      obtain ⟨g24, h⟩ := zgd_of h
      refine z_iald X 0 10 g24 dX12_tellsAim_24 rfl rfl ?_
      obtain ⟨g25, h⟩ := zgd_of h
      obtain ⟨sO25, esO25, h⟩ := zlet_of h
      refine z_iast (ws2 := [wX12 (zcT C) aO sO25]) X 0 6 g25 dX12_tellsAim_25 rfl rfl (by decide) (w2 := wX12 (zcT C) aO sO25) (by rw [esO25]; rfl) rfl ?_
      obtain ⟨v26, ev26, h⟩ := zlet_of h
      refine z_iinc (v := v26) (lv2 := [(1, .int v26), (0, .ref (aO 0))]) X dX12_tellsAim_26 (k := 1) rfl (by rw [ev26]; rfl) (by decide) rfl ?_
      refine z_goto (tgt := 2) X dX12_tellsAim_29 (by decide) ?_
      exact z_at (pc2 := 2) (lv2 := [(0, .ref (aO 0)), (1, .int v26)]) (st2 := []) (ws2 := [wX12 (zcT C) aO sO25]) rfl rfl rfl [1, 0] rfl (ih sO25 v26 h)
theorem bX12_tellsAim_0 {C : zCtx} (X : zFx C cX12_tellsAim 2 RX12 rmX12_tellsAim (some .int)) {aO : Nat → Nat} {sO : zSt} {out : Int32 × zSt} (hQ : zHi C out.1 [wX12 (zcT C) aO out.2] 0 0) (h : fX12_tellsAim sO = some out) : zG C 2 [0] 0 0 [wX12 (zcT C) aO sO] 0 [(0, .ref (aO 0))] [] := by
  unfold fX12_tellsAim at h
  refine z_iconst (v := (0 : Int32)) X dX12_tellsAim_0 rfl ?_
  refine z_istore_n (lv2 := [(1, .int (0 : Int32)), (0, .ref (aO 0))]) X dX12_tellsAim_1 rfl (by decide) rfl ?_
  exact z_at (pc2 := 2) (lv2 := [(0, .ref (aO 0)), (1, .int (0 : Int32))]) (st2 := []) (ws2 := [wX12 (zcT C) aO sO]) rfl rfl rfl [1, 0] rfl (bX12_tellsAim_2 X hQ  6000 sO (0 : Int32) h)
theorem metX12_tellsAim (l : Launch) (D : va_G) (T : Nat → ClassId) (aO : Nat → Nat) {sO : zSt} {out : Int32 × zSt} (hf : fX12_tellsAim sO = some out) (sz : Nat) : Met l yX12_tellsAim (zws yX12_tellsAim cX12_tellsAim 2 (some .int)) rmX12_tellsAim (zPc D T [.ref (aO 0)] [wX12 T aO sO] sz) (zQi D out.1 [wX12 T aO out.2] (zA [wX12 T aO sO] sz)) 0 0 (zA [wX12 T aO sO] sz) :=
  zMet (D := D) (T := T) (av := [.ref (aO 0)]) (ws := fun T => [wX12 T aO sO]) (wm := fun T => [wX12 T aO sO]) (lv0 := [(0, .ref (aO 0))]) [0] (Qc := fun D T A => zQi D out.1 [wX12 T aO out.2] A) (by decide +kernel) rfl (Nat.le_of_ble_eq_true rfl) rfl (fun C X hQ => bX12_tellsAim_0 X hQ hf) sz
/-- public int tell(); of TableaufloorModel -/
abbrev rmX12_tell : Room := { frames := 5, cells := 0, slots := 0, locals := 107 }
def fX12_tell_109 : Nat → zSt → Int32 → Option (Int32 × zSt)
  | 0, _, _ => none
  | n + 1, sO, x2 =>
    (if (3 : Int32) ≤ x2 then
      (if zin (zgi sO 11) 12 = true then
        (zlet (zsa sO 3 (upd (zga sO 3) ((zgi sO 11)).toNatClampNeg (zgi sO 16))) (fun sO151 =>
        (if zin (zgi sO151 11) 12 = true then
        (zlet (zsa sO151 4 (upd (zga sO151 4) ((zgi sO151 11)).toNatClampNeg (zgi sO151 17))) (fun sO164 =>
        (zlet (zsi sO164 11 ((zgi sO164 11) + (1 : Int32))) (fun sO172 =>
        some (((zgi sO172 11) - (1 : Int32)), sO172))))) else none))) else none)
    else
      (if zin x2 3 = true then
        (if zin (((3 : Int32) * (zgi sO 11)) + x2) 36 = true then
        (zlet (zsa sO 2 (upd (zga sO 2) ((((3 : Int32) * (zgi sO 11)) + x2)).toNatClampNeg (zga sO 14 (x2).toNatClampNeg))) (fun sO132 =>
        (zlet (x2 + 1) (fun v133 =>
        (fX12_tell_109 n sO132 v133))))) else none) else none))
def fX12_tell_74 (sO : zSt) (y1 : Int32) : Option (Int32 × zSt) :=
  (zlet (zsi sO 9 y1) (fun sO74 =>
    (if (zgi sO74 9) ≤ 0 then
    (zlet (zsi sO74 13 (0 : Int32)) (fun sO88 =>
      (if zin (0 : Int32) 30 = true then
      (if (zga sO88 8 ((0 : Int32)).toNatClampNeg) = (109 : Int32) then
      ((fX12_tellsAim sO88).bind (fun o103 =>
        some (o103.1, o103.2)))
    else
      (fX12_tell_109 6000 sO88 (0 : Int32))) else none)))
  else
    some ((0 : Int32), sO74))))
def fX12_tell_50 (sO : zSt) (y0 : Int32) : Option (Int32 × zSt) :=
  (if (zgi sO 18) = (45 : Int32) then
    (if y0 = 0 then
      (fX12_tell_74 sO (0 : Int32))
    else
      (fX12_tell_74 sO (2 : Int32)))
  else
    (fX12_tell_74 sO (1 : Int32)))
def fX12_tell_45 (sO : zSt) : Option (Int32 × zSt) :=
  (fX12_tell_50 sO (1 : Int32))
def fX12_tell (sO : zSt) : Option (Int32 × zSt) :=
  ((fX12_reads sO).bind (fun o1 =>
    ((fX12_isAimText o1).bind (fun o5 =>
    (if o5 = 0 then
    (if (zgi o1 11) = (12 : Int32) then
      (fX12_tell_45 o1)
    else
      ((fX12_leftRows o1).bind (fun o37 =>
        (if o37 = (6 : Int32) then
        (fX12_tell_45 o1)
      else
        (fX12_tell_50 o1 (0 : Int32))))))
  else
    (if (zgi o1 12) = (3 : Int32) then
      (fX12_tell_50 o1 (1 : Int32))
    else
      (fX12_tell_50 o1 (0 : Int32))))))))
theorem bX12_tell_109 {C : zCtx} (X : zFx C cX12_tell 3 RX12 rmX12_tell (some .int)) {aO : Nat → Nat} {out : Int32 × zSt} (hQ : zHi C out.1 [wX12 (zcT C) aO out.2] 0 0) : ∀ (n : Nat) (sO : zSt) (x2 : Int32), fX12_tell_109 n sO x2 = some out → zG C 3 [0] 0 0 [wX12 (zcT C) aO sO] 109 [(0, .ref (aO 0)), (2, .int x2)] [] := by
  intro n
  induction n with
  | zero =>
    intro sO x2 h
    rw [fX12_tell_109] at h
    exact zno h
  | succ n ih =>
    intro sO x2 h
    rw [fX12_tell_109] at h
    refine z_iload_n X dX12_tell_109 1 rfl ?_
    refine z_iconst (v := (3 : Int32)) X dX12_tell_110 rfl ?_
    refine z_icmp_ge (tgt := 139) X dX12_tell_111 (by decide) (fun c111 => ?_) (fun c111 => ?_)
    · replace h := zif_t h c111
      refine z_aload_n X dX12_tell_139 0 rfl ?_
      refine z_get (v := .ref (aO 4)) X 0 0 13 3 ziX12 rfl (by decide) zw1339 rfl dX12_tell_140 rfl rfl rfl ?_
      refine z_aload_n X dX12_tell_143 0 rfl ?_
      refine z_get (v := .int (zgi sO 11)) X 0 0 13 11 ziX12 rfl (by decide) zw1347 rfl dX12_tell_144 rfl rfl rfl ?_
      refine z_aload_n X dX12_tell_147 0 rfl ?_
      refine z_get (v := .int (zgi sO 16)) X 0 0 13 16 ziX12 rfl (by decide) zw1352 rfl dX12_tell_148 rfl rfl rfl ?_
      obtain ⟨g151, h⟩ := zgd_of h
      obtain ⟨sO151, esO151, h⟩ := zlet_of h
      refine z_iast (ws2 := [wX12 (zcT C) aO sO151]) X 0 4 g151 dX12_tell_151 rfl rfl (by decide) (w2 := wX12 (zcT C) aO sO151) (by rw [esO151]; rfl) rfl ?_
      refine z_aload_n X dX12_tell_152 0 rfl ?_
      refine z_get (v := .ref (aO 5)) X 0 0 13 4 ziX12 rfl (by decide) zw1340 rfl dX12_tell_153 rfl rfl rfl ?_
      refine z_aload_n X dX12_tell_156 0 rfl ?_
      refine z_get (v := .int (zgi sO151 11)) X 0 0 13 11 ziX12 rfl (by decide) zw1347 rfl dX12_tell_157 rfl rfl rfl ?_
      refine z_aload_n X dX12_tell_160 0 rfl ?_
      refine z_get (v := .int (zgi sO151 17)) X 0 0 13 17 ziX12 rfl (by decide) zw1353 rfl dX12_tell_161 rfl rfl rfl ?_
      obtain ⟨g164, h⟩ := zgd_of h
      obtain ⟨sO164, esO164, h⟩ := zlet_of h
      refine z_iast (ws2 := [wX12 (zcT C) aO sO164]) X 0 5 g164 dX12_tell_164 rfl rfl (by decide) (w2 := wX12 (zcT C) aO sO164) (by rw [esO164]; rfl) rfl ?_
      refine z_aload_n X dX12_tell_165 0 rfl ?_
      refine z_dup X dX12_tell_166 rfl ?_
      refine z_get (v := .int (zgi sO164 11)) X 0 0 13 11 ziX12 rfl (by decide) zw1347 rfl dX12_tell_167 rfl rfl rfl ?_
      refine z_iconst (v := (1 : Int32)) X dX12_tell_170 rfl ?_
      refine z_iadd X dX12_tell_171 ?_
      obtain ⟨sO172, esO172, h⟩ := zlet_of h
      refine z_put (ws2 := [wX12 (zcT C) aO sO172]) X 0 0 13 11 ziX12 rfl tyX12 tyX12_ok nmX12 (by decide) zw1347 rfl rfl (ty := .int) (by decide +kernel) rfl rfl (by show 11 < 40; decide) dX12_tell_172 rfl rfl (by decide) (w2 := wX12 (zcT C) aO sO172) (by rw [esO172]; rfl) rfl ?_
      refine z_aload_n X dX12_tell_175 0 rfl ?_
      refine z_get (v := .int (zgi sO172 11)) X 0 0 13 11 ziX12 rfl (by decide) zw1347 rfl dX12_tell_176 rfl rfl rfl ?_
      refine z_iconst (v := (1 : Int32)) X dX12_tell_179 rfl ?_
      refine z_isub X dX12_tell_180 ?_
      cases h
      exact z_iret X hQ dX12_tell_181 rfl [0] rfl (by decide) (by decide)
    · replace h := zif_f h c111
      refine z_aload_n X dX12_tell_114 0 rfl ?_
      refine z_get (v := .ref (aO 3)) X 0 0 13 2 ziX12 rfl (by decide) zw1338 rfl dX12_tell_115 rfl rfl rfl ?_
      refine z_iconst (v := (3 : Int32)) X dX12_tell_118 rfl ?_
      refine z_aload_n X dX12_tell_119 0 rfl ?_
      refine z_get (v := .int (zgi sO 11)) X 0 0 13 11 ziX12 rfl (by decide) zw1347 rfl dX12_tell_120 rfl rfl rfl ?_
      refine z_imul X dX12_tell_123 ?_
      refine z_iload_n X dX12_tell_124 1 rfl ?_
      refine z_iadd X dX12_tell_125 ?_
      refine z_aload_n X dX12_tell_126 0 rfl ?_
      refine z_get (v := .ref (aO 15)) X 0 0 13 14 ziX12 rfl (by decide) zw1350 rfl dX12_tell_127 rfl rfl rfl ?_
      refine z_iload_n X dX12_tell_130 1 rfl ?_
      obtain ⟨g131, h⟩ := zgd_of h
      refine z_iald X 0 10 g131 dX12_tell_131 rfl rfl ?_
      obtain ⟨g132, h⟩ := zgd_of h
      obtain ⟨sO132, esO132, h⟩ := zlet_of h
      refine z_iast (ws2 := [wX12 (zcT C) aO sO132]) X 0 3 g132 dX12_tell_132 rfl rfl (by decide) (w2 := wX12 (zcT C) aO sO132) (by rw [esO132]; rfl) rfl ?_
      obtain ⟨v133, ev133, h⟩ := zlet_of h
      refine z_iinc (v := v133) (lv2 := [(2, .int v133), (0, .ref (aO 0))]) X dX12_tell_133 (k := 1) rfl (by rw [ev133]; rfl) (by decide) rfl ?_
      refine z_goto (tgt := 109) X dX12_tell_136 (by decide) ?_
      exact z_at (pc2 := 109) (lv2 := [(0, .ref (aO 0)), (2, .int v133)]) (st2 := []) (ws2 := [wX12 (zcT C) aO sO132]) rfl rfl rfl [1, 0] rfl (ih sO132 v133 h)
theorem bX12_tell_74 {C : zCtx} (X : zFx C cX12_tell 3 RX12 rmX12_tell (some .int)) {aO : Nat → Nat} {sO : zSt} {y1 : Int32} {out : Int32 × zSt} (hQ : zHi C out.1 [wX12 (zcT C) aO out.2] 0 0) (h : fX12_tell_74 sO y1 = some out) : zG C 3 [0] 0 0 [wX12 (zcT C) aO sO] 74 [(0, .ref (aO 0))] [.int y1, .ref (aO 0)] := by
  unfold fX12_tell_74 at h
  obtain ⟨sO74, esO74, h⟩ := zlet_of h
  refine z_put (ws2 := [wX12 (zcT C) aO sO74]) X 0 0 13 9 ziX12 rfl tyX12 tyX12_ok nmX12 (by decide) zw1345 rfl rfl (ty := .int) (by decide +kernel) rfl rfl (by show 9 < 40; decide) dX12_tell_74 rfl rfl (by decide) (w2 := wX12 (zcT C) aO sO74) (by rw [esO74]; rfl) rfl ?_
  refine z_aload_n X dX12_tell_77 0 rfl ?_
  refine z_get (v := .int (zgi sO74 9)) X 0 0 13 9 ziX12 rfl (by decide) zw1345 rfl dX12_tell_78 rfl rfl rfl ?_
  refine z_if_le (tgt := 86) X dX12_tell_81 (by decide) (fun c81 => ?_) (fun c81 => ?_)
  · replace h := zif_t h c81
    refine z_aload_n X dX12_tell_86 0 rfl ?_
    refine z_iconst (v := (0 : Int32)) X dX12_tell_87 rfl ?_
    obtain ⟨sO88, esO88, h⟩ := zlet_of h
    refine z_put (ws2 := [wX12 (zcT C) aO sO88]) X 0 0 13 13 ziX12 rfl tyX12 tyX12_ok nmX12 (by decide) zw1349 rfl rfl (ty := .int) (by decide +kernel) rfl rfl (by show 13 < 40; decide) dX12_tell_88 rfl rfl (by decide) (w2 := wX12 (zcT C) aO sO88) (by rw [esO88]; rfl) rfl ?_
    refine z_aload_n X dX12_tell_91 0 rfl ?_
    refine z_get (v := .ref (aO 9)) X 0 0 13 8 ziX12 rfl (by decide) zw1344 rfl dX12_tell_92 rfl rfl rfl ?_
    refine z_iconst (v := (0 : Int32)) X dX12_tell_95 rfl ?_
    obtain ⟨g96, h⟩ := zgd_of h
    refine z_cald X 0 9 g96 dX12_tell_96 rfl rfl ?_
    refine z_bipush (v := (109 : Int32)) X dX12_tell_97 rfl ?_
    refine z_icmp_ne (tgt := 107) X dX12_tell_99 (by decide) (fun c99 => ?_) (fun c99 => ?_)
    · replace h := zif_f h c99
      refine z_iconst (v := (0 : Int32)) X dX12_tell_107 rfl ?_
      refine z_istore_n (lv2 := [(2, .int (0 : Int32)), (0, .ref (aO 0))]) X dX12_tell_108 rfl (by decide) rfl ?_
      exact z_at (pc2 := 109) (lv2 := [(0, .ref (aO 0)), (2, .int (0 : Int32))]) (st2 := []) (ws2 := [wX12 (zcT C) aO sO88]) rfl rfl rfl [1, 0] rfl (bX12_tell_109 X hQ  6000 sO88 (0 : Int32) h)
    · replace h := zif_t h c99
      refine z_aload_n X dX12_tell_102 0 rfl ?_
      obtain ⟨o103, ho103, h⟩ := zbind_of h
      refine z_callVi (st := []) (ws2 := [wX12 (zcT C) aO o103.2]) X (metX12_tellsAim (zcl C) (zcD C) (zcT C) aO ho103) zmX12_tellsAim zw1566 dX12_tell_103 0 0 13 rfl rfl rfl rfl [0] rfl rfl [0] rfl (by decide) ⟨zsX12 , trivial⟩ rfl rfl rfl (Nat.le_of_ble_eq_true rfl) rfl rfl ⟨Nat.le_of_ble_eq_true rfl, Nat.le_of_ble_eq_true rfl⟩ ⟨Nat.le_of_ble_eq_true rfl, Nat.le_of_ble_eq_true rfl⟩ ?_
      cases h
      exact z_iret X hQ dX12_tell_106 rfl [0] rfl (by decide) (by decide)
  · replace h := zif_f h c81
    refine z_iconst (v := (0 : Int32)) X dX12_tell_84 rfl ?_
    cases h
    exact z_iret X hQ dX12_tell_85 rfl [0] rfl (by decide) (by decide)
theorem bX12_tell_50 {C : zCtx} (X : zFx C cX12_tell 3 RX12 rmX12_tell (some .int)) {aO : Nat → Nat} {sO : zSt} {y0 : Int32} {out : Int32 × zSt} (hQ : zHi C out.1 [wX12 (zcT C) aO out.2] 0 0) (h : fX12_tell_50 sO y0 = some out) : zG C 3 [0] 0 0 [wX12 (zcT C) aO sO] 50 [(0, .ref (aO 0))] [.int y0] := by
  unfold fX12_tell_50 at h
  refine z_istore_n (lv2 := [(1, .int y0), (0, .ref (aO 0))]) X dX12_tell_50 rfl (by decide) rfl ?_
  refine z_aload_n X dX12_tell_51 1 rfl ?_
  refine z_aload_n X dX12_tell_52 1 rfl ?_
  refine z_get (v := .int (zgi sO 18)) X 0 0 13 18 ziX12 rfl (by decide) zw1354 rfl dX12_tell_53 rfl rfl rfl ?_
  refine z_bipush (v := (45 : Int32)) X dX12_tell_56 rfl ?_
  refine z_icmp_eq (tgt := 65) X dX12_tell_58 (by decide) (fun c58 => ?_) (fun c58 => ?_)
  · replace h := zif_t h c58
    refine z_iload_n X dX12_tell_65 0 rfl ?_
    refine z_if_eq (tgt := 73) X dX12_tell_66 (by decide) (fun c66 => ?_) (fun c66 => ?_)
    · replace h := zif_t h c66
      refine z_iconst (v := (0 : Int32)) X dX12_tell_73 rfl ?_
      exact z_at (pc2 := 74) (lv2 := [(0, .ref (aO 0))]) (st2 := [.int (0 : Int32), .ref (aO 0)]) (ws2 := [wX12 (zcT C) aO sO]) rfl rfl rfl [1] rfl (bX12_tell_74 X hQ  h)
    · replace h := zif_f h c66
      refine z_iconst (v := (2 : Int32)) X dX12_tell_69 rfl ?_
      refine z_goto (tgt := 74) X dX12_tell_70 (by decide) ?_
      exact z_at (pc2 := 74) (lv2 := [(0, .ref (aO 0))]) (st2 := [.int (2 : Int32), .ref (aO 0)]) (ws2 := [wX12 (zcT C) aO sO]) rfl rfl rfl [1] rfl (bX12_tell_74 X hQ  h)
  · replace h := zif_f h c58
    refine z_iconst (v := (1 : Int32)) X dX12_tell_61 rfl ?_
    refine z_goto (tgt := 74) X dX12_tell_62 (by decide) ?_
    exact z_at (pc2 := 74) (lv2 := [(0, .ref (aO 0))]) (st2 := [.int (1 : Int32), .ref (aO 0)]) (ws2 := [wX12 (zcT C) aO sO]) rfl rfl rfl [1] rfl (bX12_tell_74 X hQ  h)
theorem bX12_tell_45 {C : zCtx} (X : zFx C cX12_tell 3 RX12 rmX12_tell (some .int)) {aO : Nat → Nat} {sO : zSt} {out : Int32 × zSt} (hQ : zHi C out.1 [wX12 (zcT C) aO out.2] 0 0) (h : fX12_tell_45 sO = some out) : zG C 3 [0] 0 0 [wX12 (zcT C) aO sO] 45 [(0, .ref (aO 0))] [] := by
  unfold fX12_tell_45 at h
  refine z_iconst (v := (1 : Int32)) X dX12_tell_45 rfl ?_
  refine z_goto (tgt := 50) X dX12_tell_46 (by decide) ?_
  exact z_at (pc2 := 50) (lv2 := [(0, .ref (aO 0))]) (st2 := [.int (1 : Int32)]) (ws2 := [wX12 (zcT C) aO sO]) rfl rfl rfl [0] rfl (bX12_tell_50 X hQ  h)
theorem bX12_tell_0 {C : zCtx} (X : zFx C cX12_tell 3 RX12 rmX12_tell (some .int)) {aO : Nat → Nat} {sO : zSt} {out : Int32 × zSt} (hQ : zHi C out.1 [wX12 (zcT C) aO out.2] 0 0) (h : fX12_tell sO = some out) : zG C 3 [0] 0 0 [wX12 (zcT C) aO sO] 0 [(0, .ref (aO 0))] [] := by
  unfold fX12_tell at h
  refine z_aload_n X dX12_tell_0 0 rfl ?_
  obtain ⟨o1, ho1, h⟩ := zbind_of h
  refine z_callVv (st := []) (ws2 := [wX12 (zcT C) aO o1]) X (metX12_reads (zcl C) (zcD C) (zcT C) aO ho1) zmX12_reads zw1498 dX12_tell_1 0 0 13 rfl rfl rfl rfl [0] rfl rfl [0] rfl (by decide) ⟨zsX12 , trivial⟩ rfl rfl rfl (Nat.le_of_ble_eq_true rfl) rfl rfl ⟨Nat.le_of_ble_eq_true rfl, Nat.le_of_ble_eq_true rfl⟩ ⟨Nat.le_of_ble_eq_true rfl, Nat.le_of_ble_eq_true rfl⟩ ?_
  refine z_aload_n X dX12_tell_4 0 rfl ?_
  obtain ⟨o5, ho5, h⟩ := zbind_of h
  refine z_callVi (st := []) (ws2 := [wX12 (zcT C) aO o1]) X (metX12_isAimText (zcl C) (zcD C) (zcT C) aO ho5) zmX12_isAimText zw1502 dX12_tell_5 0 0 13 rfl rfl rfl rfl [0] rfl rfl [] rfl (by decide) trivial rfl rfl rfl (Nat.le_of_ble_eq_true rfl) rfl rfl ⟨Nat.le_of_ble_eq_true rfl, Nat.le_of_ble_eq_true rfl⟩ ⟨Nat.le_of_ble_eq_true rfl, Nat.le_of_ble_eq_true rfl⟩ ?_
  refine z_if_eq (tgt := 27) X dX12_tell_8 (by decide) (fun c8 => ?_) (fun c8 => ?_)
  · replace h := zif_t h c8
    refine z_aload_n X dX12_tell_27 0 rfl ?_
    refine z_get (v := .int (zgi o1 11)) X 0 0 13 11 ziX12 rfl (by decide) zw1347 rfl dX12_tell_28 rfl rfl rfl ?_
    refine z_bipush (v := (12 : Int32)) X dX12_tell_31 rfl ?_
    refine z_icmp_eq (tgt := 45) X dX12_tell_33 (by decide) (fun c33 => ?_) (fun c33 => ?_)
    · replace h := zif_t h c33
      exact z_at (pc2 := 45) (lv2 := [(0, .ref (aO 0))]) (st2 := []) (ws2 := [wX12 (zcT C) aO o1]) rfl rfl rfl [0] rfl (bX12_tell_45 X hQ  h)
    · replace h := zif_f h c33
      refine z_aload_n X dX12_tell_36 0 rfl ?_
      obtain ⟨o37, ho37, h⟩ := zbind_of h
      refine z_callVi (st := []) (ws2 := [wX12 (zcT C) aO o1]) X (metX12_leftRows (zcl C) (zcD C) (zcT C) aO ho37) zmX12_leftRows zw1562 dX12_tell_37 0 0 13 rfl rfl rfl rfl [0] rfl rfl [] rfl (by decide) trivial rfl rfl rfl (Nat.le_of_ble_eq_true rfl) rfl rfl ⟨Nat.le_of_ble_eq_true rfl, Nat.le_of_ble_eq_true rfl⟩ ⟨Nat.le_of_ble_eq_true rfl, Nat.le_of_ble_eq_true rfl⟩ ?_
      refine z_bipush (v := (6 : Int32)) X dX12_tell_40 rfl ?_
      refine z_icmp_ne (tgt := 49) X dX12_tell_42 (by decide) (fun c42 => ?_) (fun c42 => ?_)
      · replace h := zif_f h c42
        refine z_iconst (v := (0 : Int32)) X dX12_tell_49 rfl ?_
        exact z_at (pc2 := 50) (lv2 := [(0, .ref (aO 0))]) (st2 := [.int (0 : Int32)]) (ws2 := [wX12 (zcT C) aO o1]) rfl rfl rfl [0] rfl (bX12_tell_50 X hQ  h)
      · replace h := zif_t h c42
        exact z_at (pc2 := 45) (lv2 := [(0, .ref (aO 0))]) (st2 := []) (ws2 := [wX12 (zcT C) aO o1]) rfl rfl rfl [0] rfl (bX12_tell_45 X hQ  h)
  · replace h := zif_f h c8
    refine z_aload_n X dX12_tell_11 0 rfl ?_
    refine z_get (v := .int (zgi o1 12)) X 0 0 13 12 ziX12 rfl (by decide) zw1348 rfl dX12_tell_12 rfl rfl rfl ?_
    refine z_iconst (v := (3 : Int32)) X dX12_tell_15 rfl ?_
    refine z_icmp_ne (tgt := 23) X dX12_tell_16 (by decide) (fun c16 => ?_) (fun c16 => ?_)
    · replace h := zif_f h c16
      refine z_iconst (v := (0 : Int32)) X dX12_tell_23 rfl ?_
      refine z_goto (tgt := 50) X dX12_tell_24 (by decide) ?_
      exact z_at (pc2 := 50) (lv2 := [(0, .ref (aO 0))]) (st2 := [.int (0 : Int32)]) (ws2 := [wX12 (zcT C) aO o1]) rfl rfl rfl [0] rfl (bX12_tell_50 X hQ  h)
    · replace h := zif_t h c16
      refine z_iconst (v := (1 : Int32)) X dX12_tell_19 rfl ?_
      refine z_goto (tgt := 50) X dX12_tell_20 (by decide) ?_
      exact z_at (pc2 := 50) (lv2 := [(0, .ref (aO 0))]) (st2 := [.int (1 : Int32)]) (ws2 := [wX12 (zcT C) aO o1]) rfl rfl rfl [0] rfl (bX12_tell_50 X hQ  h)
theorem metX12_tell (l : Launch) (D : va_G) (T : Nat → ClassId) (aO : Nat → Nat) {sO : zSt} {out : Int32 × zSt} (hf : fX12_tell sO = some out) (sz : Nat) : Met l yX12_tell (zws yX12_tell cX12_tell 3 (some .int)) rmX12_tell (zPc D T [.ref (aO 0)] [wX12 T aO sO] sz) (zQi D out.1 [wX12 T aO out.2] (zA [wX12 T aO sO] sz)) 0 0 (zA [wX12 T aO sO] sz) :=
  zMet (D := D) (T := T) (av := [.ref (aO 0)]) (ws := fun T => [wX12 T aO sO]) (wm := fun T => [wX12 T aO sO]) (lv0 := [(0, .ref (aO 0))]) [0] (Qc := fun D T A => zQi D out.1 [wX12 T aO out.2] A) (by decide +kernel) rfl (Nat.le_of_ble_eq_true rfl) rfl (fun C X hQ => bX12_tell_0 X hQ hf) sz
/-- private int wrongRow(int); of TableaufloorModel -/
abbrev rmX12_wrongRow : Room := { frames := 2, cells := 0, slots := 0, locals := 43 }
def fX12_wrongRow_26 (sO : zSt) (y0 : Int32) : Option (Int32) :=
  some (y0)
def fX12_wrongRow (sO : zSt) (x1 : Int32) : Option (Int32) :=
  ((fX12_isRow sO x1).bind (fun o2 =>
    (if o2 = 0 then
    (fX12_wrongRow_26 sO (1 : Int32))
  else
    (if zin x1 12 = true then
      (if (zga sO 6 (x1).toNatClampNeg) = 0 then
      (fX12_wrongRow_26 sO (0 : Int32))
    else
      (fX12_wrongRow_26 sO (2 : Int32))) else none))))
theorem bX12_wrongRow_26 {C : zCtx} (X : zFx C cX12_wrongRow 2 RX12 rmX12_wrongRow (some .int)) {aO : Nat → Nat} {sO : zSt} {y0 : Int32} {out : Int32} (hQ : zHi C out [] 0 0) (h : fX12_wrongRow_26 sO y0 = some out) : zG C 2 [] 0 0 [wX12 (zcT C) aO sO] 26 [] [.int y0] := by
  unfold fX12_wrongRow_26 at h
  cases h
  exact z_iret X hQ dX12_wrongRow_26 rfl [] rfl (by decide) (by decide)
theorem bX12_wrongRow_0 {C : zCtx} (X : zFx C cX12_wrongRow 2 RX12 rmX12_wrongRow (some .int)) {aO : Nat → Nat} {sO : zSt} {x1 : Int32} {out : Int32} (hQ : zHi C out [] 0 0) (h : fX12_wrongRow sO x1 = some out) : zG C 2 [] 0 0 [wX12 (zcT C) aO sO] 0 [(0, .ref (aO 0)), (1, .int x1)] [] := by
  unfold fX12_wrongRow at h
  refine z_aload_n X dX12_wrongRow_0 0 rfl ?_
  refine z_iload_n X dX12_wrongRow_1 1 rfl ?_
  obtain ⟨o2, ho2, h⟩ := zbind_of h
  refine z_callVi (st := []) (ws2 := [wX12 (zcT C) aO sO]) X (metX12_isRow (zcl C) (zcD C) (zcT C) aO ho2) zmX12_isRow zw1578 dX12_wrongRow_2 0 0 13 rfl rfl rfl rfl [0] rfl rfl [] rfl (by decide) trivial rfl rfl rfl (Nat.le_of_ble_eq_true rfl) rfl rfl ⟨Nat.le_of_ble_eq_true rfl, Nat.le_of_ble_eq_true rfl⟩ ⟨Nat.le_of_ble_eq_true rfl, Nat.le_of_ble_eq_true rfl⟩ ?_
  refine z_if_ne (tgt := 12) X dX12_wrongRow_5 (by decide) (fun c5 => ?_) (fun c5 => ?_)
  · replace h := zif_f h c5
    refine z_aload_n X dX12_wrongRow_12 0 rfl ?_
    refine z_get (v := .ref (aO 7)) X 0 0 13 6 ziX12 rfl (by decide) zw1342 rfl dX12_wrongRow_13 rfl rfl rfl ?_
    refine z_iload_n X dX12_wrongRow_16 1 rfl ?_
    obtain ⟨g17, h⟩ := zgd_of h
    refine z_zald X 0 7 g17 dX12_wrongRow_17 rfl rfl ?_
    refine z_if_eq (tgt := 25) X dX12_wrongRow_18 (by decide) (fun c18 => ?_) (fun c18 => ?_)
    · replace h := zif_t h c18
      refine z_iconst (v := (0 : Int32)) X dX12_wrongRow_25 rfl ?_
      exact z_at (pc2 := 26) (lv2 := []) (st2 := [.int (0 : Int32)]) (ws2 := [wX12 (zcT C) aO sO]) rfl rfl rfl [] rfl (bX12_wrongRow_26 X hQ  h)
    · replace h := zif_f h c18
      refine z_iconst (v := (2 : Int32)) X dX12_wrongRow_21 rfl ?_
      refine z_goto (tgt := 26) X dX12_wrongRow_22 (by decide) ?_
      exact z_at (pc2 := 26) (lv2 := []) (st2 := [.int (2 : Int32)]) (ws2 := [wX12 (zcT C) aO sO]) rfl rfl rfl [] rfl (bX12_wrongRow_26 X hQ  h)
  · replace h := zif_t h c5
    refine z_iconst (v := (1 : Int32)) X dX12_wrongRow_8 rfl ?_
    refine z_goto (tgt := 26) X dX12_wrongRow_9 (by decide) ?_
    exact z_at (pc2 := 26) (lv2 := []) (st2 := [.int (1 : Int32)]) (ws2 := [wX12 (zcT C) aO sO]) rfl rfl rfl [] rfl (bX12_wrongRow_26 X hQ  h)
theorem metX12_wrongRow (l : Launch) (D : va_G) (T : Nat → ClassId) (aO : Nat → Nat) {sO : zSt} {x1 : Int32} {out : Int32} (hf : fX12_wrongRow sO x1 = some out) (sz : Nat) : Met l yX12_wrongRow (zws yX12_wrongRow cX12_wrongRow 2 (some .int)) rmX12_wrongRow (zPc D T [.ref (aO 0), .int x1] [wX12 T aO sO] sz) (zQi D out [] (zA [] sz)) 0 0 (zA [] sz) :=
  zMet (D := D) (T := T) (av := [.ref (aO 0), .int x1]) (ws := fun T => [wX12 T aO sO]) (wm := fun T => []) (lv0 := [(0, .ref (aO 0)), (1, .int x1)]) [] (Qc := fun D T A => zQi D out [] A) (by decide +kernel) rfl (Nat.le_of_ble_eq_true rfl) rfl (fun C X hQ => bX12_wrongRow_0 X hQ hf) sz
/-- public int dropRow(int); of TableaufloorModel -/
abbrev rmX12_dropRow : Room := { frames := 3, cells := 0, slots := 0, locals := 64 }
def fX12_dropRow (sO : zSt) (x1 : Int32) : Option (Int32 × zSt) :=
  ((fX12_wrongRow sO x1).bind (fun o3 =>
    (zlet (zsi sO 9 o3) (fun sO6 =>
    (if (zgi sO6 9) ≤ 0 then
    (if zin x1 12 = true then
      (zlet (zsa sO6 6 (upd (zga sO6 6) (x1).toNatClampNeg (vp_nar .boolean (1 : Int32)))) (fun sO24 =>
      ((fX12_leftRows sO24).bind (fun o26 =>
      some (o26, sO24))))) else none)
  else
    some ((0 : Int32), sO6))))))
theorem bX12_dropRow_0 {C : zCtx} (X : zFx C cX12_dropRow 2 RX12 rmX12_dropRow (some .int)) {aO : Nat → Nat} {sO : zSt} {x1 : Int32} {out : Int32 × zSt} (hQ : zHi C out.1 [wX12 (zcT C) aO out.2] 0 0) (h : fX12_dropRow sO x1 = some out) : zG C 2 [0] 0 0 [wX12 (zcT C) aO sO] 0 [(0, .ref (aO 0)), (1, .int x1)] [] := by
  unfold fX12_dropRow at h
  refine z_aload_n X dX12_dropRow_0 0 rfl ?_
  refine z_aload_n X dX12_dropRow_1 0 rfl ?_
  refine z_iload_n X dX12_dropRow_2 1 rfl ?_
  obtain ⟨o3, ho3, h⟩ := zbind_of h
  refine z_callVi (st := [.ref (aO 0)]) (ws2 := [wX12 (zcT C) aO sO]) X (metX12_wrongRow (zcl C) (zcD C) (zcT C) aO ho3) zmX12_wrongRow zw1574 dX12_dropRow_3 0 0 13 rfl rfl rfl rfl [0] rfl rfl [] rfl (by decide) trivial rfl rfl rfl (Nat.le_of_ble_eq_true rfl) rfl rfl ⟨Nat.le_of_ble_eq_true rfl, Nat.le_of_ble_eq_true rfl⟩ ⟨Nat.le_of_ble_eq_true rfl, Nat.le_of_ble_eq_true rfl⟩ ?_
  obtain ⟨sO6, esO6, h⟩ := zlet_of h
  refine z_put (ws2 := [wX12 (zcT C) aO sO6]) X 0 0 13 9 ziX12 rfl tyX12 tyX12_ok nmX12 (by decide) zw1345 rfl rfl (ty := .int) (by decide +kernel) rfl rfl (by show 9 < 40; decide) dX12_dropRow_6 rfl rfl (by decide) (w2 := wX12 (zcT C) aO sO6) (by rw [esO6]; rfl) rfl ?_
  refine z_aload_n X dX12_dropRow_9 0 rfl ?_
  refine z_get (v := .int (zgi sO6 9)) X 0 0 13 9 ziX12 rfl (by decide) zw1345 rfl dX12_dropRow_10 rfl rfl rfl ?_
  refine z_if_le (tgt := 18) X dX12_dropRow_13 (by decide) (fun c13 => ?_) (fun c13 => ?_)
  · replace h := zif_t h c13
    refine z_aload_n X dX12_dropRow_18 0 rfl ?_
    refine z_get (v := .ref (aO 7)) X 0 0 13 6 ziX12 rfl (by decide) zw1342 rfl dX12_dropRow_19 rfl rfl rfl ?_
    refine z_iload_n X dX12_dropRow_22 1 rfl ?_
    refine z_iconst (v := (1 : Int32)) X dX12_dropRow_23 rfl ?_
    obtain ⟨g24, h⟩ := zgd_of h
    obtain ⟨sO24, esO24, h⟩ := zlet_of h
    refine z_zast (ws2 := [wX12 (zcT C) aO sO24]) X 0 7 g24 dX12_dropRow_24 rfl rfl (by decide) (w2 := wX12 (zcT C) aO sO24) (by rw [esO24]; rfl) rfl ?_
    refine z_aload_n X dX12_dropRow_25 0 rfl ?_
    obtain ⟨o26, ho26, h⟩ := zbind_of h
    refine z_callVi (st := []) (ws2 := [wX12 (zcT C) aO sO24]) X (metX12_leftRows (zcl C) (zcD C) (zcT C) aO ho26) zmX12_leftRows zw1562 dX12_dropRow_26 0 0 13 rfl rfl rfl rfl [0] rfl rfl [] rfl (by decide) trivial rfl rfl rfl (Nat.le_of_ble_eq_true rfl) rfl rfl ⟨Nat.le_of_ble_eq_true rfl, Nat.le_of_ble_eq_true rfl⟩ ⟨Nat.le_of_ble_eq_true rfl, Nat.le_of_ble_eq_true rfl⟩ ?_
    cases h
    exact z_iret X hQ dX12_dropRow_29 rfl [0] rfl (by decide) (by decide)
  · replace h := zif_f h c13
    refine z_iconst (v := (0 : Int32)) X dX12_dropRow_16 rfl ?_
    cases h
    exact z_iret X hQ dX12_dropRow_17 rfl [0] rfl (by decide) (by decide)
theorem metX12_dropRow (l : Launch) (D : va_G) (T : Nat → ClassId) (aO : Nat → Nat) {sO : zSt} {x1 : Int32} {out : Int32 × zSt} (hf : fX12_dropRow sO x1 = some out) (sz : Nat) : Met l yX12_dropRow (zws yX12_dropRow cX12_dropRow 2 (some .int)) rmX12_dropRow (zPc D T [.ref (aO 0), .int x1] [wX12 T aO sO] sz) (zQi D out.1 [wX12 T aO out.2] (zA [wX12 T aO sO] sz)) 0 0 (zA [wX12 T aO sO] sz) :=
  zMet (D := D) (T := T) (av := [.ref (aO 0), .int x1]) (ws := fun T => [wX12 T aO sO]) (wm := fun T => [wX12 T aO sO]) (lv0 := [(0, .ref (aO 0)), (1, .int x1)]) [0] (Qc := fun D T A => zQi D out.1 [wX12 T aO out.2] A) (by decide +kernel) rfl (Nat.le_of_ble_eq_true rfl) rfl (fun C X hQ => bX12_dropRow_0 X hQ hf) sz
/-- public int setNumber(int, int); of TableaufloorModel -/
abbrev rmX12_setNumber : Room := { frames := 2, cells := 0, slots := 0, locals := 43 }
def fX12_setNumber_42 (sO : zSt) (x1 : Int32) (x2 : Int32) (y1 : Int32) : Option (Int32 × zSt) :=
  (zlet (zsi sO 9 y1) (fun sO42 =>
    (if (zgi sO42 9) ≤ 0 then
    (if zin x1 12 = true then
      (zlet (zga sO42 4 (x1).toNatClampNeg) (fun v60 =>
      (if zin x1 12 = true then
      (zlet (zsa sO42 4 (upd (zga sO42 4) (x1).toNatClampNeg x2)) (fun sO67 =>
      some (v60, sO67))) else none))) else none)
  else
    some ((0 : Int32), sO42))))
def fX12_setNumber (sO : zSt) (x1 : Int32) (x2 : Int32) : Option (Int32 × zSt) :=
  ((fX12_isRow sO x1).bind (fun o3 =>
    (if o3 = 0 then
    (fX12_setNumber_42 sO x1 x2 (1 : Int32))
  else
    ((fX12_in x2 (-99 : Int32) (99 : Int32)).bind (fun o18 =>
      (if o18 = 0 then
      (fX12_setNumber_42 sO x1 x2 (2 : Int32))
    else
      (if zin x1 12 = true then
        (if (zga sO 6 (x1).toNatClampNeg) = 0 then
        (fX12_setNumber_42 sO x1 x2 (0 : Int32))
      else
        (fX12_setNumber_42 sO x1 x2 (3 : Int32))) else none)))))))
theorem bX12_setNumber_42 {C : zCtx} (X : zFx C cX12_setNumber 4 RX12 rmX12_setNumber (some .int)) {aO : Nat → Nat} {sO : zSt} {x1 : Int32} {x2 : Int32} {y1 : Int32} {out : Int32 × zSt} (hQ : zHi C out.1 [wX12 (zcT C) aO out.2] 0 0) (h : fX12_setNumber_42 sO x1 x2 y1 = some out) : zG C 4 [0] 0 0 [wX12 (zcT C) aO sO] 42 [(0, .ref (aO 0)), (1, .int x1), (2, .int x2)] [.int y1, .ref (aO 0)] := by
  unfold fX12_setNumber_42 at h
  obtain ⟨sO42, esO42, h⟩ := zlet_of h
  refine z_put (ws2 := [wX12 (zcT C) aO sO42]) X 0 0 13 9 ziX12 rfl tyX12 tyX12_ok nmX12 (by decide) zw1345 rfl rfl (ty := .int) (by decide +kernel) rfl rfl (by show 9 < 40; decide) dX12_setNumber_42 rfl rfl (by decide) (w2 := wX12 (zcT C) aO sO42) (by rw [esO42]; rfl) rfl ?_
  refine z_aload_n X dX12_setNumber_45 0 rfl ?_
  refine z_get (v := .int (zgi sO42 9)) X 0 0 13 9 ziX12 rfl (by decide) zw1345 rfl dX12_setNumber_46 rfl rfl rfl ?_
  refine z_if_le (tgt := 54) X dX12_setNumber_49 (by decide) (fun c49 => ?_) (fun c49 => ?_)
  · replace h := zif_t h c49
    refine z_aload_n X dX12_setNumber_54 0 rfl ?_
    refine z_get (v := .ref (aO 5)) X 0 0 13 4 ziX12 rfl (by decide) zw1340 rfl dX12_setNumber_55 rfl rfl rfl ?_
    refine z_iload_n X dX12_setNumber_58 1 rfl ?_
    obtain ⟨g59, h⟩ := zgd_of h
    refine z_iald X 0 5 g59 dX12_setNumber_59 rfl rfl ?_
    obtain ⟨v60, ev60, h⟩ := zlet_of h
    refine z_topi ev60 ?_
    refine z_istore_n (lv2 := [(3, .int v60), (0, .ref (aO 0)), (1, .int x1), (2, .int x2)]) X dX12_setNumber_60 rfl (by decide) rfl ?_
    refine z_aload_n X dX12_setNumber_61 1 rfl ?_
    refine z_get (v := .ref (aO 5)) X 0 0 13 4 ziX12 rfl (by decide) zw1340 rfl dX12_setNumber_62 rfl rfl rfl ?_
    refine z_iload_n X dX12_setNumber_65 2 rfl ?_
    refine z_iload_n X dX12_setNumber_66 3 rfl ?_
    obtain ⟨g67, h⟩ := zgd_of h
    obtain ⟨sO67, esO67, h⟩ := zlet_of h
    refine z_iast (ws2 := [wX12 (zcT C) aO sO67]) X 0 5 g67 dX12_setNumber_67 rfl rfl (by decide) (w2 := wX12 (zcT C) aO sO67) (by rw [esO67]; rfl) rfl ?_
    refine z_iload_n X dX12_setNumber_68 0 rfl ?_
    cases h
    exact z_iret X hQ dX12_setNumber_69 rfl [0] rfl (by decide) (by decide)
  · replace h := zif_f h c49
    refine z_iconst (v := (0 : Int32)) X dX12_setNumber_52 rfl ?_
    cases h
    exact z_iret X hQ dX12_setNumber_53 rfl [0] rfl (by decide) (by decide)
theorem bX12_setNumber_0 {C : zCtx} (X : zFx C cX12_setNumber 4 RX12 rmX12_setNumber (some .int)) {aO : Nat → Nat} {sO : zSt} {x1 : Int32} {x2 : Int32} {out : Int32 × zSt} (hQ : zHi C out.1 [wX12 (zcT C) aO out.2] 0 0) (h : fX12_setNumber sO x1 x2 = some out) : zG C 4 [0] 0 0 [wX12 (zcT C) aO sO] 0 [(0, .ref (aO 0)), (1, .int x1), (2, .int x2)] [] := by
  unfold fX12_setNumber at h
  refine z_aload_n X dX12_setNumber_0 0 rfl ?_
  refine z_aload_n X dX12_setNumber_1 0 rfl ?_
  refine z_iload_n X dX12_setNumber_2 1 rfl ?_
  obtain ⟨o3, ho3, h⟩ := zbind_of h
  refine z_callVi (st := [.ref (aO 0)]) (ws2 := [wX12 (zcT C) aO sO]) X (metX12_isRow (zcl C) (zcD C) (zcT C) aO ho3) zmX12_isRow zw1578 dX12_setNumber_3 0 0 13 rfl rfl rfl rfl [0] rfl rfl [] rfl (by decide) trivial rfl rfl rfl (Nat.le_of_ble_eq_true rfl) rfl rfl ⟨Nat.le_of_ble_eq_true rfl, Nat.le_of_ble_eq_true rfl⟩ ⟨Nat.le_of_ble_eq_true rfl, Nat.le_of_ble_eq_true rfl⟩ ?_
  refine z_if_ne (tgt := 13) X dX12_setNumber_6 (by decide) (fun c6 => ?_) (fun c6 => ?_)
  · replace h := zif_f h c6
    refine z_iload_n X dX12_setNumber_13 2 rfl ?_
    refine z_bipush (v := (-99 : Int32)) X dX12_setNumber_14 rfl ?_
    refine z_bipush (v := (99 : Int32)) X dX12_setNumber_16 rfl ?_
    obtain ⟨o18, ho18, h⟩ := zbind_of h
    refine z_callSi (st := [.ref (aO 0)]) (ws2 := [wX12 (zcT C) aO sO]) X (metX12_in (zcl C) (zcD C) (zcT C)  ho18) zmX12_in zw1465 dX12_setNumber_18 [] rfl rfl [] rfl (by decide) trivial rfl rfl rfl (Nat.le_of_ble_eq_true rfl) rfl rfl ⟨Nat.le_of_ble_eq_true rfl, Nat.le_of_ble_eq_true rfl⟩ ⟨Nat.le_of_ble_eq_true rfl, Nat.le_of_ble_eq_true rfl⟩ ?_
    refine z_if_ne (tgt := 28) X dX12_setNumber_21 (by decide) (fun c21 => ?_) (fun c21 => ?_)
    · replace h := zif_f h c21
      refine z_aload_n X dX12_setNumber_28 0 rfl ?_
      refine z_get (v := .ref (aO 7)) X 0 0 13 6 ziX12 rfl (by decide) zw1342 rfl dX12_setNumber_29 rfl rfl rfl ?_
      refine z_iload_n X dX12_setNumber_32 1 rfl ?_
      obtain ⟨g33, h⟩ := zgd_of h
      refine z_zald X 0 7 g33 dX12_setNumber_33 rfl rfl ?_
      refine z_if_eq (tgt := 41) X dX12_setNumber_34 (by decide) (fun c34 => ?_) (fun c34 => ?_)
      · replace h := zif_t h c34
        refine z_iconst (v := (0 : Int32)) X dX12_setNumber_41 rfl ?_
        exact z_at (pc2 := 42) (lv2 := [(0, .ref (aO 0)), (1, .int x1), (2, .int x2)]) (st2 := [.int (0 : Int32), .ref (aO 0)]) (ws2 := [wX12 (zcT C) aO sO]) rfl rfl rfl [0, 1, 2] rfl (bX12_setNumber_42 X hQ  h)
      · replace h := zif_f h c34
        refine z_iconst (v := (3 : Int32)) X dX12_setNumber_37 rfl ?_
        refine z_goto (tgt := 42) X dX12_setNumber_38 (by decide) ?_
        exact z_at (pc2 := 42) (lv2 := [(0, .ref (aO 0)), (1, .int x1), (2, .int x2)]) (st2 := [.int (3 : Int32), .ref (aO 0)]) (ws2 := [wX12 (zcT C) aO sO]) rfl rfl rfl [0, 1, 2] rfl (bX12_setNumber_42 X hQ  h)
    · replace h := zif_t h c21
      refine z_iconst (v := (2 : Int32)) X dX12_setNumber_24 rfl ?_
      refine z_goto (tgt := 42) X dX12_setNumber_25 (by decide) ?_
      exact z_at (pc2 := 42) (lv2 := [(0, .ref (aO 0)), (1, .int x1), (2, .int x2)]) (st2 := [.int (2 : Int32), .ref (aO 0)]) (ws2 := [wX12 (zcT C) aO sO]) rfl rfl rfl [0, 1, 2] rfl (bX12_setNumber_42 X hQ  h)
  · replace h := zif_t h c6
    refine z_iconst (v := (1 : Int32)) X dX12_setNumber_9 rfl ?_
    refine z_goto (tgt := 42) X dX12_setNumber_10 (by decide) ?_
    exact z_at (pc2 := 42) (lv2 := [(0, .ref (aO 0)), (1, .int x1), (2, .int x2)]) (st2 := [.int (1 : Int32), .ref (aO 0)]) (ws2 := [wX12 (zcT C) aO sO]) rfl rfl rfl [0, 1, 2] rfl (bX12_setNumber_42 X hQ  h)
theorem metX12_setNumber (l : Launch) (D : va_G) (T : Nat → ClassId) (aO : Nat → Nat) {sO : zSt} {x1 : Int32} {x2 : Int32} {out : Int32 × zSt} (hf : fX12_setNumber sO x1 x2 = some out) (sz : Nat) : Met l yX12_setNumber (zws yX12_setNumber cX12_setNumber 4 (some .int)) rmX12_setNumber (zPc D T [.ref (aO 0), .int x1, .int x2] [wX12 T aO sO] sz) (zQi D out.1 [wX12 T aO out.2] (zA [wX12 T aO sO] sz)) 0 0 (zA [wX12 T aO sO] sz) :=
  zMet (D := D) (T := T) (av := [.ref (aO 0), .int x1, .int x2]) (ws := fun T => [wX12 T aO sO]) (wm := fun T => [wX12 T aO sO]) (lv0 := [(0, .ref (aO 0)), (1, .int x1), (2, .int x2)]) [0] (Qc := fun D T A => zQi D out.1 [wX12 T aO out.2] A) (by decide +kernel) rfl (Nat.le_of_ble_eq_true rfl) rfl (fun C X hQ => bX12_setNumber_0 X hQ hf) sz
