/-- private boolean readsTerm(int); of TableaufloorModel -/
abbrev rmX12_readsTerm : Room := { frames := 1, cells := 0, slots := 0, locals := 21 }
def fX12_readsTerm_47 (sO : zSt) : Option (Int32 × zSt) :=
  ((fX12_fails sO (115 : Int32)).bind (fun o50 =>
    (if znar .boolean o50.1 = true then
    some (o50.1, o50.2) else none)))
def fX12_readsTerm_30 (sO : zSt) (x1 : Int32) (x2 : Int32) : Option (Int32 × zSt) :=
  ((fX12_next sO).bind (fun o31 =>
    (if o31 < (97 : Int32) then
    (fX12_readsTerm_47 sO)
  else
    (if o31 ≤ (99 : Int32) then
      (if (o31 - (97 : Int32)) < (zgi sO 10) then
        (zlet (o31 - (97 : Int32)) (fun v80 =>
          (if zin v80 3 = true then
          (if zin v80 3 = true then
          (zlet (zsa sO 14 (upd (zga sO 14) (v80).toNatClampNeg ((zga sO 14 (v80).toNatClampNeg) + (x1 * x2)))) (fun sO86 =>
          (zlet (zsi sO86 15 ((zgi sO86 15) + (1 : Int32))) (fun sO94 =>
          some ((1 : Int32), sO94))))) else none) else none)))
      else
        ((fX12_fails sO (118 : Int32)).bind (fun o68 =>
          (if znar .boolean o68.1 = true then
          some (o68.1, o68.2) else none))))
    else
      (fX12_readsTerm_47 sO)))))
def fX12_readsTerm (sO : zSt) (x1 : Int32) : Option (Int32 × zSt) :=
  ((fX12_next sO).bind (fun o3 =>
    ((fX12_isDigit o3).bind (fun o6 =>
    (if o6 = 0 then
    (fX12_readsTerm_30 sO x1 (1 : Int32))
  else
    ((fX12_next sO).bind (fun o13 =>
      (zlet (o13 - (48 : Int32)) (fun v19 =>
      (zlet (zsi sO 15 ((zgi sO 15) + (1 : Int32))) (fun sO27 =>
      (fX12_readsTerm_30 sO27 x1 v19))))))))))))
theorem bX12_readsTerm_47 {C : zCtx} (X : zFx C cX12_readsTerm 4 RX12 rmX12_readsTerm (some .boolean)) {aO : Nat → Nat} {sO : zSt} {out : Int32 × zSt} (hQ : zHi C out.1 [wX12 (zcT C) aO out.2] 0 0) (h : fX12_readsTerm_47 sO = some out) : zG C 4 [0] 0 0 [wX12 (zcT C) aO sO] 47 [(0, .ref (aO 0))] [] := by
  unfold fX12_readsTerm_47 at h
  refine z_aload_n X dX12_readsTerm_47 0 rfl ?_
  refine z_bipush (v := (115 : Int32)) X dX12_readsTerm_48 rfl ?_
  obtain ⟨o50, ho50, h⟩ := zbind_of h
  refine z_callVi (st := []) (ws2 := [wX12 (zcT C) aO o50.2]) X (metX12_fails (zcl C) (zcD C) (zcT C) aO ho50) zmX12_fails zw1514 dX12_readsTerm_50 0 0 13 rfl rfl rfl rfl [0] rfl rfl [0] rfl (by decide) ⟨zsX12 , trivial⟩ rfl rfl rfl (Nat.le_of_ble_eq_true rfl) rfl rfl ⟨Nat.le_of_ble_eq_true rfl, Nat.le_of_ble_eq_true rfl⟩ ⟨Nat.le_of_ble_eq_true rfl, Nat.le_of_ble_eq_true rfl⟩ ?_
  obtain ⟨g53, h⟩ := zgd_of h
  cases h
  exact z_nret X hQ g53 dX12_readsTerm_53 rfl [0] rfl (by decide) (by decide)
theorem bX12_readsTerm_30 {C : zCtx} (X : zFx C cX12_readsTerm 4 RX12 rmX12_readsTerm (some .boolean)) {aO : Nat → Nat} {sO : zSt} {x1 : Int32} {x2 : Int32} {out : Int32 × zSt} (hQ : zHi C out.1 [wX12 (zcT C) aO out.2] 0 0) (h : fX12_readsTerm_30 sO x1 x2 = some out) : zG C 4 [0] 0 0 [wX12 (zcT C) aO sO] 30 [(0, .ref (aO 0)), (1, .int x1), (2, .int x2)] [] := by
  unfold fX12_readsTerm_30 at h
  refine z_aload_n X dX12_readsTerm_30 0 rfl ?_
  obtain ⟨o31, ho31, h⟩ := zbind_of h
  refine z_callVi (st := []) (ws2 := [wX12 (zcT C) aO sO]) X (metX12_next (zcl C) (zcD C) (zcT C) aO ho31) zmX12_next zw1510 dX12_readsTerm_31 0 0 13 rfl rfl rfl rfl [0] rfl rfl [] rfl (by decide) trivial rfl rfl rfl (Nat.le_of_ble_eq_true rfl) rfl rfl ⟨Nat.le_of_ble_eq_true rfl, Nat.le_of_ble_eq_true rfl⟩ ⟨Nat.le_of_ble_eq_true rfl, Nat.le_of_ble_eq_true rfl⟩ ?_
  refine z_istore_n (lv2 := [(3, .int o31), (0, .ref (aO 0)), (1, .int x1), (2, .int x2)]) X dX12_readsTerm_34 rfl (by decide) rfl ?_
  refine z_iload_n X dX12_readsTerm_35 0 rfl ?_
  refine z_bipush (v := (97 : Int32)) X dX12_readsTerm_36 rfl ?_
  refine z_icmp_lt (tgt := 47) X dX12_readsTerm_38 (by decide) (fun c38 => ?_) (fun c38 => ?_)
  · replace h := zif_t h c38
    exact z_at (pc2 := 47) (lv2 := [(0, .ref (aO 0))]) (st2 := []) (ws2 := [wX12 (zcT C) aO sO]) rfl rfl rfl [1] rfl (bX12_readsTerm_47 X hQ  h)
  · replace h := zif_f h c38
    refine z_iload_n X dX12_readsTerm_41 0 rfl ?_
    refine z_bipush (v := (99 : Int32)) X dX12_readsTerm_42 rfl ?_
    refine z_icmp_le (tgt := 54) X dX12_readsTerm_44 (by decide) (fun c44 => ?_) (fun c44 => ?_)
    · replace h := zif_t h c44
      refine z_iload_n X dX12_readsTerm_54 0 rfl ?_
      refine z_bipush (v := (97 : Int32)) X dX12_readsTerm_55 rfl ?_
      refine z_isub X dX12_readsTerm_57 ?_
      refine z_aload_n X dX12_readsTerm_58 1 rfl ?_
      refine z_get (v := .int (zgi sO 10)) X 0 0 13 10 ziX12 rfl (by decide) zw1346 rfl dX12_readsTerm_59 rfl rfl rfl ?_
      refine z_icmp_lt (tgt := 72) X dX12_readsTerm_62 (by decide) (fun c62 => ?_) (fun c62 => ?_)
      · replace h := zif_t h c62
        refine z_aload_n X dX12_readsTerm_72 1 rfl ?_
        refine z_get (v := .ref (aO 15)) X 0 0 13 14 ziX12 rfl (by decide) zw1350 rfl dX12_readsTerm_73 rfl rfl rfl ?_
        refine z_iload_n X dX12_readsTerm_76 0 rfl ?_
        refine z_bipush (v := (97 : Int32)) X dX12_readsTerm_77 rfl ?_
        refine z_isub X dX12_readsTerm_79 ?_
        obtain ⟨v80, ev80, h⟩ := zlet_of h
        refine z_topi ev80 ?_
        refine z_dup2 X dX12_readsTerm_80 rfl rfl ?_
        obtain ⟨g81, h⟩ := zgd_of h
        refine z_iald X 0 10 g81 dX12_readsTerm_81 rfl rfl ?_
        refine z_iload_n X dX12_readsTerm_82 2 rfl ?_
        refine z_iload_n X dX12_readsTerm_83 3 rfl ?_
        refine z_imul X dX12_readsTerm_84 ?_
        refine z_iadd X dX12_readsTerm_85 ?_
        obtain ⟨g86, h⟩ := zgd_of h
        obtain ⟨sO86, esO86, h⟩ := zlet_of h
        refine z_iast (ws2 := [wX12 (zcT C) aO sO86]) X 0 10 g86 dX12_readsTerm_86 rfl rfl (by decide) (w2 := wX12 (zcT C) aO sO86) (by rw [esO86]; rfl) rfl ?_
        refine z_aload_n X dX12_readsTerm_87 1 rfl ?_
        refine z_dup X dX12_readsTerm_88 rfl ?_
        refine z_get (v := .int (zgi sO86 15)) X 0 0 13 15 ziX12 rfl (by decide) zw1351 rfl dX12_readsTerm_89 rfl rfl rfl ?_
        refine z_iconst (v := (1 : Int32)) X dX12_readsTerm_92 rfl ?_
        refine z_iadd X dX12_readsTerm_93 ?_
        obtain ⟨sO94, esO94, h⟩ := zlet_of h
        refine z_put (ws2 := [wX12 (zcT C) aO sO94]) X 0 0 13 15 ziX12 rfl tyX12 tyX12_ok nmX12 (by decide) zw1351 rfl rfl (ty := .int) (by decide +kernel) rfl rfl (by show 15 < 40; decide) dX12_readsTerm_94 rfl rfl (by decide) (w2 := wX12 (zcT C) aO sO94) (by rw [esO94]; rfl) rfl ?_
        refine z_iconst (v := (1 : Int32)) X dX12_readsTerm_97 rfl ?_
        cases h
        exact z_nret X hQ rfl dX12_readsTerm_98 rfl [0] rfl (by decide) (by decide)
      · replace h := zif_f h c62
        refine z_aload_n X dX12_readsTerm_65 1 rfl ?_
        refine z_bipush (v := (118 : Int32)) X dX12_readsTerm_66 rfl ?_
        obtain ⟨o68, ho68, h⟩ := zbind_of h
        refine z_callVi (st := []) (ws2 := [wX12 (zcT C) aO o68.2]) X (metX12_fails (zcl C) (zcD C) (zcT C) aO ho68) zmX12_fails zw1514 dX12_readsTerm_68 0 0 13 rfl rfl rfl rfl [0] rfl rfl [0] rfl (by decide) ⟨zsX12 , trivial⟩ rfl rfl rfl (Nat.le_of_ble_eq_true rfl) rfl rfl ⟨Nat.le_of_ble_eq_true rfl, Nat.le_of_ble_eq_true rfl⟩ ⟨Nat.le_of_ble_eq_true rfl, Nat.le_of_ble_eq_true rfl⟩ ?_
        obtain ⟨g71, h⟩ := zgd_of h
        cases h
        exact z_nret X hQ g71 dX12_readsTerm_71 rfl [0] rfl (by decide) (by decide)
    · replace h := zif_f h c44
      exact z_at (pc2 := 47) (lv2 := [(0, .ref (aO 0))]) (st2 := []) (ws2 := [wX12 (zcT C) aO sO]) rfl rfl rfl [1] rfl (bX12_readsTerm_47 X hQ  h)
theorem bX12_readsTerm_0 {C : zCtx} (X : zFx C cX12_readsTerm 4 RX12 rmX12_readsTerm (some .boolean)) {aO : Nat → Nat} {sO : zSt} {x1 : Int32} {out : Int32 × zSt} (hQ : zHi C out.1 [wX12 (zcT C) aO out.2] 0 0) (h : fX12_readsTerm sO x1 = some out) : zG C 4 [0] 0 0 [wX12 (zcT C) aO sO] 0 [(0, .ref (aO 0)), (1, .int x1)] [] := by
  unfold fX12_readsTerm at h
  refine z_iconst (v := (1 : Int32)) X dX12_readsTerm_0 rfl ?_
  refine z_istore_n (lv2 := [(2, .int (1 : Int32)), (0, .ref (aO 0)), (1, .int x1)]) X dX12_readsTerm_1 rfl (by decide) rfl ?_
  refine z_aload_n X dX12_readsTerm_2 1 rfl ?_
  obtain ⟨o3, ho3, h⟩ := zbind_of h
  refine z_callVi (st := []) (ws2 := [wX12 (zcT C) aO sO]) X (metX12_next (zcl C) (zcD C) (zcT C) aO ho3) zmX12_next zw1510 dX12_readsTerm_3 0 0 13 rfl rfl rfl rfl [0] rfl rfl [] rfl (by decide) trivial rfl rfl rfl (Nat.le_of_ble_eq_true rfl) rfl rfl ⟨Nat.le_of_ble_eq_true rfl, Nat.le_of_ble_eq_true rfl⟩ ⟨Nat.le_of_ble_eq_true rfl, Nat.le_of_ble_eq_true rfl⟩ ?_
  obtain ⟨o6, ho6, h⟩ := zbind_of h
  refine z_callSi (st := []) (ws2 := [wX12 (zcT C) aO sO]) X (metX12_isDigit (zcl C) (zcD C) (zcT C)  ho6) zmX12_isDigit zw1484 dX12_readsTerm_6 [] rfl rfl [] rfl (by decide) trivial rfl rfl rfl (Nat.le_of_ble_eq_true rfl) rfl rfl ⟨Nat.le_of_ble_eq_true rfl, Nat.le_of_ble_eq_true rfl⟩ ⟨Nat.le_of_ble_eq_true rfl, Nat.le_of_ble_eq_true rfl⟩ ?_
  refine z_if_eq (tgt := 30) X dX12_readsTerm_9 (by decide) (fun c9 => ?_) (fun c9 => ?_)
  · replace h := zif_t h c9
    exact z_at (pc2 := 30) (lv2 := [(0, .ref (aO 0)), (1, .int x1), (2, .int (1 : Int32))]) (st2 := []) (ws2 := [wX12 (zcT C) aO sO]) rfl rfl rfl [1, 2, 0] rfl (bX12_readsTerm_30 X hQ  h)
  · replace h := zif_f h c9
    refine z_aload_n X dX12_readsTerm_12 1 rfl ?_
    obtain ⟨o13, ho13, h⟩ := zbind_of h
    refine z_callVi (st := []) (ws2 := [wX12 (zcT C) aO sO]) X (metX12_next (zcl C) (zcD C) (zcT C) aO ho13) zmX12_next zw1510 dX12_readsTerm_13 0 0 13 rfl rfl rfl rfl [0] rfl rfl [] rfl (by decide) trivial rfl rfl rfl (Nat.le_of_ble_eq_true rfl) rfl rfl ⟨Nat.le_of_ble_eq_true rfl, Nat.le_of_ble_eq_true rfl⟩ ⟨Nat.le_of_ble_eq_true rfl, Nat.le_of_ble_eq_true rfl⟩ ?_
    refine z_bipush (v := (48 : Int32)) X dX12_readsTerm_16 rfl ?_
    refine z_isub X dX12_readsTerm_18 ?_
    obtain ⟨v19, ev19, h⟩ := zlet_of h
    refine z_topi ev19 ?_
    refine z_istore_n (lv2 := [(2, .int v19), (0, .ref (aO 0)), (1, .int x1)]) X dX12_readsTerm_19 rfl (by decide) rfl ?_
    refine z_aload_n X dX12_readsTerm_20 1 rfl ?_
    refine z_dup X dX12_readsTerm_21 rfl ?_
    refine z_get (v := .int (zgi sO 15)) X 0 0 13 15 ziX12 rfl (by decide) zw1351 rfl dX12_readsTerm_22 rfl rfl rfl ?_
    refine z_iconst (v := (1 : Int32)) X dX12_readsTerm_25 rfl ?_
    refine z_iadd X dX12_readsTerm_26 ?_
    obtain ⟨sO27, esO27, h⟩ := zlet_of h
    refine z_put (ws2 := [wX12 (zcT C) aO sO27]) X 0 0 13 15 ziX12 rfl tyX12 tyX12_ok nmX12 (by decide) zw1351 rfl rfl (ty := .int) (by decide +kernel) rfl rfl (by show 15 < 40; decide) dX12_readsTerm_27 rfl rfl (by decide) (w2 := wX12 (zcT C) aO sO27) (by rw [esO27]; rfl) rfl ?_
    exact z_at (pc2 := 30) (lv2 := [(0, .ref (aO 0)), (1, .int x1), (2, .int v19)]) (st2 := []) (ws2 := [wX12 (zcT C) aO sO27]) rfl rfl rfl [1, 2, 0] rfl (bX12_readsTerm_30 X hQ  h)
theorem metX12_readsTerm (l : Launch) (D : va_G) (T : Nat → ClassId) (aO : Nat → Nat) {sO : zSt} {x1 : Int32} {out : Int32 × zSt} (hf : fX12_readsTerm sO x1 = some out) (sz : Nat) : Met l yX12_readsTerm (zws yX12_readsTerm cX12_readsTerm 4 (some .boolean)) rmX12_readsTerm (zPc D T [.ref (aO 0), .int x1] [wX12 T aO sO] sz) (zQi D out.1 [wX12 T aO out.2] (zA [wX12 T aO sO] sz)) 0 0 (zA [wX12 T aO sO] sz) :=
  zMet (D := D) (T := T) (av := [.ref (aO 0), .int x1]) (ws := fun T => [wX12 T aO sO]) (wm := fun T => [wX12 T aO sO]) (lv0 := [(0, .ref (aO 0)), (1, .int x1)]) [0] (Qc := fun D T A => zQi D out.1 [wX12 T aO out.2] A) (by decide +kernel) rfl (Nat.le_of_ble_eq_true rfl) rfl (fun C X hQ => bX12_readsTerm_0 X hQ hf) sz
/-- private boolean readsSum(); of TableaufloorModel -/
abbrev rmX12_readsSum : Room := { frames := 2, cells := 0, slots := 0, locals := 44 }
def fX12_readsSum_71 (k39 : zSt → Option (Int32 × zSt)) (sO : zSt) (y0 : Int32) : Option (Int32 × zSt) :=
  (zlet (zsi sO 15 ((zgi sO 15) + (1 : Int32))) (fun sO79 =>
    ((fX12_readsTerm sO79 y0).bind (fun o84 =>
    (if o84.1 = 0 then
    some ((0 : Int32), o84.2)
  else
    (k39 o84.2))))))
def fX12_readsSum_57 (k39 : zSt → Option (Int32 × zSt)) (sO : zSt) : Option (Int32 × zSt) :=
  ((fX12_next sO).bind (fun o58 =>
    (if o58 = (45 : Int32) then
    (fX12_readsSum_71 k39 sO (-1 : Int32))
  else
    (fX12_readsSum_71 k39 sO (1 : Int32)))))
def fX12_readsSum_39 : Nat → zSt → Option (Int32 × zSt)
  | 0, _ => none
  | n + 1, sO =>
    ((fX12_next sO).bind (fun o40 =>
      (if o40 = (43 : Int32) then
      (fX12_readsSum_57 (fX12_readsSum_39 n) sO)
    else
      ((fX12_next sO).bind (fun o49 =>
        (if o49 = (45 : Int32) then
        (fX12_readsSum_57 (fX12_readsSum_39 n) sO)
      else
        some ((1 : Int32), sO)))))))
def fX12_readsSum_29 (sO : zSt) (x1 : Int32) : Option (Int32 × zSt) :=
  ((fX12_readsTerm sO x1).bind (fun o31 =>
    (if o31.1 = 0 then
    some ((0 : Int32), o31.2)
  else
    (fX12_readsSum_39 6000 o31.2))))
def fX12_readsSum_14 (sO : zSt) (y0 : Int32) : Option (Int32 × zSt) :=
  (if 0 ≤ y0 then
    (fX12_readsSum_29 sO y0)
  else
    (zlet (zsi sO 15 ((zgi sO 15) + (1 : Int32))) (fun sO26 =>
      (fX12_readsSum_29 sO26 y0))))
def fX12_readsSum (sO : zSt) : Option (Int32 × zSt) :=
  ((fX12_next sO).bind (fun o1 =>
    (if o1 = (45 : Int32) then
    (fX12_readsSum_14 sO (-1 : Int32))
  else
    (fX12_readsSum_14 sO (1 : Int32)))))
theorem bX12_readsSum_71 {C : zCtx} (X : zFx C cX12_readsSum 2 RX12 rmX12_readsSum (some .boolean)) {aO : Nat → Nat} {k39 : zSt → Option (Int32 × zSt)} {sO : zSt} {y0 : Int32} {out : Int32 × zSt} (hQ : zHi C out.1 [wX12 (zcT C) aO out.2] 0 0) (hk39 : ∀ (sO : zSt), k39 sO = some out → zG C 2 [0] 0 0 [wX12 (zcT C) aO sO] 39 [(0, .ref (aO 0))] []) (h : fX12_readsSum_71 k39 sO y0 = some out) : zG C 2 [0] 0 0 [wX12 (zcT C) aO sO] 71 [(0, .ref (aO 0))] [.int y0] := by
  unfold fX12_readsSum_71 at h
  refine z_istore_n (lv2 := [(1, .int y0), (0, .ref (aO 0))]) X dX12_readsSum_71 rfl (by decide) rfl ?_
  refine z_aload_n X dX12_readsSum_72 1 rfl ?_
  refine z_dup X dX12_readsSum_73 rfl ?_
  refine z_get (v := .int (zgi sO 15)) X 0 0 13 15 ziX12 rfl (by decide) zw1351 rfl dX12_readsSum_74 rfl rfl rfl ?_
  refine z_iconst (v := (1 : Int32)) X dX12_readsSum_77 rfl ?_
  refine z_iadd X dX12_readsSum_78 ?_
  obtain ⟨sO79, esO79, h⟩ := zlet_of h
  refine z_put (ws2 := [wX12 (zcT C) aO sO79]) X 0 0 13 15 ziX12 rfl tyX12 tyX12_ok nmX12 (by decide) zw1351 rfl rfl (ty := .int) (by decide +kernel) rfl rfl (by show 15 < 40; decide) dX12_readsSum_79 rfl rfl (by decide) (w2 := wX12 (zcT C) aO sO79) (by rw [esO79]; rfl) rfl ?_
  refine z_aload_n X dX12_readsSum_82 1 rfl ?_
  refine z_iload_n X dX12_readsSum_83 0 rfl ?_
  obtain ⟨o84, ho84, h⟩ := zbind_of h
  refine z_callVi (st := []) (ws2 := [wX12 (zcT C) aO o84.2]) X (metX12_readsTerm (zcl C) (zcD C) (zcT C) aO ho84) zmX12_readsTerm zw1526 dX12_readsSum_84 0 0 13 rfl rfl rfl rfl [0] rfl rfl [0] rfl (by decide) ⟨zsX12 , trivial⟩ rfl rfl rfl (Nat.le_of_ble_eq_true rfl) rfl rfl ⟨Nat.le_of_ble_eq_true rfl, Nat.le_of_ble_eq_true rfl⟩ ⟨Nat.le_of_ble_eq_true rfl, Nat.le_of_ble_eq_true rfl⟩ ?_
  refine z_if_ne (tgt := 39) X dX12_readsSum_87 (by decide) (fun c87 => ?_) (fun c87 => ?_)
  · replace h := zif_f h c87
    exact z_at (pc2 := 39) (lv2 := [(0, .ref (aO 0))]) (st2 := []) (ws2 := [wX12 (zcT C) aO o84.2]) rfl rfl rfl [1] rfl (hk39 o84.2 h)
  · replace h := zif_t h c87
    refine z_iconst (v := (0 : Int32)) X dX12_readsSum_90 rfl ?_
    cases h
    exact z_nret X hQ rfl dX12_readsSum_91 rfl [0] rfl (by decide) (by decide)
theorem bX12_readsSum_57 {C : zCtx} (X : zFx C cX12_readsSum 2 RX12 rmX12_readsSum (some .boolean)) {aO : Nat → Nat} {k39 : zSt → Option (Int32 × zSt)} {sO : zSt} {out : Int32 × zSt} (hQ : zHi C out.1 [wX12 (zcT C) aO out.2] 0 0) (hk39 : ∀ (sO : zSt), k39 sO = some out → zG C 2 [0] 0 0 [wX12 (zcT C) aO sO] 39 [(0, .ref (aO 0))] []) (h : fX12_readsSum_57 k39 sO = some out) : zG C 2 [0] 0 0 [wX12 (zcT C) aO sO] 57 [(0, .ref (aO 0))] [] := by
  unfold fX12_readsSum_57 at h
  refine z_aload_n X dX12_readsSum_57 0 rfl ?_
  obtain ⟨o58, ho58, h⟩ := zbind_of h
  refine z_callVi (st := []) (ws2 := [wX12 (zcT C) aO sO]) X (metX12_next (zcl C) (zcD C) (zcT C) aO ho58) zmX12_next zw1510 dX12_readsSum_58 0 0 13 rfl rfl rfl rfl [0] rfl rfl [] rfl (by decide) trivial rfl rfl rfl (Nat.le_of_ble_eq_true rfl) rfl rfl ⟨Nat.le_of_ble_eq_true rfl, Nat.le_of_ble_eq_true rfl⟩ ⟨Nat.le_of_ble_eq_true rfl, Nat.le_of_ble_eq_true rfl⟩ ?_
  refine z_bipush (v := (45 : Int32)) X dX12_readsSum_61 rfl ?_
  refine z_icmp_ne (tgt := 70) X dX12_readsSum_63 (by decide) (fun c63 => ?_) (fun c63 => ?_)
  · replace h := zif_f h c63
    refine z_iconst (v := (1 : Int32)) X dX12_readsSum_70 rfl ?_
    exact z_at (pc2 := 71) (lv2 := [(0, .ref (aO 0))]) (st2 := [.int (1 : Int32)]) (ws2 := [wX12 (zcT C) aO sO]) rfl rfl rfl [0] rfl (bX12_readsSum_71 X hQ hk39 h)
  · replace h := zif_t h c63
    refine z_iconst (v := (-1 : Int32)) X dX12_readsSum_66 rfl ?_
    refine z_goto (tgt := 71) X dX12_readsSum_67 (by decide) ?_
    exact z_at (pc2 := 71) (lv2 := [(0, .ref (aO 0))]) (st2 := [.int (-1 : Int32)]) (ws2 := [wX12 (zcT C) aO sO]) rfl rfl rfl [0] rfl (bX12_readsSum_71 X hQ hk39 h)
theorem bX12_readsSum_39 {C : zCtx} (X : zFx C cX12_readsSum 2 RX12 rmX12_readsSum (some .boolean)) {aO : Nat → Nat} {out : Int32 × zSt} (hQ : zHi C out.1 [wX12 (zcT C) aO out.2] 0 0) : ∀ (n : Nat) (sO : zSt), fX12_readsSum_39 n sO = some out → zG C 2 [0] 0 0 [wX12 (zcT C) aO sO] 39 [(0, .ref (aO 0))] [] := by
  intro n
  induction n with
  | zero =>
    intro sO h
    rw [fX12_readsSum_39] at h
    exact zno h
  | succ n ih =>
    intro sO h
    rw [fX12_readsSum_39] at h
    refine z_aload_n X dX12_readsSum_39 0 rfl ?_
    obtain ⟨o40, ho40, h⟩ := zbind_of h
    refine z_callVi (st := []) (ws2 := [wX12 (zcT C) aO sO]) X (metX12_next (zcl C) (zcD C) (zcT C) aO ho40) zmX12_next zw1510 dX12_readsSum_40 0 0 13 rfl rfl rfl rfl [0] rfl rfl [] rfl (by decide) trivial rfl rfl rfl (Nat.le_of_ble_eq_true rfl) rfl rfl ⟨Nat.le_of_ble_eq_true rfl, Nat.le_of_ble_eq_true rfl⟩ ⟨Nat.le_of_ble_eq_true rfl, Nat.le_of_ble_eq_true rfl⟩ ?_
    refine z_bipush (v := (43 : Int32)) X dX12_readsSum_43 rfl ?_
    refine z_icmp_eq (tgt := 57) X dX12_readsSum_45 (by decide) (fun c45 => ?_) (fun c45 => ?_)
    · replace h := zif_t h c45
      exact z_at (pc2 := 57) (lv2 := [(0, .ref (aO 0))]) (st2 := []) (ws2 := [wX12 (zcT C) aO sO]) rfl rfl rfl [0] rfl (bX12_readsSum_57 X hQ ih h)
    · replace h := zif_f h c45
      refine z_aload_n X dX12_readsSum_48 0 rfl ?_
      obtain ⟨o49, ho49, h⟩ := zbind_of h
      refine z_callVi (st := []) (ws2 := [wX12 (zcT C) aO sO]) X (metX12_next (zcl C) (zcD C) (zcT C) aO ho49) zmX12_next zw1510 dX12_readsSum_49 0 0 13 rfl rfl rfl rfl [0] rfl rfl [] rfl (by decide) trivial rfl rfl rfl (Nat.le_of_ble_eq_true rfl) rfl rfl ⟨Nat.le_of_ble_eq_true rfl, Nat.le_of_ble_eq_true rfl⟩ ⟨Nat.le_of_ble_eq_true rfl, Nat.le_of_ble_eq_true rfl⟩ ?_
      refine z_bipush (v := (45 : Int32)) X dX12_readsSum_52 rfl ?_
      refine z_icmp_ne (tgt := 92) X dX12_readsSum_54 (by decide) (fun c54 => ?_) (fun c54 => ?_)
      · replace h := zif_f h c54
        refine z_iconst (v := (1 : Int32)) X dX12_readsSum_92 rfl ?_
        cases h
        exact z_nret X hQ rfl dX12_readsSum_93 rfl [0] rfl (by decide) (by decide)
      · replace h := zif_t h c54
        exact z_at (pc2 := 57) (lv2 := [(0, .ref (aO 0))]) (st2 := []) (ws2 := [wX12 (zcT C) aO sO]) rfl rfl rfl [0] rfl (bX12_readsSum_57 X hQ ih h)
theorem bX12_readsSum_29 {C : zCtx} (X : zFx C cX12_readsSum 2 RX12 rmX12_readsSum (some .boolean)) {aO : Nat → Nat} {sO : zSt} {x1 : Int32} {out : Int32 × zSt} (hQ : zHi C out.1 [wX12 (zcT C) aO out.2] 0 0) (h : fX12_readsSum_29 sO x1 = some out) : zG C 2 [0] 0 0 [wX12 (zcT C) aO sO] 29 [(0, .ref (aO 0)), (1, .int x1)] [] := by
  unfold fX12_readsSum_29 at h
  refine z_aload_n X dX12_readsSum_29 0 rfl ?_
  refine z_iload_n X dX12_readsSum_30 1 rfl ?_
  obtain ⟨o31, ho31, h⟩ := zbind_of h
  refine z_callVi (st := []) (ws2 := [wX12 (zcT C) aO o31.2]) X (metX12_readsTerm (zcl C) (zcD C) (zcT C) aO ho31) zmX12_readsTerm zw1526 dX12_readsSum_31 0 0 13 rfl rfl rfl rfl [0] rfl rfl [0] rfl (by decide) ⟨zsX12 , trivial⟩ rfl rfl rfl (Nat.le_of_ble_eq_true rfl) rfl rfl ⟨Nat.le_of_ble_eq_true rfl, Nat.le_of_ble_eq_true rfl⟩ ⟨Nat.le_of_ble_eq_true rfl, Nat.le_of_ble_eq_true rfl⟩ ?_
  refine z_if_ne (tgt := 39) X dX12_readsSum_34 (by decide) (fun c34 => ?_) (fun c34 => ?_)
  · replace h := zif_f h c34
    exact z_at (pc2 := 39) (lv2 := [(0, .ref (aO 0))]) (st2 := []) (ws2 := [wX12 (zcT C) aO o31.2]) rfl rfl rfl [0] rfl (bX12_readsSum_39 X hQ  6000 o31.2 h)
  · replace h := zif_t h c34
    refine z_iconst (v := (0 : Int32)) X dX12_readsSum_37 rfl ?_
    cases h
    exact z_nret X hQ rfl dX12_readsSum_38 rfl [0] rfl (by decide) (by decide)
theorem bX12_readsSum_14 {C : zCtx} (X : zFx C cX12_readsSum 2 RX12 rmX12_readsSum (some .boolean)) {aO : Nat → Nat} {sO : zSt} {y0 : Int32} {out : Int32 × zSt} (hQ : zHi C out.1 [wX12 (zcT C) aO out.2] 0 0) (h : fX12_readsSum_14 sO y0 = some out) : zG C 2 [0] 0 0 [wX12 (zcT C) aO sO] 14 [(0, .ref (aO 0))] [.int y0] := by
  unfold fX12_readsSum_14 at h
  refine z_istore_n (lv2 := [(1, .int y0), (0, .ref (aO 0))]) X dX12_readsSum_14 rfl (by decide) rfl ?_
  refine z_iload_n X dX12_readsSum_15 0 rfl ?_
  refine z_if_ge (tgt := 29) X dX12_readsSum_16 (by decide) (fun c16 => ?_) (fun c16 => ?_)
  · replace h := zif_t h c16
    exact z_at (pc2 := 29) (lv2 := [(0, .ref (aO 0)), (1, .int y0)]) (st2 := []) (ws2 := [wX12 (zcT C) aO sO]) rfl rfl rfl [1, 0] rfl (bX12_readsSum_29 X hQ  h)
  · replace h := zif_f h c16
    refine z_aload_n X dX12_readsSum_19 1 rfl ?_
    refine z_dup X dX12_readsSum_20 rfl ?_
    refine z_get (v := .int (zgi sO 15)) X 0 0 13 15 ziX12 rfl (by decide) zw1351 rfl dX12_readsSum_21 rfl rfl rfl ?_
    refine z_iconst (v := (1 : Int32)) X dX12_readsSum_24 rfl ?_
    refine z_iadd X dX12_readsSum_25 ?_
    obtain ⟨sO26, esO26, h⟩ := zlet_of h
    refine z_put (ws2 := [wX12 (zcT C) aO sO26]) X 0 0 13 15 ziX12 rfl tyX12 tyX12_ok nmX12 (by decide) zw1351 rfl rfl (ty := .int) (by decide +kernel) rfl rfl (by show 15 < 40; decide) dX12_readsSum_26 rfl rfl (by decide) (w2 := wX12 (zcT C) aO sO26) (by rw [esO26]; rfl) rfl ?_
    exact z_at (pc2 := 29) (lv2 := [(0, .ref (aO 0)), (1, .int y0)]) (st2 := []) (ws2 := [wX12 (zcT C) aO sO26]) rfl rfl rfl [1, 0] rfl (bX12_readsSum_29 X hQ  h)
theorem bX12_readsSum_0 {C : zCtx} (X : zFx C cX12_readsSum 2 RX12 rmX12_readsSum (some .boolean)) {aO : Nat → Nat} {sO : zSt} {out : Int32 × zSt} (hQ : zHi C out.1 [wX12 (zcT C) aO out.2] 0 0) (h : fX12_readsSum sO = some out) : zG C 2 [0] 0 0 [wX12 (zcT C) aO sO] 0 [(0, .ref (aO 0))] [] := by
  unfold fX12_readsSum at h
  refine z_aload_n X dX12_readsSum_0 0 rfl ?_
  obtain ⟨o1, ho1, h⟩ := zbind_of h
  refine z_callVi (st := []) (ws2 := [wX12 (zcT C) aO sO]) X (metX12_next (zcl C) (zcD C) (zcT C) aO ho1) zmX12_next zw1510 dX12_readsSum_1 0 0 13 rfl rfl rfl rfl [0] rfl rfl [] rfl (by decide) trivial rfl rfl rfl (Nat.le_of_ble_eq_true rfl) rfl rfl ⟨Nat.le_of_ble_eq_true rfl, Nat.le_of_ble_eq_true rfl⟩ ⟨Nat.le_of_ble_eq_true rfl, Nat.le_of_ble_eq_true rfl⟩ ?_
  refine z_bipush (v := (45 : Int32)) X dX12_readsSum_4 rfl ?_
  refine z_icmp_ne (tgt := 13) X dX12_readsSum_6 (by decide) (fun c6 => ?_) (fun c6 => ?_)
  · replace h := zif_f h c6
    refine z_iconst (v := (1 : Int32)) X dX12_readsSum_13 rfl ?_
    exact z_at (pc2 := 14) (lv2 := [(0, .ref (aO 0))]) (st2 := [.int (1 : Int32)]) (ws2 := [wX12 (zcT C) aO sO]) rfl rfl rfl [0] rfl (bX12_readsSum_14 X hQ  h)
  · replace h := zif_t h c6
    refine z_iconst (v := (-1 : Int32)) X dX12_readsSum_9 rfl ?_
    refine z_goto (tgt := 14) X dX12_readsSum_10 (by decide) ?_
    exact z_at (pc2 := 14) (lv2 := [(0, .ref (aO 0))]) (st2 := [.int (-1 : Int32)]) (ws2 := [wX12 (zcT C) aO sO]) rfl rfl rfl [0] rfl (bX12_readsSum_14 X hQ  h)
theorem metX12_readsSum (l : Launch) (D : va_G) (T : Nat → ClassId) (aO : Nat → Nat) {sO : zSt} {out : Int32 × zSt} (hf : fX12_readsSum sO = some out) (sz : Nat) : Met l yX12_readsSum (zws yX12_readsSum cX12_readsSum 2 (some .boolean)) rmX12_readsSum (zPc D T [.ref (aO 0)] [wX12 T aO sO] sz) (zQi D out.1 [wX12 T aO out.2] (zA [wX12 T aO sO] sz)) 0 0 (zA [wX12 T aO sO] sz) :=
  zMet (D := D) (T := T) (av := [.ref (aO 0)]) (ws := fun T => [wX12 T aO sO]) (wm := fun T => [wX12 T aO sO]) (lv0 := [(0, .ref (aO 0))]) [0] (Qc := fun D T A => zQi D out.1 [wX12 T aO out.2] A) (by decide +kernel) rfl (Nat.le_of_ble_eq_true rfl) rfl (fun C X hQ => bX12_readsSum_0 X hQ hf) sz
/-- private boolean readsNumber(); of TableaufloorModel -/
abbrev rmX12_readsNumber : Room := { frames := 1, cells := 0, slots := 0, locals := 21 }
def fX12_readsNumber_106 (sO : zSt) (x1 : Int32) : Option (Int32 × zSt) :=
  (zlet (zsi sO 17 ((zgi sO 17) * x1)) (fun sO113 =>
    some ((1 : Int32), sO113)))
def fX12_readsNumber_29 (sO : zSt) (x1 : Int32) : Option (Int32 × zSt) :=
  ((fX12_next sO).bind (fun o30 =>
    ((fX12_isDigit o30).bind (fun o33 =>
    (if o33 = 0 then
    ((fX12_fails sO (115 : Int32)).bind (fun o42 =>
      (if znar .boolean o42.1 = true then
      some (o42.1, o42.2) else none)))
  else
    ((fX12_next sO).bind (fun o48 =>
      (zlet (zsi sO 17 (o48 - (48 : Int32))) (fun sO54 =>
      (zlet (zsi sO54 15 ((zgi sO54 15) + (1 : Int32))) (fun sO64 =>
      ((fX12_next sO64).bind (fun o68 =>
      ((fX12_isDigit o68).bind (fun o71 =>
      (if o71 = 0 then
      (fX12_readsNumber_106 sO64 x1)
    else
      ((fX12_next sO64).bind (fun o86 =>
        (zlet (zsi sO64 17 ((((10 : Int32) * (zgi sO64 17)) + o86) - (48 : Int32))) (fun sO93 =>
        (zlet (zsi sO93 15 ((zgi sO93 15) + (1 : Int32))) (fun sO103 =>
        (fX12_readsNumber_106 sO103 x1)))))))))))))))))))))))
def fX12_readsNumber_14 (sO : zSt) (y0 : Int32) : Option (Int32 × zSt) :=
  (if 0 ≤ y0 then
    (fX12_readsNumber_29 sO y0)
  else
    (zlet (zsi sO 15 ((zgi sO 15) + (1 : Int32))) (fun sO26 =>
      (fX12_readsNumber_29 sO26 y0))))
def fX12_readsNumber (sO : zSt) : Option (Int32 × zSt) :=
  ((fX12_next sO).bind (fun o1 =>
    (if o1 = (45 : Int32) then
    (fX12_readsNumber_14 sO (-1 : Int32))
  else
    (fX12_readsNumber_14 sO (1 : Int32)))))
theorem bX12_readsNumber_106 {C : zCtx} (X : zFx C cX12_readsNumber 2 RX12 rmX12_readsNumber (some .boolean)) {aO : Nat → Nat} {sO : zSt} {x1 : Int32} {out : Int32 × zSt} (hQ : zHi C out.1 [wX12 (zcT C) aO out.2] 0 0) (h : fX12_readsNumber_106 sO x1 = some out) : zG C 2 [0] 0 0 [wX12 (zcT C) aO sO] 106 [(0, .ref (aO 0)), (1, .int x1)] [] := by
  unfold fX12_readsNumber_106 at h
  refine z_aload_n X dX12_readsNumber_106 0 rfl ?_
  refine z_dup X dX12_readsNumber_107 rfl ?_
  refine z_get (v := .int (zgi sO 17)) X 0 0 13 17 ziX12 rfl (by decide) zw1353 rfl dX12_readsNumber_108 rfl rfl rfl ?_
  refine z_iload_n X dX12_readsNumber_111 1 rfl ?_
  refine z_imul X dX12_readsNumber_112 ?_
  obtain ⟨sO113, esO113, h⟩ := zlet_of h
  refine z_put (ws2 := [wX12 (zcT C) aO sO113]) X 0 0 13 17 ziX12 rfl tyX12 tyX12_ok nmX12 (by decide) zw1353 rfl rfl (ty := .int) (by decide +kernel) rfl rfl (by show 17 < 40; decide) dX12_readsNumber_113 rfl rfl (by decide) (w2 := wX12 (zcT C) aO sO113) (by rw [esO113]; rfl) rfl ?_
  refine z_iconst (v := (1 : Int32)) X dX12_readsNumber_116 rfl ?_
  cases h
  exact z_nret X hQ rfl dX12_readsNumber_117 rfl [0] rfl (by decide) (by decide)
theorem bX12_readsNumber_29 {C : zCtx} (X : zFx C cX12_readsNumber 2 RX12 rmX12_readsNumber (some .boolean)) {aO : Nat → Nat} {sO : zSt} {x1 : Int32} {out : Int32 × zSt} (hQ : zHi C out.1 [wX12 (zcT C) aO out.2] 0 0) (h : fX12_readsNumber_29 sO x1 = some out) : zG C 2 [0] 0 0 [wX12 (zcT C) aO sO] 29 [(0, .ref (aO 0)), (1, .int x1)] [] := by
  unfold fX12_readsNumber_29 at h
  refine z_aload_n X dX12_readsNumber_29 0 rfl ?_
  obtain ⟨o30, ho30, h⟩ := zbind_of h
  refine z_callVi (st := []) (ws2 := [wX12 (zcT C) aO sO]) X (metX12_next (zcl C) (zcD C) (zcT C) aO ho30) zmX12_next zw1510 dX12_readsNumber_30 0 0 13 rfl rfl rfl rfl [0] rfl rfl [] rfl (by decide) trivial rfl rfl rfl (Nat.le_of_ble_eq_true rfl) rfl rfl ⟨Nat.le_of_ble_eq_true rfl, Nat.le_of_ble_eq_true rfl⟩ ⟨Nat.le_of_ble_eq_true rfl, Nat.le_of_ble_eq_true rfl⟩ ?_
  obtain ⟨o33, ho33, h⟩ := zbind_of h
  refine z_callSi (st := []) (ws2 := [wX12 (zcT C) aO sO]) X (metX12_isDigit (zcl C) (zcD C) (zcT C)  ho33) zmX12_isDigit zw1484 dX12_readsNumber_33 [] rfl rfl [] rfl (by decide) trivial rfl rfl rfl (Nat.le_of_ble_eq_true rfl) rfl rfl ⟨Nat.le_of_ble_eq_true rfl, Nat.le_of_ble_eq_true rfl⟩ ⟨Nat.le_of_ble_eq_true rfl, Nat.le_of_ble_eq_true rfl⟩ ?_
  refine z_if_ne (tgt := 46) X dX12_readsNumber_36 (by decide) (fun c36 => ?_) (fun c36 => ?_)
  · replace h := zif_f h c36
    refine z_aload_n X dX12_readsNumber_46 0 rfl ?_
    refine z_aload_n X dX12_readsNumber_47 0 rfl ?_
    obtain ⟨o48, ho48, h⟩ := zbind_of h
    refine z_callVi (st := [.ref (aO 0)]) (ws2 := [wX12 (zcT C) aO sO]) X (metX12_next (zcl C) (zcD C) (zcT C) aO ho48) zmX12_next zw1510 dX12_readsNumber_48 0 0 13 rfl rfl rfl rfl [0] rfl rfl [] rfl (by decide) trivial rfl rfl rfl (Nat.le_of_ble_eq_true rfl) rfl rfl ⟨Nat.le_of_ble_eq_true rfl, Nat.le_of_ble_eq_true rfl⟩ ⟨Nat.le_of_ble_eq_true rfl, Nat.le_of_ble_eq_true rfl⟩ ?_
    refine z_bipush (v := (48 : Int32)) X dX12_readsNumber_51 rfl ?_
    refine z_isub X dX12_readsNumber_53 ?_
    obtain ⟨sO54, esO54, h⟩ := zlet_of h
    refine z_put (ws2 := [wX12 (zcT C) aO sO54]) X 0 0 13 17 ziX12 rfl tyX12 tyX12_ok nmX12 (by decide) zw1353 rfl rfl (ty := .int) (by decide +kernel) rfl rfl (by show 17 < 40; decide) dX12_readsNumber_54 rfl rfl (by decide) (w2 := wX12 (zcT C) aO sO54) (by rw [esO54]; rfl) rfl ?_
    refine z_aload_n X dX12_readsNumber_57 0 rfl ?_
    refine z_dup X dX12_readsNumber_58 rfl ?_
    refine z_get (v := .int (zgi sO54 15)) X 0 0 13 15 ziX12 rfl (by decide) zw1351 rfl dX12_readsNumber_59 rfl rfl rfl ?_
    refine z_iconst (v := (1 : Int32)) X dX12_readsNumber_62 rfl ?_
    refine z_iadd X dX12_readsNumber_63 ?_
    obtain ⟨sO64, esO64, h⟩ := zlet_of h
    refine z_put (ws2 := [wX12 (zcT C) aO sO64]) X 0 0 13 15 ziX12 rfl tyX12 tyX12_ok nmX12 (by decide) zw1351 rfl rfl (ty := .int) (by decide +kernel) rfl rfl (by show 15 < 40; decide) dX12_readsNumber_64 rfl rfl (by decide) (w2 := wX12 (zcT C) aO sO64) (by rw [esO64]; rfl) rfl ?_
    refine z_aload_n X dX12_readsNumber_67 0 rfl ?_
    obtain ⟨o68, ho68, h⟩ := zbind_of h
    refine z_callVi (st := []) (ws2 := [wX12 (zcT C) aO sO64]) X (metX12_next (zcl C) (zcD C) (zcT C) aO ho68) zmX12_next zw1510 dX12_readsNumber_68 0 0 13 rfl rfl rfl rfl [0] rfl rfl [] rfl (by decide) trivial rfl rfl rfl (Nat.le_of_ble_eq_true rfl) rfl rfl ⟨Nat.le_of_ble_eq_true rfl, Nat.le_of_ble_eq_true rfl⟩ ⟨Nat.le_of_ble_eq_true rfl, Nat.le_of_ble_eq_true rfl⟩ ?_
    obtain ⟨o71, ho71, h⟩ := zbind_of h
    refine z_callSi (st := []) (ws2 := [wX12 (zcT C) aO sO64]) X (metX12_isDigit (zcl C) (zcD C) (zcT C)  ho71) zmX12_isDigit zw1484 dX12_readsNumber_71 [] rfl rfl [] rfl (by decide) trivial rfl rfl rfl (Nat.le_of_ble_eq_true rfl) rfl rfl ⟨Nat.le_of_ble_eq_true rfl, Nat.le_of_ble_eq_true rfl⟩ ⟨Nat.le_of_ble_eq_true rfl, Nat.le_of_ble_eq_true rfl⟩ ?_
    refine z_if_eq (tgt := 106) X dX12_readsNumber_74 (by decide) (fun c74 => ?_) (fun c74 => ?_)
    · replace h := zif_t h c74
      exact z_at (pc2 := 106) (lv2 := [(0, .ref (aO 0)), (1, .int x1)]) (st2 := []) (ws2 := [wX12 (zcT C) aO sO64]) rfl rfl rfl [0, 1] rfl (bX12_readsNumber_106 X hQ  h)
    · replace h := zif_f h c74
      refine z_aload_n X dX12_readsNumber_77 0 rfl ?_
      refine z_bipush (v := (10 : Int32)) X dX12_readsNumber_78 rfl ?_
      refine z_aload_n X dX12_readsNumber_80 0 rfl ?_
      refine z_get (v := .int (zgi sO64 17)) X 0 0 13 17 ziX12 rfl (by decide) zw1353 rfl dX12_readsNumber_81 rfl rfl rfl ?_
      refine z_imul X dX12_readsNumber_84 ?_
      refine z_aload_n X dX12_readsNumber_85 0 rfl ?_
      obtain ⟨o86, ho86, h⟩ := zbind_of h
      refine z_callVi (st := [.int ((10 : Int32) * (zgi sO64 17)), .ref (aO 0)]) (ws2 := [wX12 (zcT C) aO sO64]) X (metX12_next (zcl C) (zcD C) (zcT C) aO ho86) zmX12_next zw1510 dX12_readsNumber_86 0 0 13 rfl rfl rfl rfl [0] rfl rfl [] rfl (by decide) trivial rfl rfl rfl (Nat.le_of_ble_eq_true rfl) rfl rfl ⟨Nat.le_of_ble_eq_true rfl, Nat.le_of_ble_eq_true rfl⟩ ⟨Nat.le_of_ble_eq_true rfl, Nat.le_of_ble_eq_true rfl⟩ ?_
      refine z_iadd X dX12_readsNumber_89 ?_
      refine z_bipush (v := (48 : Int32)) X dX12_readsNumber_90 rfl ?_
      refine z_isub X dX12_readsNumber_92 ?_
      obtain ⟨sO93, esO93, h⟩ := zlet_of h
      refine z_put (ws2 := [wX12 (zcT C) aO sO93]) X 0 0 13 17 ziX12 rfl tyX12 tyX12_ok nmX12 (by decide) zw1353 rfl rfl (ty := .int) (by decide +kernel) rfl rfl (by show 17 < 40; decide) dX12_readsNumber_93 rfl rfl (by decide) (w2 := wX12 (zcT C) aO sO93) (by rw [esO93]; rfl) rfl ?_
      refine z_aload_n X dX12_readsNumber_96 0 rfl ?_
      refine z_dup X dX12_readsNumber_97 rfl ?_
      refine z_get (v := .int (zgi sO93 15)) X 0 0 13 15 ziX12 rfl (by decide) zw1351 rfl dX12_readsNumber_98 rfl rfl rfl ?_
      refine z_iconst (v := (1 : Int32)) X dX12_readsNumber_101 rfl ?_
      refine z_iadd X dX12_readsNumber_102 ?_
      obtain ⟨sO103, esO103, h⟩ := zlet_of h
      refine z_put (ws2 := [wX12 (zcT C) aO sO103]) X 0 0 13 15 ziX12 rfl tyX12 tyX12_ok nmX12 (by decide) zw1351 rfl rfl (ty := .int) (by decide +kernel) rfl rfl (by show 15 < 40; decide) dX12_readsNumber_103 rfl rfl (by decide) (w2 := wX12 (zcT C) aO sO103) (by rw [esO103]; rfl) rfl ?_
      exact z_at (pc2 := 106) (lv2 := [(0, .ref (aO 0)), (1, .int x1)]) (st2 := []) (ws2 := [wX12 (zcT C) aO sO103]) rfl rfl rfl [0, 1] rfl (bX12_readsNumber_106 X hQ  h)
  · replace h := zif_t h c36
    refine z_aload_n X dX12_readsNumber_39 0 rfl ?_
    refine z_bipush (v := (115 : Int32)) X dX12_readsNumber_40 rfl ?_
    obtain ⟨o42, ho42, h⟩ := zbind_of h
    refine z_callVi (st := []) (ws2 := [wX12 (zcT C) aO o42.2]) X (metX12_fails (zcl C) (zcD C) (zcT C) aO ho42) zmX12_fails zw1514 dX12_readsNumber_42 0 0 13 rfl rfl rfl rfl [0] rfl rfl [0] rfl (by decide) ⟨zsX12 , trivial⟩ rfl rfl rfl (Nat.le_of_ble_eq_true rfl) rfl rfl ⟨Nat.le_of_ble_eq_true rfl, Nat.le_of_ble_eq_true rfl⟩ ⟨Nat.le_of_ble_eq_true rfl, Nat.le_of_ble_eq_true rfl⟩ ?_
    obtain ⟨g45, h⟩ := zgd_of h
    cases h
    exact z_nret X hQ g45 dX12_readsNumber_45 rfl [0] rfl (by decide) (by decide)
theorem bX12_readsNumber_14 {C : zCtx} (X : zFx C cX12_readsNumber 2 RX12 rmX12_readsNumber (some .boolean)) {aO : Nat → Nat} {sO : zSt} {y0 : Int32} {out : Int32 × zSt} (hQ : zHi C out.1 [wX12 (zcT C) aO out.2] 0 0) (h : fX12_readsNumber_14 sO y0 = some out) : zG C 2 [0] 0 0 [wX12 (zcT C) aO sO] 14 [(0, .ref (aO 0))] [.int y0] := by
  unfold fX12_readsNumber_14 at h
  refine z_istore_n (lv2 := [(1, .int y0), (0, .ref (aO 0))]) X dX12_readsNumber_14 rfl (by decide) rfl ?_
  refine z_iload_n X dX12_readsNumber_15 0 rfl ?_
  refine z_if_ge (tgt := 29) X dX12_readsNumber_16 (by decide) (fun c16 => ?_) (fun c16 => ?_)
  · replace h := zif_t h c16
    exact z_at (pc2 := 29) (lv2 := [(0, .ref (aO 0)), (1, .int y0)]) (st2 := []) (ws2 := [wX12 (zcT C) aO sO]) rfl rfl rfl [1, 0] rfl (bX12_readsNumber_29 X hQ  h)
  · replace h := zif_f h c16
    refine z_aload_n X dX12_readsNumber_19 1 rfl ?_
    refine z_dup X dX12_readsNumber_20 rfl ?_
    refine z_get (v := .int (zgi sO 15)) X 0 0 13 15 ziX12 rfl (by decide) zw1351 rfl dX12_readsNumber_21 rfl rfl rfl ?_
    refine z_iconst (v := (1 : Int32)) X dX12_readsNumber_24 rfl ?_
    refine z_iadd X dX12_readsNumber_25 ?_
    obtain ⟨sO26, esO26, h⟩ := zlet_of h
    refine z_put (ws2 := [wX12 (zcT C) aO sO26]) X 0 0 13 15 ziX12 rfl tyX12 tyX12_ok nmX12 (by decide) zw1351 rfl rfl (ty := .int) (by decide +kernel) rfl rfl (by show 15 < 40; decide) dX12_readsNumber_26 rfl rfl (by decide) (w2 := wX12 (zcT C) aO sO26) (by rw [esO26]; rfl) rfl ?_
    exact z_at (pc2 := 29) (lv2 := [(0, .ref (aO 0)), (1, .int y0)]) (st2 := []) (ws2 := [wX12 (zcT C) aO sO26]) rfl rfl rfl [1, 0] rfl (bX12_readsNumber_29 X hQ  h)
theorem bX12_readsNumber_0 {C : zCtx} (X : zFx C cX12_readsNumber 2 RX12 rmX12_readsNumber (some .boolean)) {aO : Nat → Nat} {sO : zSt} {out : Int32 × zSt} (hQ : zHi C out.1 [wX12 (zcT C) aO out.2] 0 0) (h : fX12_readsNumber sO = some out) : zG C 2 [0] 0 0 [wX12 (zcT C) aO sO] 0 [(0, .ref (aO 0))] [] := by
  unfold fX12_readsNumber at h
  refine z_aload_n X dX12_readsNumber_0 0 rfl ?_
  obtain ⟨o1, ho1, h⟩ := zbind_of h
  refine z_callVi (st := []) (ws2 := [wX12 (zcT C) aO sO]) X (metX12_next (zcl C) (zcD C) (zcT C) aO ho1) zmX12_next zw1510 dX12_readsNumber_1 0 0 13 rfl rfl rfl rfl [0] rfl rfl [] rfl (by decide) trivial rfl rfl rfl (Nat.le_of_ble_eq_true rfl) rfl rfl ⟨Nat.le_of_ble_eq_true rfl, Nat.le_of_ble_eq_true rfl⟩ ⟨Nat.le_of_ble_eq_true rfl, Nat.le_of_ble_eq_true rfl⟩ ?_
  refine z_bipush (v := (45 : Int32)) X dX12_readsNumber_4 rfl ?_
  refine z_icmp_ne (tgt := 13) X dX12_readsNumber_6 (by decide) (fun c6 => ?_) (fun c6 => ?_)
  · replace h := zif_f h c6
    refine z_iconst (v := (1 : Int32)) X dX12_readsNumber_13 rfl ?_
    exact z_at (pc2 := 14) (lv2 := [(0, .ref (aO 0))]) (st2 := [.int (1 : Int32)]) (ws2 := [wX12 (zcT C) aO sO]) rfl rfl rfl [0] rfl (bX12_readsNumber_14 X hQ  h)
  · replace h := zif_t h c6
    refine z_iconst (v := (-1 : Int32)) X dX12_readsNumber_9 rfl ?_
    refine z_goto (tgt := 14) X dX12_readsNumber_10 (by decide) ?_
    exact z_at (pc2 := 14) (lv2 := [(0, .ref (aO 0))]) (st2 := [.int (-1 : Int32)]) (ws2 := [wX12 (zcT C) aO sO]) rfl rfl rfl [0] rfl (bX12_readsNumber_14 X hQ  h)
theorem metX12_readsNumber (l : Launch) (D : va_G) (T : Nat → ClassId) (aO : Nat → Nat) {sO : zSt} {out : Int32 × zSt} (hf : fX12_readsNumber sO = some out) (sz : Nat) : Met l yX12_readsNumber (zws yX12_readsNumber cX12_readsNumber 2 (some .boolean)) rmX12_readsNumber (zPc D T [.ref (aO 0)] [wX12 T aO sO] sz) (zQi D out.1 [wX12 T aO out.2] (zA [wX12 T aO sO] sz)) 0 0 (zA [wX12 T aO sO] sz) :=
  zMet (D := D) (T := T) (av := [.ref (aO 0)]) (ws := fun T => [wX12 T aO sO]) (wm := fun T => [wX12 T aO sO]) (lv0 := [(0, .ref (aO 0))]) [0] (Qc := fun D T A => zQi D out.1 [wX12 T aO out.2] A) (by decide +kernel) rfl (Nat.le_of_ble_eq_true rfl) rfl (fun C X hQ => bX12_readsNumber_0 X hQ hf) sz
/-- private boolean readsRelation(); of TableaufloorModel -/
abbrev rmX12_readsRelation : Room := { frames := 2, cells := 0, slots := 0, locals := 42 }
def fX12_readsRelation_52 (sO : zSt) : Option (Int32 × zSt) :=
  ((fX12_goes sO (61 : Int32)).bind (fun o55 =>
    (if znar .boolean o55.1 = true then
    some (o55.1, o55.2) else none)))
def fX12_readsRelation_42 (sO : zSt) : Option (Int32 × zSt) :=
  (zlet (zsi sO 15 ((zgi sO 15) + (1 : Int32))) (fun sO49 =>
    (fX12_readsRelation_52 sO49)))
def fX12_readsRelation_27 (sO : zSt) (x1 : Int32) (y1 : Int32) : Option (Int32 × zSt) :=
  (zlet (zsi sO 16 y1) (fun sO27 =>
    (if x1 = (60 : Int32) then
    (fX12_readsRelation_42 sO27)
  else
    (if x1 = (62 : Int32) then
      (fX12_readsRelation_42 sO27)
    else
      (fX12_readsRelation_52 sO27)))))
def fX12_readsRelation (sO : zSt) : Option (Int32 × zSt) :=
  ((fX12_next sO).bind (fun o1 =>
    (if o1 = (60 : Int32) then
    (fX12_readsRelation_27 sO o1 (0 : Int32))
  else
    (if o1 = (62 : Int32) then
      (fX12_readsRelation_27 sO o1 (1 : Int32))
    else
      (fX12_readsRelation_27 sO o1 (2 : Int32))))))
theorem bX12_readsRelation_52 {C : zCtx} (X : zFx C cX12_readsRelation 2 RX12 rmX12_readsRelation (some .boolean)) {aO : Nat → Nat} {sO : zSt} {out : Int32 × zSt} (hQ : zHi C out.1 [wX12 (zcT C) aO out.2] 0 0) (h : fX12_readsRelation_52 sO = some out) : zG C 2 [0] 0 0 [wX12 (zcT C) aO sO] 52 [(0, .ref (aO 0))] [] := by
  unfold fX12_readsRelation_52 at h
  refine z_aload_n X dX12_readsRelation_52 0 rfl ?_
  refine z_bipush (v := (61 : Int32)) X dX12_readsRelation_53 rfl ?_
  obtain ⟨o55, ho55, h⟩ := zbind_of h
  refine z_callVi (st := []) (ws2 := [wX12 (zcT C) aO o55.2]) X (metX12_goes (zcl C) (zcD C) (zcT C) aO ho55) zmX12_goes zw1518 dX12_readsRelation_55 0 0 13 rfl rfl rfl rfl [0] rfl rfl [0] rfl (by decide) ⟨zsX12 , trivial⟩ rfl rfl rfl (Nat.le_of_ble_eq_true rfl) rfl rfl ⟨Nat.le_of_ble_eq_true rfl, Nat.le_of_ble_eq_true rfl⟩ ⟨Nat.le_of_ble_eq_true rfl, Nat.le_of_ble_eq_true rfl⟩ ?_
  obtain ⟨g58, h⟩ := zgd_of h
  cases h
  exact z_nret X hQ g58 dX12_readsRelation_58 rfl [0] rfl (by decide) (by decide)
theorem bX12_readsRelation_42 {C : zCtx} (X : zFx C cX12_readsRelation 2 RX12 rmX12_readsRelation (some .boolean)) {aO : Nat → Nat} {sO : zSt} {out : Int32 × zSt} (hQ : zHi C out.1 [wX12 (zcT C) aO out.2] 0 0) (h : fX12_readsRelation_42 sO = some out) : zG C 2 [0] 0 0 [wX12 (zcT C) aO sO] 42 [(0, .ref (aO 0))] [] := by
  unfold fX12_readsRelation_42 at h
  refine z_aload_n X dX12_readsRelation_42 0 rfl ?_
  refine z_dup X dX12_readsRelation_43 rfl ?_
  refine z_get (v := .int (zgi sO 15)) X 0 0 13 15 ziX12 rfl (by decide) zw1351 rfl dX12_readsRelation_44 rfl rfl rfl ?_
  refine z_iconst (v := (1 : Int32)) X dX12_readsRelation_47 rfl ?_
  refine z_iadd X dX12_readsRelation_48 ?_
  obtain ⟨sO49, esO49, h⟩ := zlet_of h
  refine z_put (ws2 := [wX12 (zcT C) aO sO49]) X 0 0 13 15 ziX12 rfl tyX12 tyX12_ok nmX12 (by decide) zw1351 rfl rfl (ty := .int) (by decide +kernel) rfl rfl (by show 15 < 40; decide) dX12_readsRelation_49 rfl rfl (by decide) (w2 := wX12 (zcT C) aO sO49) (by rw [esO49]; rfl) rfl ?_
  exact z_at (pc2 := 52) (lv2 := [(0, .ref (aO 0))]) (st2 := []) (ws2 := [wX12 (zcT C) aO sO49]) rfl rfl rfl [0] rfl (bX12_readsRelation_52 X hQ  h)
theorem bX12_readsRelation_27 {C : zCtx} (X : zFx C cX12_readsRelation 2 RX12 rmX12_readsRelation (some .boolean)) {aO : Nat → Nat} {sO : zSt} {x1 : Int32} {y1 : Int32} {out : Int32 × zSt} (hQ : zHi C out.1 [wX12 (zcT C) aO out.2] 0 0) (h : fX12_readsRelation_27 sO x1 y1 = some out) : zG C 2 [0] 0 0 [wX12 (zcT C) aO sO] 27 [(0, .ref (aO 0)), (1, .int x1)] [.int y1, .ref (aO 0)] := by
  unfold fX12_readsRelation_27 at h
  obtain ⟨sO27, esO27, h⟩ := zlet_of h
  refine z_put (ws2 := [wX12 (zcT C) aO sO27]) X 0 0 13 16 ziX12 rfl tyX12 tyX12_ok nmX12 (by decide) zw1352 rfl rfl (ty := .int) (by decide +kernel) rfl rfl (by show 16 < 40; decide) dX12_readsRelation_27 rfl rfl (by decide) (w2 := wX12 (zcT C) aO sO27) (by rw [esO27]; rfl) rfl ?_
  refine z_iload_n X dX12_readsRelation_30 1 rfl ?_
  refine z_bipush (v := (60 : Int32)) X dX12_readsRelation_31 rfl ?_
  refine z_icmp_eq (tgt := 42) X dX12_readsRelation_33 (by decide) (fun c33 => ?_) (fun c33 => ?_)
  · replace h := zif_t h c33
    exact z_at (pc2 := 42) (lv2 := [(0, .ref (aO 0))]) (st2 := []) (ws2 := [wX12 (zcT C) aO sO27]) rfl rfl rfl [0] rfl (bX12_readsRelation_42 X hQ  h)
  · replace h := zif_f h c33
    refine z_iload_n X dX12_readsRelation_36 1 rfl ?_
    refine z_bipush (v := (62 : Int32)) X dX12_readsRelation_37 rfl ?_
    refine z_icmp_ne (tgt := 52) X dX12_readsRelation_39 (by decide) (fun c39 => ?_) (fun c39 => ?_)
    · replace h := zif_f h c39
      exact z_at (pc2 := 52) (lv2 := [(0, .ref (aO 0))]) (st2 := []) (ws2 := [wX12 (zcT C) aO sO27]) rfl rfl rfl [0] rfl (bX12_readsRelation_52 X hQ  h)
    · replace h := zif_t h c39
      exact z_at (pc2 := 42) (lv2 := [(0, .ref (aO 0))]) (st2 := []) (ws2 := [wX12 (zcT C) aO sO27]) rfl rfl rfl [0] rfl (bX12_readsRelation_42 X hQ  h)
theorem bX12_readsRelation_0 {C : zCtx} (X : zFx C cX12_readsRelation 2 RX12 rmX12_readsRelation (some .boolean)) {aO : Nat → Nat} {sO : zSt} {out : Int32 × zSt} (hQ : zHi C out.1 [wX12 (zcT C) aO out.2] 0 0) (h : fX12_readsRelation sO = some out) : zG C 2 [0] 0 0 [wX12 (zcT C) aO sO] 0 [(0, .ref (aO 0))] [] := by
  unfold fX12_readsRelation at h
  refine z_aload_n X dX12_readsRelation_0 0 rfl ?_
  obtain ⟨o1, ho1, h⟩ := zbind_of h
  refine z_callVi (st := []) (ws2 := [wX12 (zcT C) aO sO]) X (metX12_next (zcl C) (zcD C) (zcT C) aO ho1) zmX12_next zw1510 dX12_readsRelation_1 0 0 13 rfl rfl rfl rfl [0] rfl rfl [] rfl (by decide) trivial rfl rfl rfl (Nat.le_of_ble_eq_true rfl) rfl rfl ⟨Nat.le_of_ble_eq_true rfl, Nat.le_of_ble_eq_true rfl⟩ ⟨Nat.le_of_ble_eq_true rfl, Nat.le_of_ble_eq_true rfl⟩ ?_
  refine z_istore_n (lv2 := [(1, .int o1), (0, .ref (aO 0))]) X dX12_readsRelation_4 rfl (by decide) rfl ?_
  refine z_aload_n X dX12_readsRelation_5 1 rfl ?_
  refine z_iload_n X dX12_readsRelation_6 0 rfl ?_
  refine z_bipush (v := (60 : Int32)) X dX12_readsRelation_7 rfl ?_
  refine z_icmp_ne (tgt := 16) X dX12_readsRelation_9 (by decide) (fun c9 => ?_) (fun c9 => ?_)
  · replace h := zif_f h c9
    refine z_iload_n X dX12_readsRelation_16 0 rfl ?_
    refine z_bipush (v := (62 : Int32)) X dX12_readsRelation_17 rfl ?_
    refine z_icmp_ne (tgt := 26) X dX12_readsRelation_19 (by decide) (fun c19 => ?_) (fun c19 => ?_)
    · replace h := zif_f h c19
      refine z_iconst (v := (2 : Int32)) X dX12_readsRelation_26 rfl ?_
      exact z_at (pc2 := 27) (lv2 := [(0, .ref (aO 0)), (1, .int o1)]) (st2 := [.int (2 : Int32), .ref (aO 0)]) (ws2 := [wX12 (zcT C) aO sO]) rfl rfl rfl [1, 0] rfl (bX12_readsRelation_27 X hQ  h)
    · replace h := zif_t h c19
      refine z_iconst (v := (1 : Int32)) X dX12_readsRelation_22 rfl ?_
      refine z_goto (tgt := 27) X dX12_readsRelation_23 (by decide) ?_
      exact z_at (pc2 := 27) (lv2 := [(0, .ref (aO 0)), (1, .int o1)]) (st2 := [.int (1 : Int32), .ref (aO 0)]) (ws2 := [wX12 (zcT C) aO sO]) rfl rfl rfl [1, 0] rfl (bX12_readsRelation_27 X hQ  h)
  · replace h := zif_t h c9
    refine z_iconst (v := (0 : Int32)) X dX12_readsRelation_12 rfl ?_
    refine z_goto (tgt := 27) X dX12_readsRelation_13 (by decide) ?_
    exact z_at (pc2 := 27) (lv2 := [(0, .ref (aO 0)), (1, .int o1)]) (st2 := [.int (0 : Int32), .ref (aO 0)]) (ws2 := [wX12 (zcT C) aO sO]) rfl rfl rfl [1, 0] rfl (bX12_readsRelation_27 X hQ  h)
theorem metX12_readsRelation (l : Launch) (D : va_G) (T : Nat → ClassId) (aO : Nat → Nat) {sO : zSt} {out : Int32 × zSt} (hf : fX12_readsRelation sO = some out) (sz : Nat) : Met l yX12_readsRelation (zws yX12_readsRelation cX12_readsRelation 2 (some .boolean)) rmX12_readsRelation (zPc D T [.ref (aO 0)] [wX12 T aO sO] sz) (zQi D out.1 [wX12 T aO out.2] (zA [wX12 T aO sO] sz)) 0 0 (zA [wX12 T aO sO] sz) :=
  zMet (D := D) (T := T) (av := [.ref (aO 0)]) (ws := fun T => [wX12 T aO sO]) (wm := fun T => [wX12 T aO sO]) (lv0 := [(0, .ref (aO 0))]) [0] (Qc := fun D T A => zQi D out.1 [wX12 T aO out.2] A) (by decide +kernel) rfl (Nat.le_of_ble_eq_true rfl) rfl (fun C X hQ => bX12_readsRelation_0 X hQ hf) sz
/-- private boolean readsEnd(); of TableaufloorModel -/
abbrev rmX12_readsEnd : Room := { frames := 1, cells := 0, slots := 0, locals := 21 }
def fX12_readsEnd_25 (sO : zSt) (y0 : Int32) : Option (Int32 × zSt) :=
  (if znar .boolean y0 = true then
    some (y0, sO) else none)
def fX12_readsEnd_20 (sO : zSt) : Option (Int32 × zSt) :=
  (fX12_readsEnd_25 sO (1 : Int32))
def fX12_readsEnd (sO : zSt) : Option (Int32 × zSt) :=
  (if (zgi sO 15) = (zgi sO 13) then
    (fX12_readsEnd_20 sO)
  else
    ((fX12_fails sO (115 : Int32)).bind (fun o14 =>
      (if o14.1 = 0 then
      (fX12_readsEnd_25 o14.2 (0 : Int32))
    else
      (fX12_readsEnd_20 o14.2)))))
theorem bX12_readsEnd_25 {C : zCtx} (X : zFx C cX12_readsEnd 1 RX12 rmX12_readsEnd (some .boolean)) {aO : Nat → Nat} {sO : zSt} {y0 : Int32} {out : Int32 × zSt} (hQ : zHi C out.1 [wX12 (zcT C) aO out.2] 0 0) (h : fX12_readsEnd_25 sO y0 = some out) : zG C 1 [0] 0 0 [wX12 (zcT C) aO sO] 25 [] [.int y0] := by
  unfold fX12_readsEnd_25 at h
  obtain ⟨g25, h⟩ := zgd_of h
  cases h
  exact z_nret X hQ g25 dX12_readsEnd_25 rfl [0] rfl (by decide) (by decide)
theorem bX12_readsEnd_20 {C : zCtx} (X : zFx C cX12_readsEnd 1 RX12 rmX12_readsEnd (some .boolean)) {aO : Nat → Nat} {sO : zSt} {out : Int32 × zSt} (hQ : zHi C out.1 [wX12 (zcT C) aO out.2] 0 0) (h : fX12_readsEnd_20 sO = some out) : zG C 1 [0] 0 0 [wX12 (zcT C) aO sO] 20 [] [] := by
  unfold fX12_readsEnd_20 at h
  refine z_iconst (v := (1 : Int32)) X dX12_readsEnd_20 rfl ?_
  refine z_goto (tgt := 25) X dX12_readsEnd_21 (by decide) ?_
  exact z_at (pc2 := 25) (lv2 := []) (st2 := [.int (1 : Int32)]) (ws2 := [wX12 (zcT C) aO sO]) rfl rfl rfl [] rfl (bX12_readsEnd_25 X hQ  h)
theorem bX12_readsEnd_0 {C : zCtx} (X : zFx C cX12_readsEnd 1 RX12 rmX12_readsEnd (some .boolean)) {aO : Nat → Nat} {sO : zSt} {out : Int32 × zSt} (hQ : zHi C out.1 [wX12 (zcT C) aO out.2] 0 0) (h : fX12_readsEnd sO = some out) : zG C 1 [0] 0 0 [wX12 (zcT C) aO sO] 0 [(0, .ref (aO 0))] [] := by
  unfold fX12_readsEnd at h
  refine z_aload_n X dX12_readsEnd_0 0 rfl ?_
  refine z_get (v := .int (zgi sO 15)) X 0 0 13 15 ziX12 rfl (by decide) zw1351 rfl dX12_readsEnd_1 rfl rfl rfl ?_
  refine z_aload_n X dX12_readsEnd_4 0 rfl ?_
  refine z_get (v := .int (zgi sO 13)) X 0 0 13 13 ziX12 rfl (by decide) zw1349 rfl dX12_readsEnd_5 rfl rfl rfl ?_
  refine z_icmp_eq (tgt := 20) X dX12_readsEnd_8 (by decide) (fun c8 => ?_) (fun c8 => ?_)
  · replace h := zif_t h c8
    exact z_at (pc2 := 20) (lv2 := []) (st2 := []) (ws2 := [wX12 (zcT C) aO sO]) rfl rfl rfl [] rfl (bX12_readsEnd_20 X hQ  h)
  · replace h := zif_f h c8
    refine z_aload_n X dX12_readsEnd_11 0 rfl ?_
    refine z_bipush (v := (115 : Int32)) X dX12_readsEnd_12 rfl ?_
    obtain ⟨o14, ho14, h⟩ := zbind_of h
    refine z_callVi (st := []) (ws2 := [wX12 (zcT C) aO o14.2]) X (metX12_fails (zcl C) (zcD C) (zcT C) aO ho14) zmX12_fails zw1514 dX12_readsEnd_14 0 0 13 rfl rfl rfl rfl [0] rfl rfl [0] rfl (by decide) ⟨zsX12 , trivial⟩ rfl rfl rfl (Nat.le_of_ble_eq_true rfl) rfl rfl ⟨Nat.le_of_ble_eq_true rfl, Nat.le_of_ble_eq_true rfl⟩ ⟨Nat.le_of_ble_eq_true rfl, Nat.le_of_ble_eq_true rfl⟩ ?_
    refine z_if_eq (tgt := 24) X dX12_readsEnd_17 (by decide) (fun c17 => ?_) (fun c17 => ?_)
    · replace h := zif_t h c17
      refine z_iconst (v := (0 : Int32)) X dX12_readsEnd_24 rfl ?_
      exact z_at (pc2 := 25) (lv2 := []) (st2 := [.int (0 : Int32)]) (ws2 := [wX12 (zcT C) aO o14.2]) rfl rfl rfl [] rfl (bX12_readsEnd_25 X hQ  h)
    · replace h := zif_f h c17
      exact z_at (pc2 := 20) (lv2 := []) (st2 := []) (ws2 := [wX12 (zcT C) aO o14.2]) rfl rfl rfl [] rfl (bX12_readsEnd_20 X hQ  h)
theorem metX12_readsEnd (l : Launch) (D : va_G) (T : Nat → ClassId) (aO : Nat → Nat) {sO : zSt} {out : Int32 × zSt} (hf : fX12_readsEnd sO = some out) (sz : Nat) : Met l yX12_readsEnd (zws yX12_readsEnd cX12_readsEnd 1 (some .boolean)) rmX12_readsEnd (zPc D T [.ref (aO 0)] [wX12 T aO sO] sz) (zQi D out.1 [wX12 T aO out.2] (zA [wX12 T aO sO] sz)) 0 0 (zA [wX12 T aO sO] sz) :=
  zMet (D := D) (T := T) (av := [.ref (aO 0)]) (ws := fun T => [wX12 T aO sO]) (wm := fun T => [wX12 T aO sO]) (lv0 := [(0, .ref (aO 0))]) [0] (Qc := fun D T A => zQi D out.1 [wX12 T aO out.2] A) (by decide +kernel) rfl (Nat.le_of_ble_eq_true rfl) rfl (fun C X hQ => bX12_readsEnd_0 X hQ hf) sz
/-- private boolean readsAim(); of TableaufloorModel -/
abbrev rmX12_readsAim : Room := { frames := 3, cells := 0, slots := 0, locals := 65 }
def fX12_readsAim_78 (sO : zSt) (y0 : Int32) : Option (Int32 × zSt) :=
  (if znar .boolean y0 = true then
    some (y0, sO) else none)
def fX12_readsAim_77 (sO : zSt) : Option (Int32 × zSt) :=
  (fX12_readsAim_78 sO (0 : Int32))
def fX12_readsAim_53 (sO : zSt) (y1 : Int32) : Option (Int32 × zSt) :=
  ((fX12_goes sO y1).bind (fun o53 =>
    (if o53.1 = 0 then
    (fX12_readsAim_77 o53.2)
  else
    ((fX12_readsSum o53.2).bind (fun o60 =>
      (if o60.1 = 0 then
      (fX12_readsAim_77 o60.2)
    else
      ((fX12_readsEnd o60.2).bind (fun o67 =>
        (if o67.1 = 0 then
        (fX12_readsAim_77 o67.2)
      else
        (fX12_readsAim_78 o67.2 (1 : Int32)))))))))))
def fX12_readsAim_29 (sO : zSt) (x1 : Int32) : Option (Int32 × zSt) :=
  (zlet (zsi sO 15 ((zgi sO 15) + (1 : Int32))) (fun sO36 =>
    (if x1 = (97 : Int32) then
    (fX12_readsAim_53 sO36 (120 : Int32))
  else
    (fX12_readsAim_53 sO36 (110 : Int32)))))
def fX12_readsAim (sO : zSt) : Option (Int32 × zSt) :=
  (zlet (zsi sO 15 (1 : Int32)) (fun sO2 =>
    ((fX12_next sO2).bind (fun o6 =>
    (if o6 = (97 : Int32) then
    (fX12_readsAim_29 sO2 o6)
  else
    (if o6 = (105 : Int32) then
      (fX12_readsAim_29 sO2 o6)
    else
      ((fX12_fails sO2 (115 : Int32)).bind (fun o25 =>
        (if znar .boolean o25.1 = true then
        some (o25.1, o25.2) else none)))))))))
theorem bX12_readsAim_78 {C : zCtx} (X : zFx C cX12_readsAim 2 RX12 rmX12_readsAim (some .boolean)) {aO : Nat → Nat} {sO : zSt} {y0 : Int32} {out : Int32 × zSt} (hQ : zHi C out.1 [wX12 (zcT C) aO out.2] 0 0) (h : fX12_readsAim_78 sO y0 = some out) : zG C 2 [0] 0 0 [wX12 (zcT C) aO sO] 78 [] [.int y0] := by
  unfold fX12_readsAim_78 at h
  obtain ⟨g78, h⟩ := zgd_of h
  cases h
  exact z_nret X hQ g78 dX12_readsAim_78 rfl [0] rfl (by decide) (by decide)
theorem bX12_readsAim_77 {C : zCtx} (X : zFx C cX12_readsAim 2 RX12 rmX12_readsAim (some .boolean)) {aO : Nat → Nat} {sO : zSt} {out : Int32 × zSt} (hQ : zHi C out.1 [wX12 (zcT C) aO out.2] 0 0) (h : fX12_readsAim_77 sO = some out) : zG C 2 [0] 0 0 [wX12 (zcT C) aO sO] 77 [] [] := by
  unfold fX12_readsAim_77 at h
  refine z_iconst (v := (0 : Int32)) X dX12_readsAim_77 rfl ?_
  exact z_at (pc2 := 78) (lv2 := []) (st2 := [.int (0 : Int32)]) (ws2 := [wX12 (zcT C) aO sO]) rfl rfl rfl [] rfl (bX12_readsAim_78 X hQ  h)
theorem bX12_readsAim_53 {C : zCtx} (X : zFx C cX12_readsAim 2 RX12 rmX12_readsAim (some .boolean)) {aO : Nat → Nat} {sO : zSt} {y1 : Int32} {out : Int32 × zSt} (hQ : zHi C out.1 [wX12 (zcT C) aO out.2] 0 0) (h : fX12_readsAim_53 sO y1 = some out) : zG C 2 [0] 0 0 [wX12 (zcT C) aO sO] 53 [(0, .ref (aO 0))] [.int y1, .ref (aO 0)] := by
  unfold fX12_readsAim_53 at h
  obtain ⟨o53, ho53, h⟩ := zbind_of h
  refine z_callVi (st := []) (ws2 := [wX12 (zcT C) aO o53.2]) X (metX12_goes (zcl C) (zcD C) (zcT C) aO ho53) zmX12_goes zw1518 dX12_readsAim_53 0 0 13 rfl rfl rfl rfl [0] rfl rfl [0] rfl (by decide) ⟨zsX12 , trivial⟩ rfl rfl rfl (Nat.le_of_ble_eq_true rfl) rfl rfl ⟨Nat.le_of_ble_eq_true rfl, Nat.le_of_ble_eq_true rfl⟩ ⟨Nat.le_of_ble_eq_true rfl, Nat.le_of_ble_eq_true rfl⟩ ?_
  refine z_if_eq (tgt := 77) X dX12_readsAim_56 (by decide) (fun c56 => ?_) (fun c56 => ?_)
  · replace h := zif_t h c56
    exact z_at (pc2 := 77) (lv2 := []) (st2 := []) (ws2 := [wX12 (zcT C) aO o53.2]) rfl rfl rfl [] rfl (bX12_readsAim_77 X hQ  h)
  · replace h := zif_f h c56
    refine z_aload_n X dX12_readsAim_59 0 rfl ?_
    obtain ⟨o60, ho60, h⟩ := zbind_of h
    refine z_callVi (st := []) (ws2 := [wX12 (zcT C) aO o60.2]) X (metX12_readsSum (zcl C) (zcD C) (zcT C) aO ho60) zmX12_readsSum zw1522 dX12_readsAim_60 0 0 13 rfl rfl rfl rfl [0] rfl rfl [0] rfl (by decide) ⟨zsX12 , trivial⟩ rfl rfl rfl (Nat.le_of_ble_eq_true rfl) rfl rfl ⟨Nat.le_of_ble_eq_true rfl, Nat.le_of_ble_eq_true rfl⟩ ⟨Nat.le_of_ble_eq_true rfl, Nat.le_of_ble_eq_true rfl⟩ ?_
    refine z_if_eq (tgt := 77) X dX12_readsAim_63 (by decide) (fun c63 => ?_) (fun c63 => ?_)
    · replace h := zif_t h c63
      exact z_at (pc2 := 77) (lv2 := []) (st2 := []) (ws2 := [wX12 (zcT C) aO o60.2]) rfl rfl rfl [] rfl (bX12_readsAim_77 X hQ  h)
    · replace h := zif_f h c63
      refine z_aload_n X dX12_readsAim_66 0 rfl ?_
      obtain ⟨o67, ho67, h⟩ := zbind_of h
      refine z_callVi (st := []) (ws2 := [wX12 (zcT C) aO o67.2]) X (metX12_readsEnd (zcl C) (zcD C) (zcT C) aO ho67) zmX12_readsEnd zw1530 dX12_readsAim_67 0 0 13 rfl rfl rfl rfl [0] rfl rfl [0] rfl (by decide) ⟨zsX12 , trivial⟩ rfl rfl rfl (Nat.le_of_ble_eq_true rfl) rfl rfl ⟨Nat.le_of_ble_eq_true rfl, Nat.le_of_ble_eq_true rfl⟩ ⟨Nat.le_of_ble_eq_true rfl, Nat.le_of_ble_eq_true rfl⟩ ?_
      refine z_if_eq (tgt := 77) X dX12_readsAim_70 (by decide) (fun c70 => ?_) (fun c70 => ?_)
      · replace h := zif_t h c70
        exact z_at (pc2 := 77) (lv2 := []) (st2 := []) (ws2 := [wX12 (zcT C) aO o67.2]) rfl rfl rfl [] rfl (bX12_readsAim_77 X hQ  h)
      · replace h := zif_f h c70
        refine z_iconst (v := (1 : Int32)) X dX12_readsAim_73 rfl ?_
        refine z_goto (tgt := 78) X dX12_readsAim_74 (by decide) ?_
        exact z_at (pc2 := 78) (lv2 := []) (st2 := [.int (1 : Int32)]) (ws2 := [wX12 (zcT C) aO o67.2]) rfl rfl rfl [] rfl (bX12_readsAim_78 X hQ  h)
theorem bX12_readsAim_29 {C : zCtx} (X : zFx C cX12_readsAim 2 RX12 rmX12_readsAim (some .boolean)) {aO : Nat → Nat} {sO : zSt} {x1 : Int32} {out : Int32 × zSt} (hQ : zHi C out.1 [wX12 (zcT C) aO out.2] 0 0) (h : fX12_readsAim_29 sO x1 = some out) : zG C 2 [0] 0 0 [wX12 (zcT C) aO sO] 29 [(0, .ref (aO 0)), (1, .int x1)] [] := by
  unfold fX12_readsAim_29 at h
  refine z_aload_n X dX12_readsAim_29 0 rfl ?_
  refine z_dup X dX12_readsAim_30 rfl ?_
  refine z_get (v := .int (zgi sO 15)) X 0 0 13 15 ziX12 rfl (by decide) zw1351 rfl dX12_readsAim_31 rfl rfl rfl ?_
  refine z_iconst (v := (1 : Int32)) X dX12_readsAim_34 rfl ?_
  refine z_iadd X dX12_readsAim_35 ?_
  obtain ⟨sO36, esO36, h⟩ := zlet_of h
  refine z_put (ws2 := [wX12 (zcT C) aO sO36]) X 0 0 13 15 ziX12 rfl tyX12 tyX12_ok nmX12 (by decide) zw1351 rfl rfl (ty := .int) (by decide +kernel) rfl rfl (by show 15 < 40; decide) dX12_readsAim_36 rfl rfl (by decide) (w2 := wX12 (zcT C) aO sO36) (by rw [esO36]; rfl) rfl ?_
  refine z_aload_n X dX12_readsAim_39 0 rfl ?_
  refine z_iload_n X dX12_readsAim_40 1 rfl ?_
  refine z_bipush (v := (97 : Int32)) X dX12_readsAim_41 rfl ?_
  refine z_icmp_ne (tgt := 51) X dX12_readsAim_43 (by decide) (fun c43 => ?_) (fun c43 => ?_)
  · replace h := zif_f h c43
    refine z_bipush (v := (110 : Int32)) X dX12_readsAim_51 rfl ?_
    exact z_at (pc2 := 53) (lv2 := [(0, .ref (aO 0))]) (st2 := [.int (110 : Int32), .ref (aO 0)]) (ws2 := [wX12 (zcT C) aO sO36]) rfl rfl rfl [0] rfl (bX12_readsAim_53 X hQ  h)
  · replace h := zif_t h c43
    refine z_bipush (v := (120 : Int32)) X dX12_readsAim_46 rfl ?_
    refine z_goto (tgt := 53) X dX12_readsAim_48 (by decide) ?_
    exact z_at (pc2 := 53) (lv2 := [(0, .ref (aO 0))]) (st2 := [.int (120 : Int32), .ref (aO 0)]) (ws2 := [wX12 (zcT C) aO sO36]) rfl rfl rfl [0] rfl (bX12_readsAim_53 X hQ  h)
theorem bX12_readsAim_0 {C : zCtx} (X : zFx C cX12_readsAim 2 RX12 rmX12_readsAim (some .boolean)) {aO : Nat → Nat} {sO : zSt} {out : Int32 × zSt} (hQ : zHi C out.1 [wX12 (zcT C) aO out.2] 0 0) (h : fX12_readsAim sO = some out) : zG C 2 [0] 0 0 [wX12 (zcT C) aO sO] 0 [(0, .ref (aO 0))] [] := by
  unfold fX12_readsAim at h
  refine z_aload_n X dX12_readsAim_0 0 rfl ?_
  refine z_iconst (v := (1 : Int32)) X dX12_readsAim_1 rfl ?_
  obtain ⟨sO2, esO2, h⟩ := zlet_of h
  refine z_put (ws2 := [wX12 (zcT C) aO sO2]) X 0 0 13 15 ziX12 rfl tyX12 tyX12_ok nmX12 (by decide) zw1351 rfl rfl (ty := .int) (by decide +kernel) rfl rfl (by show 15 < 40; decide) dX12_readsAim_2 rfl rfl (by decide) (w2 := wX12 (zcT C) aO sO2) (by rw [esO2]; rfl) rfl ?_
  refine z_aload_n X dX12_readsAim_5 0 rfl ?_
  obtain ⟨o6, ho6, h⟩ := zbind_of h
  refine z_callVi (st := []) (ws2 := [wX12 (zcT C) aO sO2]) X (metX12_next (zcl C) (zcD C) (zcT C) aO ho6) zmX12_next zw1510 dX12_readsAim_6 0 0 13 rfl rfl rfl rfl [0] rfl rfl [] rfl (by decide) trivial rfl rfl rfl (Nat.le_of_ble_eq_true rfl) rfl rfl ⟨Nat.le_of_ble_eq_true rfl, Nat.le_of_ble_eq_true rfl⟩ ⟨Nat.le_of_ble_eq_true rfl, Nat.le_of_ble_eq_true rfl⟩ ?_
  refine z_istore_n (lv2 := [(1, .int o6), (0, .ref (aO 0))]) X dX12_readsAim_9 rfl (by decide) rfl ?_
  refine z_iload_n X dX12_readsAim_10 0 rfl ?_
  refine z_bipush (v := (97 : Int32)) X dX12_readsAim_11 rfl ?_
  refine z_icmp_eq (tgt := 29) X dX12_readsAim_13 (by decide) (fun c13 => ?_) (fun c13 => ?_)
  · replace h := zif_t h c13
    exact z_at (pc2 := 29) (lv2 := [(0, .ref (aO 0)), (1, .int o6)]) (st2 := []) (ws2 := [wX12 (zcT C) aO sO2]) rfl rfl rfl [1, 0] rfl (bX12_readsAim_29 X hQ  h)
  · replace h := zif_f h c13
    refine z_iload_n X dX12_readsAim_16 0 rfl ?_
    refine z_bipush (v := (105 : Int32)) X dX12_readsAim_17 rfl ?_
    refine z_icmp_eq (tgt := 29) X dX12_readsAim_19 (by decide) (fun c19 => ?_) (fun c19 => ?_)
    · replace h := zif_t h c19
      exact z_at (pc2 := 29) (lv2 := [(0, .ref (aO 0)), (1, .int o6)]) (st2 := []) (ws2 := [wX12 (zcT C) aO sO2]) rfl rfl rfl [1, 0] rfl (bX12_readsAim_29 X hQ  h)
    · replace h := zif_f h c19
      refine z_aload_n X dX12_readsAim_22 1 rfl ?_
      refine z_bipush (v := (115 : Int32)) X dX12_readsAim_23 rfl ?_
      obtain ⟨o25, ho25, h⟩ := zbind_of h
      refine z_callVi (st := []) (ws2 := [wX12 (zcT C) aO o25.2]) X (metX12_fails (zcl C) (zcD C) (zcT C) aO ho25) zmX12_fails zw1514 dX12_readsAim_25 0 0 13 rfl rfl rfl rfl [0] rfl rfl [0] rfl (by decide) ⟨zsX12 , trivial⟩ rfl rfl rfl (Nat.le_of_ble_eq_true rfl) rfl rfl ⟨Nat.le_of_ble_eq_true rfl, Nat.le_of_ble_eq_true rfl⟩ ⟨Nat.le_of_ble_eq_true rfl, Nat.le_of_ble_eq_true rfl⟩ ?_
      obtain ⟨g28, h⟩ := zgd_of h
      cases h
      exact z_nret X hQ g28 dX12_readsAim_28 rfl [0] rfl (by decide) (by decide)
theorem metX12_readsAim (l : Launch) (D : va_G) (T : Nat → ClassId) (aO : Nat → Nat) {sO : zSt} {out : Int32 × zSt} (hf : fX12_readsAim sO = some out) (sz : Nat) : Met l yX12_readsAim (zws yX12_readsAim cX12_readsAim 2 (some .boolean)) rmX12_readsAim (zPc D T [.ref (aO 0)] [wX12 T aO sO] sz) (zQi D out.1 [wX12 T aO out.2] (zA [wX12 T aO sO] sz)) 0 0 (zA [wX12 T aO sO] sz) :=
  zMet (D := D) (T := T) (av := [.ref (aO 0)]) (ws := fun T => [wX12 T aO sO]) (wm := fun T => [wX12 T aO sO]) (lv0 := [(0, .ref (aO 0))]) [0] (Qc := fun D T A => zQi D out.1 [wX12 T aO out.2] A) (by decide +kernel) rfl (Nat.le_of_ble_eq_true rfl) rfl (fun C X hQ => bX12_readsAim_0 X hQ hf) sz
/-- private boolean isAimText(); of TableaufloorModel -/
abbrev rmX12_isAimText : Room := { frames := 0, cells := 0, slots := 0, locals := 0 }
def fX12_isAimText_23 (sO : zSt) (y0 : Int32) : Option (Int32) :=
  (if znar .boolean y0 = true then
    some (y0) else none)
def fX12_isAimText_22 (sO : zSt) : Option (Int32) :=
  (fX12_isAimText_23 sO (0 : Int32))
def fX12_isAimText (sO : zSt) : Option (Int32) :=
  (if (zgi sO 13) ≤ 0 then
    (fX12_isAimText_22 sO)
  else
    (if zin (0 : Int32) 30 = true then
      (if (zga sO 8 ((0 : Int32)).toNatClampNeg) = (109 : Int32) then
      (fX12_isAimText_23 sO (1 : Int32))
    else
      (fX12_isAimText_22 sO)) else none))
theorem bX12_isAimText_23 {C : zCtx} (X : zFx C cX12_isAimText 1 RX12 rmX12_isAimText (some .boolean)) {aO : Nat → Nat} {sO : zSt} {y0 : Int32} {out : Int32} (hQ : zHi C out [] 0 0) (h : fX12_isAimText_23 sO y0 = some out) : zG C 1 [] 0 0 [wX12 (zcT C) aO sO] 23 [] [.int y0] := by
  unfold fX12_isAimText_23 at h
  obtain ⟨g23, h⟩ := zgd_of h
  cases h
  exact z_nret X hQ g23 dX12_isAimText_23 rfl [] rfl (by decide) (by decide)
theorem bX12_isAimText_22 {C : zCtx} (X : zFx C cX12_isAimText 1 RX12 rmX12_isAimText (some .boolean)) {aO : Nat → Nat} {sO : zSt} {out : Int32} (hQ : zHi C out [] 0 0) (h : fX12_isAimText_22 sO = some out) : zG C 1 [] 0 0 [wX12 (zcT C) aO sO] 22 [] [] := by
  unfold fX12_isAimText_22 at h
  refine z_iconst (v := (0 : Int32)) X dX12_isAimText_22 rfl ?_
  exact z_at (pc2 := 23) (lv2 := []) (st2 := [.int (0 : Int32)]) (ws2 := [wX12 (zcT C) aO sO]) rfl rfl rfl [] rfl (bX12_isAimText_23 X hQ  h)
theorem bX12_isAimText_0 {C : zCtx} (X : zFx C cX12_isAimText 1 RX12 rmX12_isAimText (some .boolean)) {aO : Nat → Nat} {sO : zSt} {out : Int32} (hQ : zHi C out [] 0 0) (h : fX12_isAimText sO = some out) : zG C 1 [] 0 0 [wX12 (zcT C) aO sO] 0 [(0, .ref (aO 0))] [] := by
  unfold fX12_isAimText at h
  refine z_aload_n X dX12_isAimText_0 0 rfl ?_
  refine z_get (v := .int (zgi sO 13)) X 0 0 13 13 ziX12 rfl (by decide) zw1349 rfl dX12_isAimText_1 rfl rfl rfl ?_
  refine z_if_le (tgt := 22) X dX12_isAimText_4 (by decide) (fun c4 => ?_) (fun c4 => ?_)
  · replace h := zif_t h c4
    exact z_at (pc2 := 22) (lv2 := []) (st2 := []) (ws2 := [wX12 (zcT C) aO sO]) rfl rfl rfl [] rfl (bX12_isAimText_22 X hQ  h)
  · replace h := zif_f h c4
    refine z_aload_n X dX12_isAimText_7 0 rfl ?_
    refine z_get (v := .ref (aO 9)) X 0 0 13 8 ziX12 rfl (by decide) zw1344 rfl dX12_isAimText_8 rfl rfl rfl ?_
    refine z_iconst (v := (0 : Int32)) X dX12_isAimText_11 rfl ?_
    obtain ⟨g12, h⟩ := zgd_of h
    refine z_cald X 0 9 g12 dX12_isAimText_12 rfl rfl ?_
    refine z_bipush (v := (109 : Int32)) X dX12_isAimText_13 rfl ?_
    refine z_icmp_ne (tgt := 22) X dX12_isAimText_15 (by decide) (fun c15 => ?_) (fun c15 => ?_)
    · replace h := zif_f h c15
      exact z_at (pc2 := 22) (lv2 := []) (st2 := []) (ws2 := [wX12 (zcT C) aO sO]) rfl rfl rfl [] rfl (bX12_isAimText_22 X hQ  h)
    · replace h := zif_t h c15
      refine z_iconst (v := (1 : Int32)) X dX12_isAimText_18 rfl ?_
      refine z_goto (tgt := 23) X dX12_isAimText_19 (by decide) ?_
      exact z_at (pc2 := 23) (lv2 := []) (st2 := [.int (1 : Int32)]) (ws2 := [wX12 (zcT C) aO sO]) rfl rfl rfl [] rfl (bX12_isAimText_23 X hQ  h)
theorem metX12_isAimText (l : Launch) (D : va_G) (T : Nat → ClassId) (aO : Nat → Nat) {sO : zSt} {out : Int32} (hf : fX12_isAimText sO = some out) (sz : Nat) : Met l yX12_isAimText (zws yX12_isAimText cX12_isAimText 1 (some .boolean)) rmX12_isAimText (zPc D T [.ref (aO 0)] [wX12 T aO sO] sz) (zQi D out [] (zA [] sz)) 0 0 (zA [] sz) :=
  zMet (D := D) (T := T) (av := [.ref (aO 0)]) (ws := fun T => [wX12 T aO sO]) (wm := fun T => []) (lv0 := [(0, .ref (aO 0))]) [] (Qc := fun D T A => zQi D out [] A) (by decide +kernel) rfl (Nat.le_of_ble_eq_true rfl) rfl (fun C X hQ => bX12_isAimText_0 X hQ hf) sz
/-- private boolean isInRange(); of TableaufloorModel -/
abbrev rmX12_isInRange : Room := { frames := 1, cells := 0, slots := 0, locals := 22 }
def fX12_isInRange_2 (sO : zSt) : Nat → Int32 → Option (Int32)
  | 0, _ => none
  | n + 1, x1 =>
    (if (3 : Int32) ≤ x1 then
      some ((1 : Int32))
    else
      (if zin x1 3 = true then
        ((fX12_in (zga sO 14 (x1).toNatClampNeg) (-9 : Int32) (9 : Int32)).bind (fun o17 =>
        (if o17 = 0 then
        some ((0 : Int32))
      else
        (zlet (x1 + 1) (fun v25 =>
          (fX12_isInRange_2 sO n v25)))))) else none))
def fX12_isInRange (sO : zSt) : Option (Int32) :=
  (fX12_isInRange_2 sO 6000 (0 : Int32))
theorem bX12_isInRange_2 {C : zCtx} (X : zFx C cX12_isInRange 2 RX12 rmX12_isInRange (some .boolean)) {aO : Nat → Nat} {sO : zSt} {out : Int32} (hQ : zHi C out [] 0 0) : ∀ (n : Nat) (x1 : Int32), fX12_isInRange_2 sO n x1 = some out → zG C 2 [] 0 0 [wX12 (zcT C) aO sO] 2 [(0, .ref (aO 0)), (1, .int x1)] [] := by
  intro n
  induction n with
  | zero =>
    intro x1 h
    rw [fX12_isInRange_2] at h
    exact zno h
  | succ n ih =>
    intro x1 h
    rw [fX12_isInRange_2] at h
    refine z_iload_n X dX12_isInRange_2 1 rfl ?_
    refine z_iconst (v := (3 : Int32)) X dX12_isInRange_3 rfl ?_
    refine z_icmp_ge (tgt := 31) X dX12_isInRange_4 (by decide) (fun c4 => ?_) (fun c4 => ?_)
    · replace h := zif_t h c4
      refine z_iconst (v := (1 : Int32)) X dX12_isInRange_31 rfl ?_
      cases h
      exact z_nret X hQ rfl dX12_isInRange_32 rfl [] rfl (by decide) (by decide)
    · replace h := zif_f h c4
      refine z_aload_n X dX12_isInRange_7 0 rfl ?_
      refine z_get (v := .ref (aO 15)) X 0 0 13 14 ziX12 rfl (by decide) zw1350 rfl dX12_isInRange_8 rfl rfl rfl ?_
      refine z_iload_n X dX12_isInRange_11 1 rfl ?_
      obtain ⟨g12, h⟩ := zgd_of h
      refine z_iald X 0 10 g12 dX12_isInRange_12 rfl rfl ?_
      refine z_bipush (v := (-9 : Int32)) X dX12_isInRange_13 rfl ?_
      refine z_bipush (v := (9 : Int32)) X dX12_isInRange_15 rfl ?_
      obtain ⟨o17, ho17, h⟩ := zbind_of h
      refine z_callSi (st := []) (ws2 := [wX12 (zcT C) aO sO]) X (metX12_in (zcl C) (zcD C) (zcT C)  ho17) zmX12_in zw1465 dX12_isInRange_17 [] rfl rfl [] rfl (by decide) trivial rfl rfl rfl (Nat.le_of_ble_eq_true rfl) rfl rfl ⟨Nat.le_of_ble_eq_true rfl, Nat.le_of_ble_eq_true rfl⟩ ⟨Nat.le_of_ble_eq_true rfl, Nat.le_of_ble_eq_true rfl⟩ ?_
      refine z_if_ne (tgt := 25) X dX12_isInRange_20 (by decide) (fun c20 => ?_) (fun c20 => ?_)
      · replace h := zif_f h c20
        obtain ⟨v25, ev25, h⟩ := zlet_of h
        refine z_iinc (v := v25) (lv2 := [(1, .int v25), (0, .ref (aO 0))]) X dX12_isInRange_25 (k := 1) rfl (by rw [ev25]; rfl) (by decide) rfl ?_
        refine z_goto (tgt := 2) X dX12_isInRange_28 (by decide) ?_
        exact z_at (pc2 := 2) (lv2 := [(0, .ref (aO 0)), (1, .int v25)]) (st2 := []) (ws2 := [wX12 (zcT C) aO sO]) rfl rfl rfl [1, 0] rfl (ih v25 h)
      · replace h := zif_t h c20
        refine z_iconst (v := (0 : Int32)) X dX12_isInRange_23 rfl ?_
        cases h
        exact z_nret X hQ rfl dX12_isInRange_24 rfl [] rfl (by decide) (by decide)
theorem bX12_isInRange_0 {C : zCtx} (X : zFx C cX12_isInRange 2 RX12 rmX12_isInRange (some .boolean)) {aO : Nat → Nat} {sO : zSt} {out : Int32} (hQ : zHi C out [] 0 0) (h : fX12_isInRange sO = some out) : zG C 2 [] 0 0 [wX12 (zcT C) aO sO] 0 [(0, .ref (aO 0))] [] := by
  unfold fX12_isInRange at h
  refine z_iconst (v := (0 : Int32)) X dX12_isInRange_0 rfl ?_
  refine z_istore_n (lv2 := [(1, .int (0 : Int32)), (0, .ref (aO 0))]) X dX12_isInRange_1 rfl (by decide) rfl ?_
  exact z_at (pc2 := 2) (lv2 := [(0, .ref (aO 0)), (1, .int (0 : Int32))]) (st2 := []) (ws2 := [wX12 (zcT C) aO sO]) rfl rfl rfl [1, 0] rfl (bX12_isInRange_2 X hQ  6000 (0 : Int32) h)
theorem metX12_isInRange (l : Launch) (D : va_G) (T : Nat → ClassId) (aO : Nat → Nat) {sO : zSt} {out : Int32} (hf : fX12_isInRange sO = some out) (sz : Nat) : Met l yX12_isInRange (zws yX12_isInRange cX12_isInRange 2 (some .boolean)) rmX12_isInRange (zPc D T [.ref (aO 0)] [wX12 T aO sO] sz) (zQi D out [] (zA [] sz)) 0 0 (zA [] sz) :=
  zMet (D := D) (T := T) (av := [.ref (aO 0)]) (ws := fun T => [wX12 T aO sO]) (wm := fun T => []) (lv0 := [(0, .ref (aO 0))]) [] (Qc := fun D T A => zQi D out [] A) (by decide +kernel) rfl (Nat.le_of_ble_eq_true rfl) rfl (fun C X hQ => bX12_isInRange_0 X hQ hf) sz
