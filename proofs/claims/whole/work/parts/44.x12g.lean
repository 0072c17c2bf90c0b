/-- private void looksAtAim(int); of TableaufloorModel -/
abbrev rmX12_looksAtAim : Room := { frames := 2, cells := 0, slots := 0, locals := 50 }
def fX12_looksAtAim_133 (k95 : zSt → Int32 → Int32 → Int32 → Option (zSt)) (sO : zSt) (x1 : Int32) (x2 : Int32) (x3 : Int32) (y1 : Int32) (y2 : Int32) : Option (zSt) :=
  (if zin y1 130 = true then
    (zlet (zsa sO 26 (upd (zga sO 26) (y1).toNatClampNeg (vp_nar .boolean y2))) (fun sO133 =>
    (zlet (x3 + 1) (fun v134 =>
    (k95 sO133 x1 x2 v134))))) else none)
def fX12_looksAtAim_132 (k95 : zSt → Int32 → Int32 → Int32 → Option (zSt)) (sO : zSt) (x1 : Int32) (x2 : Int32) (x3 : Int32) (y1 : Int32) : Option (zSt) :=
  (fX12_looksAtAim_133 k95 sO x1 x2 x3 y1 (0 : Int32))
def fX12_looksAtAim_95 : Nat → zSt → Int32 → Int32 → Int32 → Option (zSt)
  | 0, _, _, _, _ => none
  | n + 1, sO, x1, x2, x3 =>
    (if (zgi sO 33) ≤ x3 then
      ((fX12_top sO x1 x2).bind (fun o143 =>
        (if zin x2 600 = true then
        ((fX12_divisor o143 (zgb sO 22 (x2).toNatClampNeg)).bind (fun o152 =>
        ((fX12_top sO x1 x2).bind (fun o164 =>
        (if o152 = 0 then none else
        (if zin x1 3 = true then
        (zlet (zsb sO 28 (vp_updL (zgb sO 28) (x1).toNatClampNeg (o164 / o152))) (fun sO169 =>
        (if zin x2 600 = true then
        (if o152 = 0 then none else
        (if zin x1 3 = true then
        (zlet (zsb sO169 29 (vp_updL (zgb sO169 29) (x1).toNatClampNeg ((zgb sO169 22 (x2).toNatClampNeg) / o152))) (fun sO183 =>
        some (sO183))) else none)) else none))) else none)))))) else none)))
    else
      (if zin x3 130 = true then
        (if (zga sO 26 (x3).toNatClampNeg) = 0 then
        (fX12_looksAtAim_132 (fX12_looksAtAim_95 n) sO x1 x2 x3 x3)
      else
        ((fX12_gain sO x1 x3).bind (fun o120 =>
          (if o120 = (0 : Int64) then
          (fX12_looksAtAim_133 (fX12_looksAtAim_95 n) sO x1 x2 x3 x3 (1 : Int32))
        else
          (fX12_looksAtAim_132 (fX12_looksAtAim_95 n) sO x1 x2 x3 x3))))) else none))
def fX12_looksAtAim_86 (k47 : zSt → Int32 → Int32 → Int32 → Option (zSt)) (sO : zSt) (x1 : Int32) (x2 : Int32) (x3 : Int32) (y1 : Int32) (y2 : Int32) : Option (zSt) :=
  (if zin y1 600 = true then
    (zlet (zsa sO 25 (upd (zga sO 25) (y1).toNatClampNeg (vp_nar .boolean y2))) (fun sO86 =>
    (zlet (x3 + 1) (fun v87 =>
    (k47 sO86 x1 x2 v87))))) else none)
def fX12_looksAtAim_85 (k47 : zSt → Int32 → Int32 → Int32 → Option (zSt)) (sO : zSt) (x1 : Int32) (x2 : Int32) (x3 : Int32) (y1 : Int32) : Option (zSt) :=
  (fX12_looksAtAim_86 k47 sO x1 x2 x3 y1 (0 : Int32))
def fX12_looksAtAim_47 : Nat → zSt → Int32 → Int32 → Int32 → Option (zSt)
  | 0, _, _, _, _ => none
  | n + 1, sO, x1, x2, x3 =>
    (if (zgi sO 32) ≤ x3 then
      (fX12_looksAtAim_95 6000 sO x1 x2 (0 : Int32))
    else
      (if zin x3 600 = true then
        (if (zga sO 25 (x3).toNatClampNeg) = 0 then
        (fX12_looksAtAim_85 (fX12_looksAtAim_47 n) sO x1 x2 x3 x3)
      else
        ((fX12_better sO x1 x3 x2).bind (fun o73 =>
          (if o73 = (0 : Int64) then
          (fX12_looksAtAim_86 (fX12_looksAtAim_47 n) sO x1 x2 x3 x3 (1 : Int32))
        else
          (fX12_looksAtAim_85 (fX12_looksAtAim_47 n) sO x1 x2 x3 x3))))) else none))
def fX12_looksAtAim_39 (k4 : zSt → Int32 → Int32 → Int32 → Option (zSt)) (sO : zSt) (x1 : Int32) (x2 : Int32) (x3 : Int32) : Option (zSt) :=
  (zlet (x3 + 1) (fun v39 =>
    (k4 sO x1 x2 v39)))
def fX12_looksAtAim_37 (k4 : zSt → Int32 → Int32 → Int32 → Option (zSt)) (sO : zSt) (x1 : Int32) (x3 : Int32) : Option (zSt) :=
  (fX12_looksAtAim_39 k4 sO x1 x3 x3)
def fX12_looksAtAim_4 : Nat → zSt → Int32 → Int32 → Int32 → Option (zSt)
  | 0, _, _, _, _ => none
  | n + 1, sO, x1, x2, x3 =>
    (if (zgi sO 32) ≤ x3 then
      (fX12_looksAtAim_47 6000 sO x1 x2 (0 : Int32))
    else
      (if zin x3 600 = true then
        (if (zga sO 25 (x3).toNatClampNeg) = 0 then
        (fX12_looksAtAim_39 (fX12_looksAtAim_4 n) sO x1 x2 x3)
      else
        (if x2 < 0 then
          (fX12_looksAtAim_37 (fX12_looksAtAim_4 n) sO x1 x3)
        else
          ((fX12_better sO x1 x3 x2).bind (fun o29 =>
            (if o29 ≤ (0 : Int64) then
            (fX12_looksAtAim_39 (fX12_looksAtAim_4 n) sO x1 x2 x3)
          else
            (fX12_looksAtAim_37 (fX12_looksAtAim_4 n) sO x1 x3)))))) else none))
def fX12_looksAtAim (sO : zSt) (x1 : Int32) : Option (zSt) :=
  (fX12_looksAtAim_4 6000 sO x1 (-1 : Int32) (0 : Int32))
theorem bX12_looksAtAim_133 {C : zCtx} (X : zFx C cX12_looksAtAim 5 RX12 rmX12_looksAtAim none) {aO : Nat → Nat} {k95 : zSt → Int32 → Int32 → Int32 → Option (zSt)} {sO : zSt} {x1 : Int32} {x2 : Int32} {x3 : Int32} {y1 : Int32} {y2 : Int32} {out : zSt} (hQ : zHv C [wX12 (zcT C) aO out] 0 0) (hk95 : ∀ (sO : zSt) (x1 : Int32) (x2 : Int32) (x3 : Int32), k95 sO x1 x2 x3 = some out → zG C 5 [0] 0 0 [wX12 (zcT C) aO sO] 95 [(0, .ref (aO 0)), (1, .int x1), (2, .int x2), (3, .int x3)] []) (h : fX12_looksAtAim_133 k95 sO x1 x2 x3 y1 y2 = some out) : zG C 5 [0] 0 0 [wX12 (zcT C) aO sO] 133 [(0, .ref (aO 0)), (1, .int x1), (2, .int x2), (3, .int x3)] [.int y2, .int y1, .ref (aO 27)] := by
  unfold fX12_looksAtAim_133 at h
  obtain ⟨g133, h⟩ := zgd_of h
  obtain ⟨sO133, esO133, h⟩ := zlet_of h
  refine z_zast (ws2 := [wX12 (zcT C) aO sO133]) X 0 18 g133 dX12_looksAtAim_133 rfl rfl (by decide) (w2 := wX12 (zcT C) aO sO133) (by rw [esO133]; rfl) rfl ?_
  obtain ⟨v134, ev134, h⟩ := zlet_of h
  refine z_iinc (v := v134) (lv2 := [(3, .int v134), (0, .ref (aO 0)), (1, .int x1), (2, .int x2)]) X dX12_looksAtAim_134 (k := 3) rfl (by rw [ev134]; rfl) (by decide) rfl ?_
  refine z_goto (tgt := 95) X dX12_looksAtAim_137 (by decide) ?_
  exact z_at (pc2 := 95) (lv2 := [(0, .ref (aO 0)), (1, .int x1), (2, .int x2), (3, .int v134)]) (st2 := []) (ws2 := [wX12 (zcT C) aO sO133]) rfl rfl rfl [1, 2, 3, 0] rfl (hk95 sO133 x1 x2 v134 h)
theorem bX12_looksAtAim_132 {C : zCtx} (X : zFx C cX12_looksAtAim 5 RX12 rmX12_looksAtAim none) {aO : Nat → Nat} {k95 : zSt → Int32 → Int32 → Int32 → Option (zSt)} {sO : zSt} {x1 : Int32} {x2 : Int32} {x3 : Int32} {y1 : Int32} {out : zSt} (hQ : zHv C [wX12 (zcT C) aO out] 0 0) (hk95 : ∀ (sO : zSt) (x1 : Int32) (x2 : Int32) (x3 : Int32), k95 sO x1 x2 x3 = some out → zG C 5 [0] 0 0 [wX12 (zcT C) aO sO] 95 [(0, .ref (aO 0)), (1, .int x1), (2, .int x2), (3, .int x3)] []) (h : fX12_looksAtAim_132 k95 sO x1 x2 x3 y1 = some out) : zG C 5 [0] 0 0 [wX12 (zcT C) aO sO] 132 [(0, .ref (aO 0)), (1, .int x1), (2, .int x2), (3, .int x3)] [.int y1, .ref (aO 27)] := by
  unfold fX12_looksAtAim_132 at h
  refine z_iconst (v := (0 : Int32)) X dX12_looksAtAim_132 rfl ?_
  exact z_at (pc2 := 133) (lv2 := [(0, .ref (aO 0)), (1, .int x1), (2, .int x2), (3, .int x3)]) (st2 := [.int (0 : Int32), .int y1, .ref (aO 27)]) (ws2 := [wX12 (zcT C) aO sO]) rfl rfl rfl [0, 1, 2, 3] rfl (bX12_looksAtAim_133 X hQ hk95 h)
theorem bX12_looksAtAim_95 {C : zCtx} (X : zFx C cX12_looksAtAim 5 RX12 rmX12_looksAtAim none) {aO : Nat → Nat} {out : zSt} (hQ : zHv C [wX12 (zcT C) aO out] 0 0) : ∀ (n : Nat) (sO : zSt) (x1 : Int32) (x2 : Int32) (x3 : Int32), fX12_looksAtAim_95 n sO x1 x2 x3 = some out → zG C 5 [0] 0 0 [wX12 (zcT C) aO sO] 95 [(0, .ref (aO 0)), (1, .int x1), (2, .int x2), (3, .int x3)] [] := by
  intro n
  induction n with
  | zero =>
    intro sO x1 x2 x3 h
    rw [fX12_looksAtAim_95] at h
    exact zno h
  | succ n ih =>
    intro sO x1 x2 x3 h
    rw [fX12_looksAtAim_95] at h
    refine z_iload_n X dX12_looksAtAim_95 3 rfl ?_
    refine z_aload_n X dX12_looksAtAim_96 0 rfl ?_
    refine z_get (v := .int (zgi sO 33)) X 0 0 13 33 ziX12 rfl (by decide) zw1369 rfl dX12_looksAtAim_97 rfl rfl rfl ?_
    refine z_icmp_ge (tgt := 140) X dX12_looksAtAim_100 (by decide) (fun c100 => ?_) (fun c100 => ?_)
    · replace h := zif_t h c100
      refine z_aload_n X dX12_looksAtAim_140 0 rfl ?_
      refine z_iload_n X dX12_looksAtAim_141 1 rfl ?_
      refine z_iload_n X dX12_looksAtAim_142 2 rfl ?_
      obtain ⟨o143, ho143, h⟩ := zbind_of h
      refine z_callVl (st := []) (ws2 := [wX12 (zcT C) aO sO]) X (metX12_top (zcl C) (zcD C) (zcT C) aO ho143) zmX12_top zw1853 dX12_looksAtAim_143 0 0 13 rfl rfl rfl rfl [0] rfl rfl [] rfl (by decide) trivial rfl rfl rfl (Nat.le_of_ble_eq_true rfl) rfl rfl ⟨Nat.le_of_ble_eq_true rfl, Nat.le_of_ble_eq_true rfl⟩ ⟨Nat.le_of_ble_eq_true rfl, Nat.le_of_ble_eq_true rfl⟩ ?_
      refine z_aload_n X dX12_looksAtAim_146 0 rfl ?_
      refine z_get (v := .ref (aO 23)) X 0 0 13 22 ziX12 rfl (by decide) zw1358 rfl dX12_looksAtAim_147 rfl rfl rfl ?_
      refine z_iload_n X dX12_looksAtAim_150 2 rfl ?_
      obtain ⟨g151, h⟩ := zgd_of h
      refine z_lald X 0 14 g151 dX12_looksAtAim_151 rfl rfl ?_
      obtain ⟨o152, ho152, h⟩ := zbind_of h
      refine z_callSl (st := []) (ws2 := [wX12 (zcT C) aO sO]) X (metX12_divisor (zcl C) (zcD C) (zcT C)  ho152) zmX12_divisor zw1857 dX12_looksAtAim_152 [] rfl rfl [] rfl (by decide) trivial rfl rfl rfl (Nat.le_of_ble_eq_true rfl) rfl rfl ⟨Nat.le_of_ble_eq_true rfl, Nat.le_of_ble_eq_true rfl⟩ ⟨Nat.le_of_ble_eq_true rfl, Nat.le_of_ble_eq_true rfl⟩ ?_
      refine z_lstore_n (lv2 := [(3, .long o152), (0, .ref (aO 0)), (1, .int x1), (2, .int x2)]) X dX12_looksAtAim_155 rfl (by decide) rfl ?_
      refine z_aload_n X dX12_looksAtAim_156 1 rfl ?_
      refine z_get (v := .ref (aO 29)) X 0 0 13 28 ziX12 rfl (by decide) zw1364 rfl dX12_looksAtAim_157 rfl rfl rfl ?_
      refine z_iload_n X dX12_looksAtAim_160 2 rfl ?_
      refine z_aload_n X dX12_looksAtAim_161 1 rfl ?_
      refine z_iload_n X dX12_looksAtAim_162 2 rfl ?_
      refine z_iload_n X dX12_looksAtAim_163 3 rfl ?_
      obtain ⟨o164, ho164, h⟩ := zbind_of h
      refine z_callVl (st := [.int x1, .ref (aO 29)]) (ws2 := [wX12 (zcT C) aO sO]) X (metX12_top (zcl C) (zcD C) (zcT C) aO ho164) zmX12_top zw1853 dX12_looksAtAim_164 0 0 13 rfl rfl rfl rfl [0] rfl rfl [] rfl (by decide) trivial rfl rfl rfl (Nat.le_of_ble_eq_true rfl) rfl rfl ⟨Nat.le_of_ble_eq_true rfl, Nat.le_of_ble_eq_true rfl⟩ ⟨Nat.le_of_ble_eq_true rfl, Nat.le_of_ble_eq_true rfl⟩ ?_
      refine z_lload_n X dX12_looksAtAim_167 0 rfl ?_
      have g168 : ¬ o152 = 0 := fun e => by rw [if_pos e] at h; exact zno h
      replace h := zif_f h g168
      refine z_ldiv X dX12_looksAtAim_168 g168 ?_
      obtain ⟨g169, h⟩ := zgd_of h
      obtain ⟨sO169, esO169, h⟩ := zlet_of h
      refine z_last (ws2 := [wX12 (zcT C) aO sO169]) X 0 20 g169 dX12_looksAtAim_169 rfl rfl (by decide) (w2 := wX12 (zcT C) aO sO169) (by rw [esO169]; rfl) rfl ?_
      refine z_aload_n X dX12_looksAtAim_170 1 rfl ?_
      refine z_get (v := .ref (aO 30)) X 0 0 13 29 ziX12 rfl (by decide) zw1365 rfl dX12_looksAtAim_171 rfl rfl rfl ?_
      refine z_iload_n X dX12_looksAtAim_174 2 rfl ?_
      refine z_aload_n X dX12_looksAtAim_175 1 rfl ?_
      refine z_get (v := .ref (aO 23)) X 0 0 13 22 ziX12 rfl (by decide) zw1358 rfl dX12_looksAtAim_176 rfl rfl rfl ?_
      refine z_iload_n X dX12_looksAtAim_179 3 rfl ?_
      obtain ⟨g180, h⟩ := zgd_of h
      refine z_lald X 0 14 g180 dX12_looksAtAim_180 rfl rfl ?_
      refine z_lload_n X dX12_looksAtAim_181 0 rfl ?_
      have g182 : ¬ o152 = 0 := fun e => by rw [if_pos e] at h; exact zno h
      replace h := zif_f h g182
      refine z_ldiv X dX12_looksAtAim_182 g182 ?_
      obtain ⟨g183, h⟩ := zgd_of h
      obtain ⟨sO183, esO183, h⟩ := zlet_of h
      refine z_last (ws2 := [wX12 (zcT C) aO sO183]) X 0 21 g183 dX12_looksAtAim_183 rfl rfl (by decide) (w2 := wX12 (zcT C) aO sO183) (by rw [esO183]; rfl) rfl ?_
      cases h
      exact z_vret X hQ dX12_looksAtAim_184 [0] rfl (by decide) (by decide)
    · replace h := zif_f h c100
      refine z_aload_n X dX12_looksAtAim_103 0 rfl ?_
      refine z_get (v := .ref (aO 27)) X 0 0 13 26 ziX12 rfl (by decide) zw1362 rfl dX12_looksAtAim_104 rfl rfl rfl ?_
      refine z_iload_n X dX12_looksAtAim_107 3 rfl ?_
      refine z_aload_n X dX12_looksAtAim_108 0 rfl ?_
      refine z_get (v := .ref (aO 27)) X 0 0 13 26 ziX12 rfl (by decide) zw1362 rfl dX12_looksAtAim_109 rfl rfl rfl ?_
      refine z_iload_n X dX12_looksAtAim_112 3 rfl ?_
      obtain ⟨g113, h⟩ := zgd_of h
      refine z_zald X 0 18 g113 dX12_looksAtAim_113 rfl rfl ?_
      refine z_if_eq (tgt := 132) X dX12_looksAtAim_114 (by decide) (fun c114 => ?_) (fun c114 => ?_)
      · replace h := zif_t h c114
        exact z_at (pc2 := 132) (lv2 := [(0, .ref (aO 0)), (1, .int x1), (2, .int x2), (3, .int x3)]) (st2 := [.int x3, .ref (aO 27)]) (ws2 := [wX12 (zcT C) aO sO]) rfl rfl rfl [0, 1, 2, 3] rfl (bX12_looksAtAim_132 X hQ ih h)
      · replace h := zif_f h c114
        refine z_aload_n X dX12_looksAtAim_117 0 rfl ?_
        refine z_iload_n X dX12_looksAtAim_118 1 rfl ?_
        refine z_iload_n X dX12_looksAtAim_119 3 rfl ?_
        obtain ⟨o120, ho120, h⟩ := zbind_of h
        refine z_callVl (st := [.int x3, .ref (aO 27)]) (ws2 := [wX12 (zcT C) aO sO]) X (metX12_gain (zcl C) (zcD C) (zcT C) aO ho120) zmX12_gain zw1841 dX12_looksAtAim_120 0 0 13 rfl rfl rfl rfl [0] rfl rfl [] rfl (by decide) trivial rfl rfl rfl (Nat.le_of_ble_eq_true rfl) rfl rfl ⟨Nat.le_of_ble_eq_true rfl, Nat.le_of_ble_eq_true rfl⟩ ⟨Nat.le_of_ble_eq_true rfl, Nat.le_of_ble_eq_true rfl⟩ ?_
        refine z_lconst (v := (0 : Int64)) X dX12_looksAtAim_123 rfl ?_
        refine z_lcmp_ne (tgt := 132) X dX12_looksAtAim_124 dX12_looksAtAim_125 (by decide) (fun c124 => ?_) (fun c124 => ?_)
        · replace h := zif_f h c124
          exact z_at (pc2 := 132) (lv2 := [(0, .ref (aO 0)), (1, .int x1), (2, .int x2), (3, .int x3)]) (st2 := [.int x3, .ref (aO 27)]) (ws2 := [wX12 (zcT C) aO sO]) rfl rfl rfl [0, 1, 2, 3] rfl (bX12_looksAtAim_132 X hQ ih h)
        · replace h := zif_t h c124
          refine z_iconst (v := (1 : Int32)) X dX12_looksAtAim_128 rfl ?_
          refine z_goto (tgt := 133) X dX12_looksAtAim_129 (by decide) ?_
          exact z_at (pc2 := 133) (lv2 := [(0, .ref (aO 0)), (1, .int x1), (2, .int x2), (3, .int x3)]) (st2 := [.int (1 : Int32), .int x3, .ref (aO 27)]) (ws2 := [wX12 (zcT C) aO sO]) rfl rfl rfl [0, 1, 2, 3] rfl (bX12_looksAtAim_133 X hQ ih h)
theorem bX12_looksAtAim_86 {C : zCtx} (X : zFx C cX12_looksAtAim 5 RX12 rmX12_looksAtAim none) {aO : Nat → Nat} {k47 : zSt → Int32 → Int32 → Int32 → Option (zSt)} {sO : zSt} {x1 : Int32} {x2 : Int32} {x3 : Int32} {y1 : Int32} {y2 : Int32} {out : zSt} (hQ : zHv C [wX12 (zcT C) aO out] 0 0) (hk47 : ∀ (sO : zSt) (x1 : Int32) (x2 : Int32) (x3 : Int32), k47 sO x1 x2 x3 = some out → zG C 5 [0] 0 0 [wX12 (zcT C) aO sO] 47 [(0, .ref (aO 0)), (1, .int x1), (2, .int x2), (3, .int x3)] []) (h : fX12_looksAtAim_86 k47 sO x1 x2 x3 y1 y2 = some out) : zG C 5 [0] 0 0 [wX12 (zcT C) aO sO] 86 [(0, .ref (aO 0)), (1, .int x1), (2, .int x2), (3, .int x3)] [.int y2, .int y1, .ref (aO 26)] := by
  unfold fX12_looksAtAim_86 at h
  obtain ⟨g86, h⟩ := zgd_of h
  obtain ⟨sO86, esO86, h⟩ := zlet_of h
  refine z_zast (ws2 := [wX12 (zcT C) aO sO86]) X 0 17 g86 dX12_looksAtAim_86 rfl rfl (by decide) (w2 := wX12 (zcT C) aO sO86) (by rw [esO86]; rfl) rfl ?_
  obtain ⟨v87, ev87, h⟩ := zlet_of h
  refine z_iinc (v := v87) (lv2 := [(3, .int v87), (0, .ref (aO 0)), (1, .int x1), (2, .int x2)]) X dX12_looksAtAim_87 (k := 3) rfl (by rw [ev87]; rfl) (by decide) rfl ?_
  refine z_goto (tgt := 47) X dX12_looksAtAim_90 (by decide) ?_
  exact z_at (pc2 := 47) (lv2 := [(0, .ref (aO 0)), (1, .int x1), (2, .int x2), (3, .int v87)]) (st2 := []) (ws2 := [wX12 (zcT C) aO sO86]) rfl rfl rfl [1, 2, 3, 0] rfl (hk47 sO86 x1 x2 v87 h)
theorem bX12_looksAtAim_85 {C : zCtx} (X : zFx C cX12_looksAtAim 5 RX12 rmX12_looksAtAim none) {aO : Nat → Nat} {k47 : zSt → Int32 → Int32 → Int32 → Option (zSt)} {sO : zSt} {x1 : Int32} {x2 : Int32} {x3 : Int32} {y1 : Int32} {out : zSt} (hQ : zHv C [wX12 (zcT C) aO out] 0 0) (hk47 : ∀ (sO : zSt) (x1 : Int32) (x2 : Int32) (x3 : Int32), k47 sO x1 x2 x3 = some out → zG C 5 [0] 0 0 [wX12 (zcT C) aO sO] 47 [(0, .ref (aO 0)), (1, .int x1), (2, .int x2), (3, .int x3)] []) (h : fX12_looksAtAim_85 k47 sO x1 x2 x3 y1 = some out) : zG C 5 [0] 0 0 [wX12 (zcT C) aO sO] 85 [(0, .ref (aO 0)), (1, .int x1), (2, .int x2), (3, .int x3)] [.int y1, .ref (aO 26)] := by
  unfold fX12_looksAtAim_85 at h
  refine z_iconst (v := (0 : Int32)) X dX12_looksAtAim_85 rfl ?_
  exact z_at (pc2 := 86) (lv2 := [(0, .ref (aO 0)), (1, .int x1), (2, .int x2), (3, .int x3)]) (st2 := [.int (0 : Int32), .int y1, .ref (aO 26)]) (ws2 := [wX12 (zcT C) aO sO]) rfl rfl rfl [0, 1, 2, 3] rfl (bX12_looksAtAim_86 X hQ hk47 h)
theorem bX12_looksAtAim_47 {C : zCtx} (X : zFx C cX12_looksAtAim 5 RX12 rmX12_looksAtAim none) {aO : Nat → Nat} {out : zSt} (hQ : zHv C [wX12 (zcT C) aO out] 0 0) : ∀ (n : Nat) (sO : zSt) (x1 : Int32) (x2 : Int32) (x3 : Int32), fX12_looksAtAim_47 n sO x1 x2 x3 = some out → zG C 5 [0] 0 0 [wX12 (zcT C) aO sO] 47 [(0, .ref (aO 0)), (1, .int x1), (2, .int x2), (3, .int x3)] [] := by
  intro n
  induction n with
  | zero =>
    intro sO x1 x2 x3 h
    rw [fX12_looksAtAim_47] at h
    exact zno h
  | succ n ih =>
    intro sO x1 x2 x3 h
    rw [fX12_looksAtAim_47] at h
    refine z_iload_n X dX12_looksAtAim_47 3 rfl ?_
    refine z_aload_n X dX12_looksAtAim_48 0 rfl ?_
    refine z_get (v := .int (zgi sO 32)) X 0 0 13 32 ziX12 rfl (by decide) zw1368 rfl dX12_looksAtAim_49 rfl rfl rfl ?_
    refine z_icmp_ge (tgt := 93) X dX12_looksAtAim_52 (by decide) (fun c52 => ?_) (fun c52 => ?_)
    · replace h := zif_t h c52
      refine z_iconst (v := (0 : Int32)) X dX12_looksAtAim_93 rfl ?_
      refine z_istore_n (lv2 := [(3, .int (0 : Int32)), (0, .ref (aO 0)), (1, .int x1), (2, .int x2)]) X dX12_looksAtAim_94 rfl (by decide) rfl ?_
      exact z_at (pc2 := 95) (lv2 := [(0, .ref (aO 0)), (1, .int x1), (2, .int x2), (3, .int (0 : Int32))]) (st2 := []) (ws2 := [wX12 (zcT C) aO sO]) rfl rfl rfl [1, 2, 3, 0] rfl (bX12_looksAtAim_95 X hQ  6000 sO x1 x2 (0 : Int32) h)
    · replace h := zif_f h c52
      refine z_aload_n X dX12_looksAtAim_55 0 rfl ?_
      refine z_get (v := .ref (aO 26)) X 0 0 13 25 ziX12 rfl (by decide) zw1361 rfl dX12_looksAtAim_56 rfl rfl rfl ?_
      refine z_iload_n X dX12_looksAtAim_59 3 rfl ?_
      refine z_aload_n X dX12_looksAtAim_60 0 rfl ?_
      refine z_get (v := .ref (aO 26)) X 0 0 13 25 ziX12 rfl (by decide) zw1361 rfl dX12_looksAtAim_61 rfl rfl rfl ?_
      refine z_iload_n X dX12_looksAtAim_64 3 rfl ?_
      obtain ⟨g65, h⟩ := zgd_of h
      refine z_zald X 0 17 g65 dX12_looksAtAim_65 rfl rfl ?_
      refine z_if_eq (tgt := 85) X dX12_looksAtAim_66 (by decide) (fun c66 => ?_) (fun c66 => ?_)
      · replace h := zif_t h c66
        exact z_at (pc2 := 85) (lv2 := [(0, .ref (aO 0)), (1, .int x1), (2, .int x2), (3, .int x3)]) (st2 := [.int x3, .ref (aO 26)]) (ws2 := [wX12 (zcT C) aO sO]) rfl rfl rfl [0, 1, 2, 3] rfl (bX12_looksAtAim_85 X hQ ih h)
      · replace h := zif_f h c66
        refine z_aload_n X dX12_looksAtAim_69 0 rfl ?_
        refine z_iload_n X dX12_looksAtAim_70 1 rfl ?_
        refine z_iload_n X dX12_looksAtAim_71 3 rfl ?_
        refine z_iload_n X dX12_looksAtAim_72 2 rfl ?_
        obtain ⟨o73, ho73, h⟩ := zbind_of h
        refine z_callVl (st := [.int x3, .ref (aO 26)]) (ws2 := [wX12 (zcT C) aO sO]) X (metX12_better (zcl C) (zcD C) (zcT C) aO ho73) zmX12_better zw1849 dX12_looksAtAim_73 0 0 13 rfl rfl rfl rfl [0] rfl rfl [] rfl (by decide) trivial rfl rfl rfl (Nat.le_of_ble_eq_true rfl) rfl rfl ⟨Nat.le_of_ble_eq_true rfl, Nat.le_of_ble_eq_true rfl⟩ ⟨Nat.le_of_ble_eq_true rfl, Nat.le_of_ble_eq_true rfl⟩ ?_
        refine z_lconst (v := (0 : Int64)) X dX12_looksAtAim_76 rfl ?_
        refine z_lcmp_ne (tgt := 85) X dX12_looksAtAim_77 dX12_looksAtAim_78 (by decide) (fun c77 => ?_) (fun c77 => ?_)
        · replace h := zif_f h c77
          exact z_at (pc2 := 85) (lv2 := [(0, .ref (aO 0)), (1, .int x1), (2, .int x2), (3, .int x3)]) (st2 := [.int x3, .ref (aO 26)]) (ws2 := [wX12 (zcT C) aO sO]) rfl rfl rfl [0, 1, 2, 3] rfl (bX12_looksAtAim_85 X hQ ih h)
        · replace h := zif_t h c77
          refine z_iconst (v := (1 : Int32)) X dX12_looksAtAim_81 rfl ?_
          refine z_goto (tgt := 86) X dX12_looksAtAim_82 (by decide) ?_
          exact z_at (pc2 := 86) (lv2 := [(0, .ref (aO 0)), (1, .int x1), (2, .int x2), (3, .int x3)]) (st2 := [.int (1 : Int32), .int x3, .ref (aO 26)]) (ws2 := [wX12 (zcT C) aO sO]) rfl rfl rfl [0, 1, 2, 3] rfl (bX12_looksAtAim_86 X hQ ih h)
theorem bX12_looksAtAim_39 {C : zCtx} (X : zFx C cX12_looksAtAim 5 RX12 rmX12_looksAtAim none) {aO : Nat → Nat} {k4 : zSt → Int32 → Int32 → Int32 → Option (zSt)} {sO : zSt} {x1 : Int32} {x2 : Int32} {x3 : Int32} {out : zSt} (hQ : zHv C [wX12 (zcT C) aO out] 0 0) (hk4 : ∀ (sO : zSt) (x1 : Int32) (x2 : Int32) (x3 : Int32), k4 sO x1 x2 x3 = some out → zG C 5 [0] 0 0 [wX12 (zcT C) aO sO] 4 [(0, .ref (aO 0)), (1, .int x1), (2, .int x2), (3, .int x3)] []) (h : fX12_looksAtAim_39 k4 sO x1 x2 x3 = some out) : zG C 5 [0] 0 0 [wX12 (zcT C) aO sO] 39 [(0, .ref (aO 0)), (1, .int x1), (2, .int x2), (3, .int x3)] [] := by
  unfold fX12_looksAtAim_39 at h
  obtain ⟨v39, ev39, h⟩ := zlet_of h
  refine z_iinc (v := v39) (lv2 := [(3, .int v39), (0, .ref (aO 0)), (1, .int x1), (2, .int x2)]) X dX12_looksAtAim_39 (k := 3) rfl (by rw [ev39]; rfl) (by decide) rfl ?_
  refine z_goto (tgt := 4) X dX12_looksAtAim_42 (by decide) ?_
  exact z_at (pc2 := 4) (lv2 := [(0, .ref (aO 0)), (1, .int x1), (2, .int x2), (3, .int v39)]) (st2 := []) (ws2 := [wX12 (zcT C) aO sO]) rfl rfl rfl [1, 2, 3, 0] rfl (hk4 sO x1 x2 v39 h)
theorem bX12_looksAtAim_37 {C : zCtx} (X : zFx C cX12_looksAtAim 5 RX12 rmX12_looksAtAim none) {aO : Nat → Nat} {k4 : zSt → Int32 → Int32 → Int32 → Option (zSt)} {sO : zSt} {x1 : Int32} {x3 : Int32} {out : zSt} (hQ : zHv C [wX12 (zcT C) aO out] 0 0) (hk4 : ∀ (sO : zSt) (x1 : Int32) (x2 : Int32) (x3 : Int32), k4 sO x1 x2 x3 = some out → zG C 5 [0] 0 0 [wX12 (zcT C) aO sO] 4 [(0, .ref (aO 0)), (1, .int x1), (2, .int x2), (3, .int x3)] []) (h : fX12_looksAtAim_37 k4 sO x1 x3 = some out) : zG C 5 [0] 0 0 [wX12 (zcT C) aO sO] 37 [(0, .ref (aO 0)), (1, .int x1), (3, .int x3)] [] := by
  unfold fX12_looksAtAim_37 at h
  refine z_iload_n X dX12_looksAtAim_37 2 rfl ?_
  refine z_istore_n (lv2 := [(2, .int x3), (0, .ref (aO 0)), (1, .int x1), (3, .int x3)]) X dX12_looksAtAim_38 rfl (by decide) rfl ?_
  exact z_at (pc2 := 39) (lv2 := [(0, .ref (aO 0)), (1, .int x1), (2, .int x3), (3, .int x3)]) (st2 := []) (ws2 := [wX12 (zcT C) aO sO]) rfl rfl rfl [1, 2, 0, 3] rfl (bX12_looksAtAim_39 X hQ hk4 h)
theorem bX12_looksAtAim_4 {C : zCtx} (X : zFx C cX12_looksAtAim 5 RX12 rmX12_looksAtAim none) {aO : Nat → Nat} {out : zSt} (hQ : zHv C [wX12 (zcT C) aO out] 0 0) : ∀ (n : Nat) (sO : zSt) (x1 : Int32) (x2 : Int32) (x3 : Int32), fX12_looksAtAim_4 n sO x1 x2 x3 = some out → zG C 5 [0] 0 0 [wX12 (zcT C) aO sO] 4 [(0, .ref (aO 0)), (1, .int x1), (2, .int x2), (3, .int x3)] [] := by
  intro n
  induction n with
  | zero =>
    intro sO x1 x2 x3 h
    rw [fX12_looksAtAim_4] at h
    exact zno h
  | succ n ih =>
    intro sO x1 x2 x3 h
    rw [fX12_looksAtAim_4] at h
    refine z_iload_n X dX12_looksAtAim_4 3 rfl ?_
    refine z_aload_n X dX12_looksAtAim_5 0 rfl ?_
    refine z_get (v := .int (zgi sO 32)) X 0 0 13 32 ziX12 rfl (by decide) zw1368 rfl dX12_looksAtAim_6 rfl rfl rfl ?_
    refine z_icmp_ge (tgt := 45) X dX12_looksAtAim_9 (by decide) (fun c9 => ?_) (fun c9 => ?_)
    · replace h := zif_t h c9
      refine z_iconst (v := (0 : Int32)) X dX12_looksAtAim_45 rfl ?_
      refine z_istore_n (lv2 := [(3, .int (0 : Int32)), (0, .ref (aO 0)), (1, .int x1), (2, .int x2)]) X dX12_looksAtAim_46 rfl (by decide) rfl ?_
      exact z_at (pc2 := 47) (lv2 := [(0, .ref (aO 0)), (1, .int x1), (2, .int x2), (3, .int (0 : Int32))]) (st2 := []) (ws2 := [wX12 (zcT C) aO sO]) rfl rfl rfl [1, 2, 3, 0] rfl (bX12_looksAtAim_47 X hQ  6000 sO x1 x2 (0 : Int32) h)
    · replace h := zif_f h c9
      refine z_aload_n X dX12_looksAtAim_12 0 rfl ?_
      refine z_get (v := .ref (aO 26)) X 0 0 13 25 ziX12 rfl (by decide) zw1361 rfl dX12_looksAtAim_13 rfl rfl rfl ?_
      refine z_iload_n X dX12_looksAtAim_16 3 rfl ?_
      obtain ⟨g17, h⟩ := zgd_of h
      refine z_zald X 0 17 g17 dX12_looksAtAim_17 rfl rfl ?_
      refine z_if_eq (tgt := 39) X dX12_looksAtAim_18 (by decide) (fun c18 => ?_) (fun c18 => ?_)
      · replace h := zif_t h c18
        exact z_at (pc2 := 39) (lv2 := [(0, .ref (aO 0)), (1, .int x1), (2, .int x2), (3, .int x3)]) (st2 := []) (ws2 := [wX12 (zcT C) aO sO]) rfl rfl rfl [0, 1, 2, 3] rfl (bX12_looksAtAim_39 X hQ ih h)
      · replace h := zif_f h c18
        refine z_iload_n X dX12_looksAtAim_21 2 rfl ?_
        refine z_if_lt (tgt := 37) X dX12_looksAtAim_22 (by decide) (fun c22 => ?_) (fun c22 => ?_)
        · replace h := zif_t h c22
          exact z_at (pc2 := 37) (lv2 := [(0, .ref (aO 0)), (1, .int x1), (3, .int x3)]) (st2 := []) (ws2 := [wX12 (zcT C) aO sO]) rfl rfl rfl [0, 1, 3] rfl (bX12_looksAtAim_37 X hQ ih h)
        · replace h := zif_f h c22
          refine z_aload_n X dX12_looksAtAim_25 0 rfl ?_
          refine z_iload_n X dX12_looksAtAim_26 1 rfl ?_
          refine z_iload_n X dX12_looksAtAim_27 3 rfl ?_
          refine z_iload_n X dX12_looksAtAim_28 2 rfl ?_
          obtain ⟨o29, ho29, h⟩ := zbind_of h
          refine z_callVl (st := []) (ws2 := [wX12 (zcT C) aO sO]) X (metX12_better (zcl C) (zcD C) (zcT C) aO ho29) zmX12_better zw1849 dX12_looksAtAim_29 0 0 13 rfl rfl rfl rfl [0] rfl rfl [] rfl (by decide) trivial rfl rfl rfl (Nat.le_of_ble_eq_true rfl) rfl rfl ⟨Nat.le_of_ble_eq_true rfl, Nat.le_of_ble_eq_true rfl⟩ ⟨Nat.le_of_ble_eq_true rfl, Nat.le_of_ble_eq_true rfl⟩ ?_
          refine z_lconst (v := (0 : Int64)) X dX12_looksAtAim_32 rfl ?_
          refine z_lcmp_le (tgt := 39) X dX12_looksAtAim_33 dX12_looksAtAim_34 (by decide) (fun c33 => ?_) (fun c33 => ?_)
          · replace h := zif_t h c33
            exact z_at (pc2 := 39) (lv2 := [(0, .ref (aO 0)), (1, .int x1), (2, .int x2), (3, .int x3)]) (st2 := []) (ws2 := [wX12 (zcT C) aO sO]) rfl rfl rfl [0, 1, 2, 3] rfl (bX12_looksAtAim_39 X hQ ih h)
          · replace h := zif_f h c33
            exact z_at (pc2 := 37) (lv2 := [(0, .ref (aO 0)), (1, .int x1), (3, .int x3)]) (st2 := []) (ws2 := [wX12 (zcT C) aO sO]) rfl rfl rfl [0, 1, 3] rfl (bX12_looksAtAim_37 X hQ ih h)
theorem bX12_looksAtAim_0 {C : zCtx} (X : zFx C cX12_looksAtAim 5 RX12 rmX12_looksAtAim none) {aO : Nat → Nat} {sO : zSt} {x1 : Int32} {out : zSt} (hQ : zHv C [wX12 (zcT C) aO out] 0 0) (h : fX12_looksAtAim sO x1 = some out) : zG C 5 [0] 0 0 [wX12 (zcT C) aO sO] 0 [(0, .ref (aO 0)), (1, .int x1)] [] := by
  unfold fX12_looksAtAim at h
  refine z_iconst (v := (-1 : Int32)) X dX12_looksAtAim_0 rfl ?_
  refine z_istore_n (lv2 := [(2, .int (-1 : Int32)), (0, .ref (aO 0)), (1, .int x1)]) X dX12_looksAtAim_1 rfl (by decide) rfl ?_
  refine z_iconst (v := (0 : Int32)) X dX12_looksAtAim_2 rfl ?_
  refine z_istore_n (lv2 := [(3, .int (0 : Int32)), (2, .int (-1 : Int32)), (0, .ref (aO 0)), (1, .int x1)]) X dX12_looksAtAim_3 rfl (by decide) rfl ?_
  exact z_at (pc2 := 4) (lv2 := [(0, .ref (aO 0)), (1, .int x1), (2, .int (-1 : Int32)), (3, .int (0 : Int32))]) (st2 := []) (ws2 := [wX12 (zcT C) aO sO]) rfl rfl rfl [2, 3, 1, 0] rfl (bX12_looksAtAim_4 X hQ  6000 sO x1 (-1 : Int32) (0 : Int32) h)
theorem metX12_looksAtAim (l : Launch) (D : va_G) (T : Nat → ClassId) (aO : Nat → Nat) {sO : zSt} {x1 : Int32} {out : zSt} (hf : fX12_looksAtAim sO x1 = some out) (sz : Nat) : Met l yX12_looksAtAim (zws yX12_looksAtAim cX12_looksAtAim 5 none) rmX12_looksAtAim (zPc D T [.ref (aO 0), .int x1] [wX12 T aO sO] sz) (zQv D [wX12 T aO out] (zA [wX12 T aO sO] sz)) 0 0 (zA [wX12 T aO sO] sz) :=
  zMet (D := D) (T := T) (av := [.ref (aO 0), .int x1]) (ws := fun T => [wX12 T aO sO]) (wm := fun T => [wX12 T aO sO]) (lv0 := [(0, .ref (aO 0)), (1, .int x1)]) [0] (Qc := fun D T A => zQv D [wX12 T aO out] A) (by decide +kernel) rfl (Nat.le_of_ble_eq_true rfl) rfl (fun C X hQ => bX12_looksAtAim_0 X hQ hf) sz
/-- private void findsLeast(); of TableaufloorModel -/
abbrev rmX12_findsLeast : Room := { frames := 0, cells := 0, slots := 0, locals := 0 }
def fX12_findsLeast_166 (k2 : zSt → Int32 → Option (zSt)) (k95 : zSt → Int32 → Int32 → Option (zSt)) (sO : zSt) (x1 : Int32) (x2 : Int32) (y1 : Int32) (y2 : Int32) : Option (zSt) :=
  (if zin y1 600 = true then
    (zlet (zsa sO 25 (upd (zga sO 25) (y1).toNatClampNeg (vp_nar .boolean y2))) (fun sO166 =>
    (zlet (x2 + 1) (fun v167 =>
    (k95 sO166 x1 v167))))) else none)
def fX12_findsLeast_165 (k2 : zSt → Int32 → Option (zSt)) (k95 : zSt → Int32 → Int32 → Option (zSt)) (sO : zSt) (x1 : Int32) (x2 : Int32) (y1 : Int32) : Option (zSt) :=
  (fX12_findsLeast_166 k2 k95 sO x1 x2 y1 (0 : Int32))
def fX12_findsLeast_95 (k2 : zSt → Int32 → Option (zSt)) : Nat → zSt → Int32 → Int32 → Option (zSt)
  | 0, _, _, _ => none
  | n + 1, sO, x1, x2 =>
    (if (zgi sO 32) ≤ x2 then
      (zlet (x1 + 1) (fun v173 =>
        (k2 sO v173)))
    else
      (if zin x2 600 = true then
        (if (zga sO 25 (x2).toNatClampNeg) = 0 then
        (fX12_findsLeast_165 k2 (fX12_findsLeast_95 k2 n) sO x1 x2 x2)
      else
        (if zin (((3 : Int32) * x2) + x1) 1800 = true then
          (if zin (zgi sO 35) 600 = true then
          (if zin (((3 : Int32) * (zgi sO 35)) + x1) 1800 = true then
          (if zin x2 600 = true then
          (if ((zgb sO 21 ((((3 : Int32) * x2) + x1)).toNatClampNeg) * (zgb sO 22 ((zgi sO 35)).toNatClampNeg)) = ((zgb sO 21 ((((3 : Int32) * (zgi sO 35)) + x1)).toNatClampNeg) * (zgb sO 22 (x2).toNatClampNeg)) then
          (fX12_findsLeast_166 k2 (fX12_findsLeast_95 k2 n) sO x1 x2 x2 (1 : Int32))
        else
          (fX12_findsLeast_165 k2 (fX12_findsLeast_95 k2 n) sO x1 x2 x2)) else none) else none) else none) else none)) else none))
def fX12_findsLeast_87 (k2 : zSt → Int32 → Option (zSt)) (k14 : zSt → Int32 → Int32 → Option (zSt)) (sO : zSt) (x1 : Int32) (x2 : Int32) : Option (zSt) :=
  (zlet (x2 + 1) (fun v87 =>
    (k14 sO x1 v87)))
def fX12_findsLeast_82 (k2 : zSt → Int32 → Option (zSt)) (k14 : zSt → Int32 → Int32 → Option (zSt)) (sO : zSt) (x1 : Int32) (x2 : Int32) : Option (zSt) :=
  (zlet (zsi sO 35 x2) (fun sO84 =>
    (fX12_findsLeast_87 k2 k14 sO84 x1 x2)))
def fX12_findsLeast_14 (k2 : zSt → Int32 → Option (zSt)) : Nat → zSt → Int32 → Int32 → Option (zSt)
  | 0, _, _, _ => none
  | n + 1, sO, x1, x2 =>
    (if (zgi sO 32) ≤ x2 then
      (fX12_findsLeast_95 k2 6000 sO x1 (0 : Int32))
    else
      (if zin x2 600 = true then
        (if (zga sO 25 (x2).toNatClampNeg) = 0 then
        (fX12_findsLeast_87 k2 (fX12_findsLeast_14 k2 n) sO x1 x2)
      else
        (if (zgi sO 35) < 0 then
          (fX12_findsLeast_82 k2 (fX12_findsLeast_14 k2 n) sO x1 x2)
        else
          (if zin (((3 : Int32) * x2) + x1) 1800 = true then
            (if zin (zgi sO 35) 600 = true then
            (if zin (((3 : Int32) * (zgi sO 35)) + x1) 1800 = true then
            (if zin x2 600 = true then
            (if ((zgb sO 21 ((((3 : Int32) * (zgi sO 35)) + x1)).toNatClampNeg) * (zgb sO 22 (x2).toNatClampNeg)) ≤ ((zgb sO 21 ((((3 : Int32) * x2) + x1)).toNatClampNeg) * (zgb sO 22 ((zgi sO 35)).toNatClampNeg)) then
            (fX12_findsLeast_87 k2 (fX12_findsLeast_14 k2 n) sO x1 x2)
          else
            (fX12_findsLeast_82 k2 (fX12_findsLeast_14 k2 n) sO x1 x2)) else none) else none) else none) else none))) else none))
def fX12_findsLeast_2 : Nat → zSt → Int32 → Option (zSt)
  | 0, _, _ => none
  | n + 1, sO, x1 =>
    (if (3 : Int32) ≤ x1 then
      some (sO)
    else
      (zlet (zsi sO 35 (-1 : Int32)) (fun sO9 =>
        (fX12_findsLeast_14 (fX12_findsLeast_2 n) 6000 sO9 x1 (0 : Int32)))))
def fX12_findsLeast (sO : zSt) : Option (zSt) :=
  (fX12_findsLeast_2 6000 sO (0 : Int32))
theorem bX12_findsLeast_166 {C : zCtx} (X : zFx C cX12_findsLeast 3 RX12 rmX12_findsLeast none) {aO : Nat → Nat} {k2 : zSt → Int32 → Option (zSt)} {k95 : zSt → Int32 → Int32 → Option (zSt)} {sO : zSt} {x1 : Int32} {x2 : Int32} {y1 : Int32} {y2 : Int32} {out : zSt} (hQ : zHv C [wX12 (zcT C) aO out] 0 0) (hk2 : ∀ (sO : zSt) (x1 : Int32), k2 sO x1 = some out → zG C 3 [0] 0 0 [wX12 (zcT C) aO sO] 2 [(0, .ref (aO 0)), (1, .int x1)] []) (hk95 : ∀ (sO : zSt) (x1 : Int32) (x2 : Int32), k95 sO x1 x2 = some out → zG C 3 [0] 0 0 [wX12 (zcT C) aO sO] 95 [(0, .ref (aO 0)), (1, .int x1), (2, .int x2)] []) (h : fX12_findsLeast_166 k2 k95 sO x1 x2 y1 y2 = some out) : zG C 3 [0] 0 0 [wX12 (zcT C) aO sO] 166 [(0, .ref (aO 0)), (1, .int x1), (2, .int x2)] [.int y2, .int y1, .ref (aO 26)] := by
  unfold fX12_findsLeast_166 at h
  obtain ⟨g166, h⟩ := zgd_of h
  obtain ⟨sO166, esO166, h⟩ := zlet_of h
  refine z_zast (ws2 := [wX12 (zcT C) aO sO166]) X 0 17 g166 dX12_findsLeast_166 rfl rfl (by decide) (w2 := wX12 (zcT C) aO sO166) (by rw [esO166]; rfl) rfl ?_
  obtain ⟨v167, ev167, h⟩ := zlet_of h
  refine z_iinc (v := v167) (lv2 := [(2, .int v167), (0, .ref (aO 0)), (1, .int x1)]) X dX12_findsLeast_167 (k := 2) rfl (by rw [ev167]; rfl) (by decide) rfl ?_
  refine z_goto (tgt := 95) X dX12_findsLeast_170 (by decide) ?_
  exact z_at (pc2 := 95) (lv2 := [(0, .ref (aO 0)), (1, .int x1), (2, .int v167)]) (st2 := []) (ws2 := [wX12 (zcT C) aO sO166]) rfl rfl rfl [1, 2, 0] rfl (hk95 sO166 x1 v167 h)
theorem bX12_findsLeast_165 {C : zCtx} (X : zFx C cX12_findsLeast 3 RX12 rmX12_findsLeast none) {aO : Nat → Nat} {k2 : zSt → Int32 → Option (zSt)} {k95 : zSt → Int32 → Int32 → Option (zSt)} {sO : zSt} {x1 : Int32} {x2 : Int32} {y1 : Int32} {out : zSt} (hQ : zHv C [wX12 (zcT C) aO out] 0 0) (hk2 : ∀ (sO : zSt) (x1 : Int32), k2 sO x1 = some out → zG C 3 [0] 0 0 [wX12 (zcT C) aO sO] 2 [(0, .ref (aO 0)), (1, .int x1)] []) (hk95 : ∀ (sO : zSt) (x1 : Int32) (x2 : Int32), k95 sO x1 x2 = some out → zG C 3 [0] 0 0 [wX12 (zcT C) aO sO] 95 [(0, .ref (aO 0)), (1, .int x1), (2, .int x2)] []) (h : fX12_findsLeast_165 k2 k95 sO x1 x2 y1 = some out) : zG C 3 [0] 0 0 [wX12 (zcT C) aO sO] 165 [(0, .ref (aO 0)), (1, .int x1), (2, .int x2)] [.int y1, .ref (aO 26)] := by
  unfold fX12_findsLeast_165 at h
  refine z_iconst (v := (0 : Int32)) X dX12_findsLeast_165 rfl ?_
  exact z_at (pc2 := 166) (lv2 := [(0, .ref (aO 0)), (1, .int x1), (2, .int x2)]) (st2 := [.int (0 : Int32), .int y1, .ref (aO 26)]) (ws2 := [wX12 (zcT C) aO sO]) rfl rfl rfl [0, 1, 2] rfl (bX12_findsLeast_166 X hQ hk2 hk95 h)
theorem bX12_findsLeast_95 {C : zCtx} (X : zFx C cX12_findsLeast 3 RX12 rmX12_findsLeast none) {aO : Nat → Nat} {k2 : zSt → Int32 → Option (zSt)} {out : zSt} (hQ : zHv C [wX12 (zcT C) aO out] 0 0) (hk2 : ∀ (sO : zSt) (x1 : Int32), k2 sO x1 = some out → zG C 3 [0] 0 0 [wX12 (zcT C) aO sO] 2 [(0, .ref (aO 0)), (1, .int x1)] []) : ∀ (n : Nat) (sO : zSt) (x1 : Int32) (x2 : Int32), fX12_findsLeast_95 k2 n sO x1 x2 = some out → zG C 3 [0] 0 0 [wX12 (zcT C) aO sO] 95 [(0, .ref (aO 0)), (1, .int x1), (2, .int x2)] [] := by
  intro n
  induction n with
  | zero =>
    intro sO x1 x2 h
    rw [fX12_findsLeast_95] at h
    exact zno h
  | succ n ih =>
    intro sO x1 x2 h
    rw [fX12_findsLeast_95] at h
    refine z_iload_n X dX12_findsLeast_95 2 rfl ?_
    refine z_aload_n X dX12_findsLeast_96 0 rfl ?_
    refine z_get (v := .int (zgi sO 32)) X 0 0 13 32 ziX12 rfl (by decide) zw1368 rfl dX12_findsLeast_97 rfl rfl rfl ?_
    refine z_icmp_ge (tgt := 173) X dX12_findsLeast_100 (by decide) (fun c100 => ?_) (fun c100 => ?_)
    · replace h := zif_t h c100
      obtain ⟨v173, ev173, h⟩ := zlet_of h
      refine z_iinc (v := v173) (lv2 := [(1, .int v173), (0, .ref (aO 0)), (2, .int x2)]) X dX12_findsLeast_173 (k := 1) rfl (by rw [ev173]; rfl) (by decide) rfl ?_
      refine z_goto (tgt := 2) X dX12_findsLeast_176 (by decide) ?_
      exact z_at (pc2 := 2) (lv2 := [(0, .ref (aO 0)), (1, .int v173)]) (st2 := []) (ws2 := [wX12 (zcT C) aO sO]) rfl rfl rfl [1, 0] rfl (hk2 sO v173 h)
    · replace h := zif_f h c100
      refine z_aload_n X dX12_findsLeast_103 0 rfl ?_
      refine z_get (v := .ref (aO 26)) X 0 0 13 25 ziX12 rfl (by decide) zw1361 rfl dX12_findsLeast_104 rfl rfl rfl ?_
      refine z_iload_n X dX12_findsLeast_107 2 rfl ?_
      refine z_aload_n X dX12_findsLeast_108 0 rfl ?_
      refine z_get (v := .ref (aO 26)) X 0 0 13 25 ziX12 rfl (by decide) zw1361 rfl dX12_findsLeast_109 rfl rfl rfl ?_
      refine z_iload_n X dX12_findsLeast_112 2 rfl ?_
      obtain ⟨g113, h⟩ := zgd_of h
      refine z_zald X 0 17 g113 dX12_findsLeast_113 rfl rfl ?_
      refine z_if_eq (tgt := 165) X dX12_findsLeast_114 (by decide) (fun c114 => ?_) (fun c114 => ?_)
      · replace h := zif_t h c114
        exact z_at (pc2 := 165) (lv2 := [(0, .ref (aO 0)), (1, .int x1), (2, .int x2)]) (st2 := [.int x2, .ref (aO 26)]) (ws2 := [wX12 (zcT C) aO sO]) rfl rfl rfl [0, 1, 2] rfl (bX12_findsLeast_165 X hQ hk2 ih h)
      · replace h := zif_f h c114
        refine z_aload_n X dX12_findsLeast_117 0 rfl ?_
        refine z_get (v := .ref (aO 22)) X 0 0 13 21 ziX12 rfl (by decide) zw1357 rfl dX12_findsLeast_118 rfl rfl rfl ?_
        refine z_iconst (v := (3 : Int32)) X dX12_findsLeast_121 rfl ?_
        refine z_iload_n X dX12_findsLeast_122 2 rfl ?_
        refine z_imul X dX12_findsLeast_123 ?_
        refine z_iload_n X dX12_findsLeast_124 1 rfl ?_
        refine z_iadd X dX12_findsLeast_125 ?_
        obtain ⟨g126, h⟩ := zgd_of h
        refine z_lald X 0 13 g126 dX12_findsLeast_126 rfl rfl ?_
        refine z_aload_n X dX12_findsLeast_127 0 rfl ?_
        refine z_get (v := .ref (aO 23)) X 0 0 13 22 ziX12 rfl (by decide) zw1358 rfl dX12_findsLeast_128 rfl rfl rfl ?_
        refine z_aload_n X dX12_findsLeast_131 0 rfl ?_
        refine z_get (v := .int (zgi sO 35)) X 0 0 13 35 ziX12 rfl (by decide) zw1371 rfl dX12_findsLeast_132 rfl rfl rfl ?_
        obtain ⟨g135, h⟩ := zgd_of h
        refine z_lald X 0 14 g135 dX12_findsLeast_135 rfl rfl ?_
        refine z_lmul X dX12_findsLeast_136 ?_
        refine z_aload_n X dX12_findsLeast_137 0 rfl ?_
        refine z_get (v := .ref (aO 22)) X 0 0 13 21 ziX12 rfl (by decide) zw1357 rfl dX12_findsLeast_138 rfl rfl rfl ?_
        refine z_iconst (v := (3 : Int32)) X dX12_findsLeast_141 rfl ?_
        refine z_aload_n X dX12_findsLeast_142 0 rfl ?_
        refine z_get (v := .int (zgi sO 35)) X 0 0 13 35 ziX12 rfl (by decide) zw1371 rfl dX12_findsLeast_143 rfl rfl rfl ?_
        refine z_imul X dX12_findsLeast_146 ?_
        refine z_iload_n X dX12_findsLeast_147 1 rfl ?_
        refine z_iadd X dX12_findsLeast_148 ?_
        obtain ⟨g149, h⟩ := zgd_of h
        refine z_lald X 0 13 g149 dX12_findsLeast_149 rfl rfl ?_
        refine z_aload_n X dX12_findsLeast_150 0 rfl ?_
        refine z_get (v := .ref (aO 23)) X 0 0 13 22 ziX12 rfl (by decide) zw1358 rfl dX12_findsLeast_151 rfl rfl rfl ?_
        refine z_iload_n X dX12_findsLeast_154 2 rfl ?_
        obtain ⟨g155, h⟩ := zgd_of h
        refine z_lald X 0 14 g155 dX12_findsLeast_155 rfl rfl ?_
        refine z_lmul X dX12_findsLeast_156 ?_
        refine z_lcmp_ne (tgt := 165) X dX12_findsLeast_157 dX12_findsLeast_158 (by decide) (fun c157 => ?_) (fun c157 => ?_)
        · replace h := zif_f h c157
          exact z_at (pc2 := 165) (lv2 := [(0, .ref (aO 0)), (1, .int x1), (2, .int x2)]) (st2 := [.int x2, .ref (aO 26)]) (ws2 := [wX12 (zcT C) aO sO]) rfl rfl rfl [0, 1, 2] rfl (bX12_findsLeast_165 X hQ hk2 ih h)
        · replace h := zif_t h c157
          refine z_iconst (v := (1 : Int32)) X dX12_findsLeast_161 rfl ?_
          refine z_goto (tgt := 166) X dX12_findsLeast_162 (by decide) ?_
          exact z_at (pc2 := 166) (lv2 := [(0, .ref (aO 0)), (1, .int x1), (2, .int x2)]) (st2 := [.int (1 : Int32), .int x2, .ref (aO 26)]) (ws2 := [wX12 (zcT C) aO sO]) rfl rfl rfl [0, 1, 2] rfl (bX12_findsLeast_166 X hQ hk2 ih h)
theorem bX12_findsLeast_87 {C : zCtx} (X : zFx C cX12_findsLeast 3 RX12 rmX12_findsLeast none) {aO : Nat → Nat} {k2 : zSt → Int32 → Option (zSt)} {k14 : zSt → Int32 → Int32 → Option (zSt)} {sO : zSt} {x1 : Int32} {x2 : Int32} {out : zSt} (hQ : zHv C [wX12 (zcT C) aO out] 0 0) (hk2 : ∀ (sO : zSt) (x1 : Int32), k2 sO x1 = some out → zG C 3 [0] 0 0 [wX12 (zcT C) aO sO] 2 [(0, .ref (aO 0)), (1, .int x1)] []) (hk14 : ∀ (sO : zSt) (x1 : Int32) (x2 : Int32), k14 sO x1 x2 = some out → zG C 3 [0] 0 0 [wX12 (zcT C) aO sO] 14 [(0, .ref (aO 0)), (1, .int x1), (2, .int x2)] []) (h : fX12_findsLeast_87 k2 k14 sO x1 x2 = some out) : zG C 3 [0] 0 0 [wX12 (zcT C) aO sO] 87 [(0, .ref (aO 0)), (1, .int x1), (2, .int x2)] [] := by
  unfold fX12_findsLeast_87 at h
  obtain ⟨v87, ev87, h⟩ := zlet_of h
  refine z_iinc (v := v87) (lv2 := [(2, .int v87), (0, .ref (aO 0)), (1, .int x1)]) X dX12_findsLeast_87 (k := 2) rfl (by rw [ev87]; rfl) (by decide) rfl ?_
  refine z_goto (tgt := 14) X dX12_findsLeast_90 (by decide) ?_
  exact z_at (pc2 := 14) (lv2 := [(0, .ref (aO 0)), (1, .int x1), (2, .int v87)]) (st2 := []) (ws2 := [wX12 (zcT C) aO sO]) rfl rfl rfl [1, 2, 0] rfl (hk14 sO x1 v87 h)
theorem bX12_findsLeast_82 {C : zCtx} (X : zFx C cX12_findsLeast 3 RX12 rmX12_findsLeast none) {aO : Nat → Nat} {k2 : zSt → Int32 → Option (zSt)} {k14 : zSt → Int32 → Int32 → Option (zSt)} {sO : zSt} {x1 : Int32} {x2 : Int32} {out : zSt} (hQ : zHv C [wX12 (zcT C) aO out] 0 0) (hk2 : ∀ (sO : zSt) (x1 : Int32), k2 sO x1 = some out → zG C 3 [0] 0 0 [wX12 (zcT C) aO sO] 2 [(0, .ref (aO 0)), (1, .int x1)] []) (hk14 : ∀ (sO : zSt) (x1 : Int32) (x2 : Int32), k14 sO x1 x2 = some out → zG C 3 [0] 0 0 [wX12 (zcT C) aO sO] 14 [(0, .ref (aO 0)), (1, .int x1), (2, .int x2)] []) (h : fX12_findsLeast_82 k2 k14 sO x1 x2 = some out) : zG C 3 [0] 0 0 [wX12 (zcT C) aO sO] 82 [(0, .ref (aO 0)), (1, .int x1), (2, .int x2)] [] := by
  unfold fX12_findsLeast_82 at h
  refine z_aload_n X dX12_findsLeast_82 0 rfl ?_
  refine z_iload_n X dX12_findsLeast_83 2 rfl ?_
  obtain ⟨sO84, esO84, h⟩ := zlet_of h
  refine z_put (ws2 := [wX12 (zcT C) aO sO84]) X 0 0 13 35 ziX12 rfl tyX12 tyX12_ok nmX12 (by decide) zw1371 rfl rfl (ty := .int) (by decide +kernel) rfl rfl (by show 35 < 40; decide) dX12_findsLeast_84 rfl rfl (by decide) (w2 := wX12 (zcT C) aO sO84) (by rw [esO84]; rfl) rfl ?_
  exact z_at (pc2 := 87) (lv2 := [(0, .ref (aO 0)), (1, .int x1), (2, .int x2)]) (st2 := []) (ws2 := [wX12 (zcT C) aO sO84]) rfl rfl rfl [0, 1, 2] rfl (bX12_findsLeast_87 X hQ hk2 hk14 h)
theorem bX12_findsLeast_14 {C : zCtx} (X : zFx C cX12_findsLeast 3 RX12 rmX12_findsLeast none) {aO : Nat → Nat} {k2 : zSt → Int32 → Option (zSt)} {out : zSt} (hQ : zHv C [wX12 (zcT C) aO out] 0 0) (hk2 : ∀ (sO : zSt) (x1 : Int32), k2 sO x1 = some out → zG C 3 [0] 0 0 [wX12 (zcT C) aO sO] 2 [(0, .ref (aO 0)), (1, .int x1)] []) : ∀ (n : Nat) (sO : zSt) (x1 : Int32) (x2 : Int32), fX12_findsLeast_14 k2 n sO x1 x2 = some out → zG C 3 [0] 0 0 [wX12 (zcT C) aO sO] 14 [(0, .ref (aO 0)), (1, .int x1), (2, .int x2)] [] := by
  intro n
  induction n with
  | zero =>
    intro sO x1 x2 h
    rw [fX12_findsLeast_14] at h
    exact zno h
  | succ n ih =>
    intro sO x1 x2 h
    rw [fX12_findsLeast_14] at h
    refine z_iload_n X dX12_findsLeast_14 2 rfl ?_
    refine z_aload_n X dX12_findsLeast_15 0 rfl ?_
    refine z_get (v := .int (zgi sO 32)) X 0 0 13 32 ziX12 rfl (by decide) zw1368 rfl dX12_findsLeast_16 rfl rfl rfl ?_
    refine z_icmp_ge (tgt := 93) X dX12_findsLeast_19 (by decide) (fun c19 => ?_) (fun c19 => ?_)
    · replace h := zif_t h c19
      refine z_iconst (v := (0 : Int32)) X dX12_findsLeast_93 rfl ?_
      refine z_istore_n (lv2 := [(2, .int (0 : Int32)), (0, .ref (aO 0)), (1, .int x1)]) X dX12_findsLeast_94 rfl (by decide) rfl ?_
      exact z_at (pc2 := 95) (lv2 := [(0, .ref (aO 0)), (1, .int x1), (2, .int (0 : Int32))]) (st2 := []) (ws2 := [wX12 (zcT C) aO sO]) rfl rfl rfl [1, 2, 0] rfl (bX12_findsLeast_95 X hQ hk2 6000 sO x1 (0 : Int32) h)
    · replace h := zif_f h c19
      refine z_aload_n X dX12_findsLeast_22 0 rfl ?_
      refine z_get (v := .ref (aO 26)) X 0 0 13 25 ziX12 rfl (by decide) zw1361 rfl dX12_findsLeast_23 rfl rfl rfl ?_
      refine z_iload_n X dX12_findsLeast_26 2 rfl ?_
      obtain ⟨g27, h⟩ := zgd_of h
      refine z_zald X 0 17 g27 dX12_findsLeast_27 rfl rfl ?_
      refine z_if_eq (tgt := 87) X dX12_findsLeast_28 (by decide) (fun c28 => ?_) (fun c28 => ?_)
      · replace h := zif_t h c28
        exact z_at (pc2 := 87) (lv2 := [(0, .ref (aO 0)), (1, .int x1), (2, .int x2)]) (st2 := []) (ws2 := [wX12 (zcT C) aO sO]) rfl rfl rfl [0, 1, 2] rfl (bX12_findsLeast_87 X hQ hk2 ih h)
      · replace h := zif_f h c28
        refine z_aload_n X dX12_findsLeast_31 0 rfl ?_
        refine z_get (v := .int (zgi sO 35)) X 0 0 13 35 ziX12 rfl (by decide) zw1371 rfl dX12_findsLeast_32 rfl rfl rfl ?_
        refine z_if_lt (tgt := 82) X dX12_findsLeast_35 (by decide) (fun c35 => ?_) (fun c35 => ?_)
        · replace h := zif_t h c35
          exact z_at (pc2 := 82) (lv2 := [(0, .ref (aO 0)), (1, .int x1), (2, .int x2)]) (st2 := []) (ws2 := [wX12 (zcT C) aO sO]) rfl rfl rfl [0, 1, 2] rfl (bX12_findsLeast_82 X hQ hk2 ih h)
        · replace h := zif_f h c35
          refine z_aload_n X dX12_findsLeast_38 0 rfl ?_
          refine z_get (v := .ref (aO 22)) X 0 0 13 21 ziX12 rfl (by decide) zw1357 rfl dX12_findsLeast_39 rfl rfl rfl ?_
          refine z_iconst (v := (3 : Int32)) X dX12_findsLeast_42 rfl ?_
          refine z_iload_n X dX12_findsLeast_43 2 rfl ?_
          refine z_imul X dX12_findsLeast_44 ?_
          refine z_iload_n X dX12_findsLeast_45 1 rfl ?_
          refine z_iadd X dX12_findsLeast_46 ?_
          obtain ⟨g47, h⟩ := zgd_of h
          refine z_lald X 0 13 g47 dX12_findsLeast_47 rfl rfl ?_
          refine z_aload_n X dX12_findsLeast_48 0 rfl ?_
          refine z_get (v := .ref (aO 23)) X 0 0 13 22 ziX12 rfl (by decide) zw1358 rfl dX12_findsLeast_49 rfl rfl rfl ?_
          refine z_aload_n X dX12_findsLeast_52 0 rfl ?_
          refine z_get (v := .int (zgi sO 35)) X 0 0 13 35 ziX12 rfl (by decide) zw1371 rfl dX12_findsLeast_53 rfl rfl rfl ?_
          obtain ⟨g56, h⟩ := zgd_of h
          refine z_lald X 0 14 g56 dX12_findsLeast_56 rfl rfl ?_
          refine z_lmul X dX12_findsLeast_57 ?_
          refine z_aload_n X dX12_findsLeast_58 0 rfl ?_
          refine z_get (v := .ref (aO 22)) X 0 0 13 21 ziX12 rfl (by decide) zw1357 rfl dX12_findsLeast_59 rfl rfl rfl ?_
          refine z_iconst (v := (3 : Int32)) X dX12_findsLeast_62 rfl ?_
          refine z_aload_n X dX12_findsLeast_63 0 rfl ?_
          refine z_get (v := .int (zgi sO 35)) X 0 0 13 35 ziX12 rfl (by decide) zw1371 rfl dX12_findsLeast_64 rfl rfl rfl ?_
          refine z_imul X dX12_findsLeast_67 ?_
          refine z_iload_n X dX12_findsLeast_68 1 rfl ?_
          refine z_iadd X dX12_findsLeast_69 ?_
          obtain ⟨g70, h⟩ := zgd_of h
          refine z_lald X 0 13 g70 dX12_findsLeast_70 rfl rfl ?_
          refine z_aload_n X dX12_findsLeast_71 0 rfl ?_
          refine z_get (v := .ref (aO 23)) X 0 0 13 22 ziX12 rfl (by decide) zw1358 rfl dX12_findsLeast_72 rfl rfl rfl ?_
          refine z_iload_n X dX12_findsLeast_75 2 rfl ?_
          obtain ⟨g76, h⟩ := zgd_of h
          refine z_lald X 0 14 g76 dX12_findsLeast_76 rfl rfl ?_
          refine z_lmul X dX12_findsLeast_77 ?_
          refine z_lcmp_ge (tgt := 87) X dX12_findsLeast_78 dX12_findsLeast_79 (by decide) (fun c78 => ?_) (fun c78 => ?_)
          · replace h := zif_t h c78
            exact z_at (pc2 := 87) (lv2 := [(0, .ref (aO 0)), (1, .int x1), (2, .int x2)]) (st2 := []) (ws2 := [wX12 (zcT C) aO sO]) rfl rfl rfl [0, 1, 2] rfl (bX12_findsLeast_87 X hQ hk2 ih h)
          · replace h := zif_f h c78
            exact z_at (pc2 := 82) (lv2 := [(0, .ref (aO 0)), (1, .int x1), (2, .int x2)]) (st2 := []) (ws2 := [wX12 (zcT C) aO sO]) rfl rfl rfl [0, 1, 2] rfl (bX12_findsLeast_82 X hQ hk2 ih h)
theorem bX12_findsLeast_2 {C : zCtx} (X : zFx C cX12_findsLeast 3 RX12 rmX12_findsLeast none) {aO : Nat → Nat} {out : zSt} (hQ : zHv C [wX12 (zcT C) aO out] 0 0) : ∀ (n : Nat) (sO : zSt) (x1 : Int32), fX12_findsLeast_2 n sO x1 = some out → zG C 3 [0] 0 0 [wX12 (zcT C) aO sO] 2 [(0, .ref (aO 0)), (1, .int x1)] [] := by
  intro n
  induction n with
  | zero =>
    intro sO x1 h
    rw [fX12_findsLeast_2] at h
    exact zno h
  | succ n ih =>
    intro sO x1 h
    rw [fX12_findsLeast_2] at h
    refine z_iload_n X dX12_findsLeast_2 1 rfl ?_
    refine z_iconst (v := (3 : Int32)) X dX12_findsLeast_3 rfl ?_
    refine z_icmp_ge (tgt := 179) X dX12_findsLeast_4 (by decide) (fun c4 => ?_) (fun c4 => ?_)
    · replace h := zif_t h c4
      cases h
      exact z_vret X hQ dX12_findsLeast_179 [0] rfl (by decide) (by decide)
    · replace h := zif_f h c4
      refine z_aload_n X dX12_findsLeast_7 0 rfl ?_
      refine z_iconst (v := (-1 : Int32)) X dX12_findsLeast_8 rfl ?_
      obtain ⟨sO9, esO9, h⟩ := zlet_of h
      refine z_put (ws2 := [wX12 (zcT C) aO sO9]) X 0 0 13 35 ziX12 rfl tyX12 tyX12_ok nmX12 (by decide) zw1371 rfl rfl (ty := .int) (by decide +kernel) rfl rfl (by show 35 < 40; decide) dX12_findsLeast_9 rfl rfl (by decide) (w2 := wX12 (zcT C) aO sO9) (by rw [esO9]; rfl) rfl ?_
      refine z_iconst (v := (0 : Int32)) X dX12_findsLeast_12 rfl ?_
      refine z_istore_n (lv2 := [(2, .int (0 : Int32)), (0, .ref (aO 0)), (1, .int x1)]) X dX12_findsLeast_13 rfl (by decide) rfl ?_
      exact z_at (pc2 := 14) (lv2 := [(0, .ref (aO 0)), (1, .int x1), (2, .int (0 : Int32))]) (st2 := []) (ws2 := [wX12 (zcT C) aO sO9]) rfl rfl rfl [1, 2, 0] rfl (bX12_findsLeast_14 X hQ ih 6000 sO9 x1 (0 : Int32) h)
theorem bX12_findsLeast_0 {C : zCtx} (X : zFx C cX12_findsLeast 3 RX12 rmX12_findsLeast none) {aO : Nat → Nat} {sO : zSt} {out : zSt} (hQ : zHv C [wX12 (zcT C) aO out] 0 0) (h : fX12_findsLeast sO = some out) : zG C 3 [0] 0 0 [wX12 (zcT C) aO sO] 0 [(0, .ref (aO 0))] [] := by
  unfold fX12_findsLeast at h
  refine z_iconst (v := (0 : Int32)) X dX12_findsLeast_0 rfl ?_
  refine z_istore_n (lv2 := [(1, .int (0 : Int32)), (0, .ref (aO 0))]) X dX12_findsLeast_1 rfl (by decide) rfl ?_
  exact z_at (pc2 := 2) (lv2 := [(0, .ref (aO 0)), (1, .int (0 : Int32))]) (st2 := []) (ws2 := [wX12 (zcT C) aO sO]) rfl rfl rfl [1, 0] rfl (bX12_findsLeast_2 X hQ  6000 sO (0 : Int32) h)
theorem metX12_findsLeast (l : Launch) (D : va_G) (T : Nat → ClassId) (aO : Nat → Nat) {sO : zSt} {out : zSt} (hf : fX12_findsLeast sO = some out) (sz : Nat) : Met l yX12_findsLeast (zws yX12_findsLeast cX12_findsLeast 3 none) rmX12_findsLeast (zPc D T [.ref (aO 0)] [wX12 T aO sO] sz) (zQv D [wX12 T aO out] (zA [wX12 T aO sO] sz)) 0 0 (zA [wX12 T aO sO] sz) :=
  zMet (D := D) (T := T) (av := [.ref (aO 0)]) (ws := fun T => [wX12 T aO sO]) (wm := fun T => [wX12 T aO sO]) (lv0 := [(0, .ref (aO 0))]) [0] (Qc := fun D T A => zQv D [wX12 T aO out] A) (by decide +kernel) rfl (Nat.le_of_ble_eq_true rfl) rfl (fun C X hQ => bX12_findsLeast_0 X hQ hf) sz
/-- private void looks(int, int); of TableaufloorModel -/
abbrev rmX12_looks : Room := { frames := 4, cells := 0, slots := 0, locals := 104 }
def fX12_looks_115 (sO : zSt) : Option (zSt) :=
  some (sO)
def fX12_looks_102 (sO : zSt) : Option (zSt) :=
  (if (zgi sO 36) = (111 : Int32) then
    ((fX12_findsLeast sO).bind (fun o112 =>
      (fX12_looks_115 o112)))
  else
    (fX12_looks_115 sO))
def fX12_looks_96 (k52 : zSt → Int32 → Option (zSt)) (sO : zSt) (x3 : Int32) : Option (zSt) :=
  (zlet (x3 + 1) (fun v96 =>
    (k52 sO v96)))
def fX12_looks_52 : Nat → zSt → Int32 → Option (zSt)
  | 0, _, _ => none
  | n + 1, sO, x3 =>
    (if (zgi sO 12) ≤ x3 then
      (fX12_looks_102 sO)
    else
      (if (zgi sO 36) = (111 : Int32) then
        ((fX12_isOpenFor sO x3).bind (fun o71 =>
          (if o71 = 0 then
          ((fX12_looksAtAim sO x3).bind (fun o93 =>
            (fX12_looks_96 (fX12_looks_52 n) o93 x3)))
        else
          (zlet (zsi sO 36 (117 : Int32)) (fun sO80 =>
            (zlet (zsi sO80 34 x3) (fun sO85 =>
            (fX12_looks_96 (fX12_looks_52 n) sO85 x3))))))))
      else
        (fX12_looks_102 sO)))
def fX12_looks_47 (sO : zSt) (y1 : Int32) : Option (zSt) :=
  (zlet (zsi sO 34 y1) (fun sO47 =>
    (fX12_looks_52 6000 sO47 (0 : Int32))))
def fX12_looks_26 (sO : zSt) (y1 : Int32) : Option (zSt) :=
  (if znar .char y1 = true then
    (zlet (zsi sO 36 y1) (fun sO26 =>
    (if (zgi sO26 36) = (105 : Int32) then
    (fX12_looks_47 sO26 (0 : Int32))
  else
    (fX12_looks_47 sO26 (zgi sO26 12))))) else none)
def fX12_looks (sO : zSt) (x1 : Int32) (x2 : Int32) : Option (zSt) :=
  ((fX12_findsPoints sO x1 x2).bind (fun o3 =>
    ((fX12_findsRays o3 x1).bind (fun o8 =>
    (if (zgi o8 32) = 0 then
    (fX12_looks_26 o8 (105 : Int32))
  else
    (fX12_looks_26 o8 (111 : Int32)))))))
theorem bX12_looks_115 {C : zCtx} (X : zFx C cX12_looks 4 RX12 rmX12_looks none) {aO : Nat → Nat} {sO : zSt} {out : zSt} (hQ : zHv C [wX12 (zcT C) aO out] 0 0) (h : fX12_looks_115 sO = some out) : zG C 4 [0] 0 0 [wX12 (zcT C) aO sO] 115 [] [] := by
  unfold fX12_looks_115 at h
  cases h
  exact z_vret X hQ dX12_looks_115 [0] rfl (by decide) (by decide)
theorem bX12_looks_102 {C : zCtx} (X : zFx C cX12_looks 4 RX12 rmX12_looks none) {aO : Nat → Nat} {sO : zSt} {out : zSt} (hQ : zHv C [wX12 (zcT C) aO out] 0 0) (h : fX12_looks_102 sO = some out) : zG C 4 [0] 0 0 [wX12 (zcT C) aO sO] 102 [(0, .ref (aO 0))] [] := by
  unfold fX12_looks_102 at h
  refine z_aload_n X dX12_looks_102 0 rfl ?_
  refine z_get (v := .int (zgi sO 36)) X 0 0 13 36 ziX12 rfl (by decide) zw1372 rfl dX12_looks_103 rfl rfl rfl ?_
  refine z_bipush (v := (111 : Int32)) X dX12_looks_106 rfl ?_
  refine z_icmp_ne (tgt := 115) X dX12_looks_108 (by decide) (fun c108 => ?_) (fun c108 => ?_)
  · replace h := zif_f h c108
    exact z_at (pc2 := 115) (lv2 := []) (st2 := []) (ws2 := [wX12 (zcT C) aO sO]) rfl rfl rfl [] rfl (bX12_looks_115 X hQ  h)
  · replace h := zif_t h c108
    refine z_aload_n X dX12_looks_111 0 rfl ?_
    obtain ⟨o112, ho112, h⟩ := zbind_of h
    refine z_callVv (st := []) (ws2 := [wX12 (zcT C) aO o112]) X (metX12_findsLeast (zcl C) (zcD C) (zcT C) aO ho112) zmX12_findsLeast zw1860 dX12_looks_112 0 0 13 rfl rfl rfl rfl [0] rfl rfl [0] rfl (by decide) ⟨zsX12 , trivial⟩ rfl rfl rfl (Nat.le_of_ble_eq_true rfl) rfl rfl ⟨Nat.le_of_ble_eq_true rfl, Nat.le_of_ble_eq_true rfl⟩ ⟨Nat.le_of_ble_eq_true rfl, Nat.le_of_ble_eq_true rfl⟩ ?_
    exact z_at (pc2 := 115) (lv2 := []) (st2 := []) (ws2 := [wX12 (zcT C) aO o112]) rfl rfl rfl [] rfl (bX12_looks_115 X hQ  h)
theorem bX12_looks_96 {C : zCtx} (X : zFx C cX12_looks 4 RX12 rmX12_looks none) {aO : Nat → Nat} {k52 : zSt → Int32 → Option (zSt)} {sO : zSt} {x3 : Int32} {out : zSt} (hQ : zHv C [wX12 (zcT C) aO out] 0 0) (hk52 : ∀ (sO : zSt) (x3 : Int32), k52 sO x3 = some out → zG C 4 [0] 0 0 [wX12 (zcT C) aO sO] 52 [(0, .ref (aO 0)), (3, .int x3)] []) (h : fX12_looks_96 k52 sO x3 = some out) : zG C 4 [0] 0 0 [wX12 (zcT C) aO sO] 96 [(0, .ref (aO 0)), (3, .int x3)] [] := by
  unfold fX12_looks_96 at h
  obtain ⟨v96, ev96, h⟩ := zlet_of h
  refine z_iinc (v := v96) (lv2 := [(3, .int v96), (0, .ref (aO 0))]) X dX12_looks_96 (k := 1) rfl (by rw [ev96]; rfl) (by decide) rfl ?_
  refine z_goto (tgt := 52) X dX12_looks_99 (by decide) ?_
  exact z_at (pc2 := 52) (lv2 := [(0, .ref (aO 0)), (3, .int v96)]) (st2 := []) (ws2 := [wX12 (zcT C) aO sO]) rfl rfl rfl [1, 0] rfl (hk52 sO v96 h)
theorem bX12_looks_52 {C : zCtx} (X : zFx C cX12_looks 4 RX12 rmX12_looks none) {aO : Nat → Nat} {out : zSt} (hQ : zHv C [wX12 (zcT C) aO out] 0 0) : ∀ (n : Nat) (sO : zSt) (x3 : Int32), fX12_looks_52 n sO x3 = some out → zG C 4 [0] 0 0 [wX12 (zcT C) aO sO] 52 [(0, .ref (aO 0)), (3, .int x3)] [] := by
  intro n
  induction n with
  | zero =>
    intro sO x3 h
    rw [fX12_looks_52] at h
    exact zno h
  | succ n ih =>
    intro sO x3 h
    rw [fX12_looks_52] at h
    refine z_iload_n X dX12_looks_52 1 rfl ?_
    refine z_aload_n X dX12_looks_53 0 rfl ?_
    refine z_get (v := .int (zgi sO 12)) X 0 0 13 12 ziX12 rfl (by decide) zw1348 rfl dX12_looks_54 rfl rfl rfl ?_
    refine z_icmp_ge (tgt := 102) X dX12_looks_57 (by decide) (fun c57 => ?_) (fun c57 => ?_)
    · replace h := zif_t h c57
      exact z_at (pc2 := 102) (lv2 := [(0, .ref (aO 0))]) (st2 := []) (ws2 := [wX12 (zcT C) aO sO]) rfl rfl rfl [0] rfl (bX12_looks_102 X hQ  h)
    · replace h := zif_f h c57
      refine z_aload_n X dX12_looks_60 0 rfl ?_
      refine z_get (v := .int (zgi sO 36)) X 0 0 13 36 ziX12 rfl (by decide) zw1372 rfl dX12_looks_61 rfl rfl rfl ?_
      refine z_bipush (v := (111 : Int32)) X dX12_looks_64 rfl ?_
      refine z_icmp_ne (tgt := 102) X dX12_looks_66 (by decide) (fun c66 => ?_) (fun c66 => ?_)
      · replace h := zif_f h c66
        exact z_at (pc2 := 102) (lv2 := [(0, .ref (aO 0))]) (st2 := []) (ws2 := [wX12 (zcT C) aO sO]) rfl rfl rfl [0] rfl (bX12_looks_102 X hQ  h)
      · replace h := zif_t h c66
        refine z_aload_n X dX12_looks_69 0 rfl ?_
        refine z_iload_n X dX12_looks_70 1 rfl ?_
        obtain ⟨o71, ho71, h⟩ := zbind_of h
        refine z_callVi (st := []) (ws2 := [wX12 (zcT C) aO sO]) X (metX12_isOpenFor (zcl C) (zcD C) (zcT C) aO ho71) zmX12_isOpenFor zw1837 dX12_looks_71 0 0 13 rfl rfl rfl rfl [0] rfl rfl [] rfl (by decide) trivial rfl rfl rfl (Nat.le_of_ble_eq_true rfl) rfl rfl ⟨Nat.le_of_ble_eq_true rfl, Nat.le_of_ble_eq_true rfl⟩ ⟨Nat.le_of_ble_eq_true rfl, Nat.le_of_ble_eq_true rfl⟩ ?_
        refine z_if_eq (tgt := 91) X dX12_looks_74 (by decide) (fun c74 => ?_) (fun c74 => ?_)
        · replace h := zif_t h c74
          refine z_aload_n X dX12_looks_91 0 rfl ?_
          refine z_iload_n X dX12_looks_92 1 rfl ?_
          obtain ⟨o93, ho93, h⟩ := zbind_of h
          refine z_callVv (st := []) (ws2 := [wX12 (zcT C) aO o93]) X (metX12_looksAtAim (zcl C) (zcD C) (zcT C) aO ho93) zmX12_looksAtAim zw1845 dX12_looks_93 0 0 13 rfl rfl rfl rfl [0] rfl rfl [0] rfl (by decide) ⟨zsX12 , trivial⟩ rfl rfl rfl (Nat.le_of_ble_eq_true rfl) rfl rfl ⟨Nat.le_of_ble_eq_true rfl, Nat.le_of_ble_eq_true rfl⟩ ⟨Nat.le_of_ble_eq_true rfl, Nat.le_of_ble_eq_true rfl⟩ ?_
          exact z_at (pc2 := 96) (lv2 := [(0, .ref (aO 0)), (3, .int x3)]) (st2 := []) (ws2 := [wX12 (zcT C) aO o93]) rfl rfl rfl [0, 1] rfl (bX12_looks_96 X hQ ih h)
        · replace h := zif_f h c74
          refine z_aload_n X dX12_looks_77 0 rfl ?_
          refine z_bipush (v := (117 : Int32)) X dX12_looks_78 rfl ?_
          obtain ⟨sO80, esO80, h⟩ := zlet_of h
          refine z_put (ws2 := [wX12 (zcT C) aO sO80]) X 0 0 13 36 ziX12 rfl tyX12 tyX12_ok nmX12 (by decide) zw1372 rfl rfl (ty := .char) (by decide +kernel) rfl rfl (by show 36 < 40; decide) dX12_looks_80 rfl rfl (by decide) (w2 := wX12 (zcT C) aO sO80) (by rw [esO80]; rfl) rfl ?_
          refine z_aload_n X dX12_looks_83 0 rfl ?_
          refine z_iload_n X dX12_looks_84 1 rfl ?_
          obtain ⟨sO85, esO85, h⟩ := zlet_of h
          refine z_put (ws2 := [wX12 (zcT C) aO sO85]) X 0 0 13 34 ziX12 rfl tyX12 tyX12_ok nmX12 (by decide) zw1370 rfl rfl (ty := .int) (by decide +kernel) rfl rfl (by show 34 < 40; decide) dX12_looks_85 rfl rfl (by decide) (w2 := wX12 (zcT C) aO sO85) (by rw [esO85]; rfl) rfl ?_
          refine z_goto (tgt := 96) X dX12_looks_88 (by decide) ?_
          exact z_at (pc2 := 96) (lv2 := [(0, .ref (aO 0)), (3, .int x3)]) (st2 := []) (ws2 := [wX12 (zcT C) aO sO85]) rfl rfl rfl [0, 1] rfl (bX12_looks_96 X hQ ih h)
theorem bX12_looks_47 {C : zCtx} (X : zFx C cX12_looks 4 RX12 rmX12_looks none) {aO : Nat → Nat} {sO : zSt} {y1 : Int32} {out : zSt} (hQ : zHv C [wX12 (zcT C) aO out] 0 0) (h : fX12_looks_47 sO y1 = some out) : zG C 4 [0] 0 0 [wX12 (zcT C) aO sO] 47 [(0, .ref (aO 0))] [.int y1, .ref (aO 0)] := by
  unfold fX12_looks_47 at h
  obtain ⟨sO47, esO47, h⟩ := zlet_of h
  refine z_put (ws2 := [wX12 (zcT C) aO sO47]) X 0 0 13 34 ziX12 rfl tyX12 tyX12_ok nmX12 (by decide) zw1370 rfl rfl (ty := .int) (by decide +kernel) rfl rfl (by show 34 < 40; decide) dX12_looks_47 rfl rfl (by decide) (w2 := wX12 (zcT C) aO sO47) (by rw [esO47]; rfl) rfl ?_
  refine z_iconst (v := (0 : Int32)) X dX12_looks_50 rfl ?_
  refine z_istore_n (lv2 := [(3, .int (0 : Int32)), (0, .ref (aO 0))]) X dX12_looks_51 rfl (by decide) rfl ?_
  exact z_at (pc2 := 52) (lv2 := [(0, .ref (aO 0)), (3, .int (0 : Int32))]) (st2 := []) (ws2 := [wX12 (zcT C) aO sO47]) rfl rfl rfl [1, 0] rfl (bX12_looks_52 X hQ  6000 sO47 (0 : Int32) h)
theorem bX12_looks_26 {C : zCtx} (X : zFx C cX12_looks 4 RX12 rmX12_looks none) {aO : Nat → Nat} {sO : zSt} {y1 : Int32} {out : zSt} (hQ : zHv C [wX12 (zcT C) aO out] 0 0) (h : fX12_looks_26 sO y1 = some out) : zG C 4 [0] 0 0 [wX12 (zcT C) aO sO] 26 [(0, .ref (aO 0))] [.int y1, .ref (aO 0)] := by
  unfold fX12_looks_26 at h
  obtain ⟨g26, h⟩ := zgd_of h
  obtain ⟨sO26, esO26, h⟩ := zlet_of h
  refine z_put (ws2 := [wX12 (zcT C) aO sO26]) X 0 0 13 36 ziX12 rfl tyX12 tyX12_ok nmX12 (by decide) zw1372 rfl rfl (ty := .char) (by decide +kernel) (znar_of g26).1 (znar_of g26).2 (by show 36 < 40; decide) dX12_looks_26 rfl rfl (by decide) (w2 := wX12 (zcT C) aO sO26) (by rw [esO26]; rfl) rfl ?_
  refine z_aload_n X dX12_looks_29 0 rfl ?_
  refine z_aload_n X dX12_looks_30 0 rfl ?_
  refine z_get (v := .int (zgi sO26 36)) X 0 0 13 36 ziX12 rfl (by decide) zw1372 rfl dX12_looks_31 rfl rfl rfl ?_
  refine z_bipush (v := (105 : Int32)) X dX12_looks_34 rfl ?_
  refine z_icmp_ne (tgt := 43) X dX12_looks_36 (by decide) (fun c36 => ?_) (fun c36 => ?_)
  · replace h := zif_f h c36
    refine z_aload_n X dX12_looks_43 0 rfl ?_
    refine z_get (v := .int (zgi sO26 12)) X 0 0 13 12 ziX12 rfl (by decide) zw1348 rfl dX12_looks_44 rfl rfl rfl ?_
    exact z_at (pc2 := 47) (lv2 := [(0, .ref (aO 0))]) (st2 := [.int (zgi sO26 12), .ref (aO 0)]) (ws2 := [wX12 (zcT C) aO sO26]) rfl rfl rfl [0] rfl (bX12_looks_47 X hQ  h)
  · replace h := zif_t h c36
    refine z_iconst (v := (0 : Int32)) X dX12_looks_39 rfl ?_
    refine z_goto (tgt := 47) X dX12_looks_40 (by decide) ?_
    exact z_at (pc2 := 47) (lv2 := [(0, .ref (aO 0))]) (st2 := [.int (0 : Int32), .ref (aO 0)]) (ws2 := [wX12 (zcT C) aO sO26]) rfl rfl rfl [0] rfl (bX12_looks_47 X hQ  h)
theorem bX12_looks_0 {C : zCtx} (X : zFx C cX12_looks 4 RX12 rmX12_looks none) {aO : Nat → Nat} {sO : zSt} {x1 : Int32} {x2 : Int32} {out : zSt} (hQ : zHv C [wX12 (zcT C) aO out] 0 0) (h : fX12_looks sO x1 x2 = some out) : zG C 4 [0] 0 0 [wX12 (zcT C) aO sO] 0 [(0, .ref (aO 0)), (1, .int x1), (2, .int x2)] [] := by
  unfold fX12_looks at h
  refine z_aload_n X dX12_looks_0 0 rfl ?_
  refine z_iload_n X dX12_looks_1 1 rfl ?_
  refine z_iload_n X dX12_looks_2 2 rfl ?_
  obtain ⟨o3, ho3, h⟩ := zbind_of h
  refine z_callVv (st := []) (ws2 := [wX12 (zcT C) aO o3]) X (metX12_findsPoints (zcl C) (zcD C) (zcT C) aO ho3) zmX12_findsPoints zw1804 dX12_looks_3 0 0 13 rfl rfl rfl rfl [0] rfl rfl [0] rfl (by decide) ⟨zsX12 , trivial⟩ rfl rfl rfl (Nat.le_of_ble_eq_true rfl) rfl rfl ⟨Nat.le_of_ble_eq_true rfl, Nat.le_of_ble_eq_true rfl⟩ ⟨Nat.le_of_ble_eq_true rfl, Nat.le_of_ble_eq_true rfl⟩ ?_
  refine z_aload_n X dX12_looks_6 0 rfl ?_
  refine z_iload_n X dX12_looks_7 1 rfl ?_
  obtain ⟨o8, ho8, h⟩ := zbind_of h
  refine z_callVv (st := []) (ws2 := [wX12 (zcT C) aO o8]) X (metX12_findsRays (zcl C) (zcD C) (zcT C) aO ho8) zmX12_findsRays zw1833 dX12_looks_8 0 0 13 rfl rfl rfl rfl [0] rfl rfl [0] rfl (by decide) ⟨zsX12 , trivial⟩ rfl rfl rfl (Nat.le_of_ble_eq_true rfl) rfl rfl ⟨Nat.le_of_ble_eq_true rfl, Nat.le_of_ble_eq_true rfl⟩ ⟨Nat.le_of_ble_eq_true rfl, Nat.le_of_ble_eq_true rfl⟩ ?_
  refine z_aload_n X dX12_looks_11 0 rfl ?_
  refine z_aload_n X dX12_looks_12 0 rfl ?_
  refine z_get (v := .int (zgi o8 32)) X 0 0 13 32 ziX12 rfl (by decide) zw1368 rfl dX12_looks_13 rfl rfl rfl ?_
  refine z_if_ne (tgt := 24) X dX12_looks_16 (by decide) (fun c16 => ?_) (fun c16 => ?_)
  · replace h := zif_f h c16
    refine z_bipush (v := (111 : Int32)) X dX12_looks_24 rfl ?_
    exact z_at (pc2 := 26) (lv2 := [(0, .ref (aO 0))]) (st2 := [.int (111 : Int32), .ref (aO 0)]) (ws2 := [wX12 (zcT C) aO o8]) rfl rfl rfl [0] rfl (bX12_looks_26 X hQ  h)
  · replace h := zif_t h c16
    refine z_bipush (v := (105 : Int32)) X dX12_looks_19 rfl ?_
    refine z_goto (tgt := 26) X dX12_looks_21 (by decide) ?_
    exact z_at (pc2 := 26) (lv2 := [(0, .ref (aO 0))]) (st2 := [.int (105 : Int32), .ref (aO 0)]) (ws2 := [wX12 (zcT C) aO o8]) rfl rfl rfl [0] rfl (bX12_looks_26 X hQ  h)
theorem metX12_looks (l : Launch) (D : va_G) (T : Nat → ClassId) (aO : Nat → Nat) {sO : zSt} {x1 : Int32} {x2 : Int32} {out : zSt} (hf : fX12_looks sO x1 x2 = some out) (sz : Nat) : Met l yX12_looks (zws yX12_looks cX12_looks 4 none) rmX12_looks (zPc D T [.ref (aO 0), .int x1, .int x2] [wX12 T aO sO] sz) (zQv D [wX12 T aO out] (zA [wX12 T aO sO] sz)) 0 0 (zA [wX12 T aO sO] sz) :=
  zMet (D := D) (T := T) (av := [.ref (aO 0), .int x1, .int x2]) (ws := fun T => [wX12 T aO sO]) (wm := fun T => [wX12 T aO sO]) (lv0 := [(0, .ref (aO 0)), (1, .int x1), (2, .int x2)]) [0] (Qc := fun D T A => zQv D [wX12 T aO out] A) (by decide +kernel) rfl (Nat.le_of_ble_eq_true rfl) rfl (fun C X hQ => bX12_looks_0 X hQ hf) sz
/-- private int allLeft(); of TableaufloorModel -/
abbrev rmX12_allLeft : Room := { frames := 0, cells := 0, slots := 0, locals := 0 }
def fX12_allLeft_29 (sO : zSt) (k4 : Int32 → Int32 → Option (Int32)) (x2 : Int32) (y0 : Int32) (y1 : Int32) : Option (Int32) :=
  (zlet (y0 + y1) (fun v30 =>
    (zlet (x2 + 1) (fun v31 =>
    (k4 v30 v31)))))
def fX12_allLeft_4 (sO : zSt) : Nat → Int32 → Int32 → Option (Int32)
  | 0, _, _ => none
  | n + 1, x1, x2 =>
    (if (zgi sO 11) ≤ x2 then
      some (x1)
    else
      (if zin x2 12 = true then
        (if (zga sO 6 (x2).toNatClampNeg) = 0 then
        (fX12_allLeft_29 sO (fX12_allLeft_4 sO n) x2 x1 ((1 : Int32) <<< (x2 &&& 31)))
      else
        (fX12_allLeft_29 sO (fX12_allLeft_4 sO n) x2 x1 (0 : Int32))) else none))
def fX12_allLeft (sO : zSt) : Option (Int32) :=
  (fX12_allLeft_4 sO 6000 (0 : Int32) (0 : Int32))
theorem bX12_allLeft_29 {C : zCtx} (X : zFx C cX12_allLeft 3 RX12 rmX12_allLeft (some .int)) {aO : Nat → Nat} {sO : zSt} {k4 : Int32 → Int32 → Option (Int32)} {x2 : Int32} {y0 : Int32} {y1 : Int32} {out : Int32} (hQ : zHi C out [] 0 0) (hk4 : ∀ (x1 : Int32) (x2 : Int32), k4 x1 x2 = some out → zG C 3 [] 0 0 [wX12 (zcT C) aO sO] 4 [(0, .ref (aO 0)), (1, .int x1), (2, .int x2)] []) (h : fX12_allLeft_29 sO k4 x2 y0 y1 = some out) : zG C 3 [] 0 0 [wX12 (zcT C) aO sO] 29 [(0, .ref (aO 0)), (2, .int x2)] [.int y1, .int y0] := by
  unfold fX12_allLeft_29 at h
  refine z_iadd X dX12_allLeft_29 ?_
  obtain ⟨v30, ev30, h⟩ := zlet_of h
  refine z_topi ev30 ?_
  refine z_istore_n (lv2 := [(1, .int v30), (0, .ref (aO 0)), (2, .int x2)]) X dX12_allLeft_30 rfl (by decide) rfl ?_
  obtain ⟨v31, ev31, h⟩ := zlet_of h
  refine z_iinc (v := v31) (lv2 := [(2, .int v31), (1, .int v30), (0, .ref (aO 0))]) X dX12_allLeft_31 (k := 2) rfl (by rw [ev31]; rfl) (by decide) rfl ?_
  refine z_goto (tgt := 4) X dX12_allLeft_34 (by decide) ?_
  exact z_at (pc2 := 4) (lv2 := [(0, .ref (aO 0)), (1, .int v30), (2, .int v31)]) (st2 := []) (ws2 := [wX12 (zcT C) aO sO]) rfl rfl rfl [2, 1, 0] rfl (hk4 v30 v31 h)
theorem bX12_allLeft_4 {C : zCtx} (X : zFx C cX12_allLeft 3 RX12 rmX12_allLeft (some .int)) {aO : Nat → Nat} {sO : zSt} {out : Int32} (hQ : zHi C out [] 0 0) : ∀ (n : Nat) (x1 : Int32) (x2 : Int32), fX12_allLeft_4 sO n x1 x2 = some out → zG C 3 [] 0 0 [wX12 (zcT C) aO sO] 4 [(0, .ref (aO 0)), (1, .int x1), (2, .int x2)] [] := by
  intro n
  induction n with
  | zero =>
    intro x1 x2 h
    rw [fX12_allLeft_4] at h
    exact zno h
  | succ n ih =>
    intro x1 x2 h
    rw [fX12_allLeft_4] at h
    refine z_iload_n X dX12_allLeft_4 2 rfl ?_
    refine z_aload_n X dX12_allLeft_5 0 rfl ?_
    refine z_get (v := .int (zgi sO 11)) X 0 0 13 11 ziX12 rfl (by decide) zw1347 rfl dX12_allLeft_6 rfl rfl rfl ?_
    refine z_icmp_ge (tgt := 37) X dX12_allLeft_9 (by decide) (fun c9 => ?_) (fun c9 => ?_)
    · replace h := zif_t h c9
      refine z_iload_n X dX12_allLeft_37 1 rfl ?_
      cases h
      exact z_iret X hQ dX12_allLeft_38 rfl [] rfl (by decide) (by decide)
    · replace h := zif_f h c9
      refine z_iload_n X dX12_allLeft_12 1 rfl ?_
      refine z_aload_n X dX12_allLeft_13 0 rfl ?_
      refine z_get (v := .ref (aO 7)) X 0 0 13 6 ziX12 rfl (by decide) zw1342 rfl dX12_allLeft_14 rfl rfl rfl ?_
      refine z_iload_n X dX12_allLeft_17 2 rfl ?_
      obtain ⟨g18, h⟩ := zgd_of h
      refine z_zald X 0 7 g18 dX12_allLeft_18 rfl rfl ?_
      refine z_if_eq (tgt := 26) X dX12_allLeft_19 (by decide) (fun c19 => ?_) (fun c19 => ?_)
      · replace h := zif_t h c19
        refine z_iconst (v := (1 : Int32)) X dX12_allLeft_26 rfl ?_
        refine z_iload_n X dX12_allLeft_27 2 rfl ?_
        refine z_ishl X dX12_allLeft_28 ?_
        exact z_at (pc2 := 29) (lv2 := [(0, .ref (aO 0)), (2, .int x2)]) (st2 := [.int ((1 : Int32) <<< (x2 &&& 31)), .int x1]) (ws2 := [wX12 (zcT C) aO sO]) rfl rfl rfl [0, 2] rfl (bX12_allLeft_29 X hQ ih h)
      · replace h := zif_f h c19
        refine z_iconst (v := (0 : Int32)) X dX12_allLeft_22 rfl ?_
        refine z_goto (tgt := 29) X dX12_allLeft_23 (by decide) ?_
        exact z_at (pc2 := 29) (lv2 := [(0, .ref (aO 0)), (2, .int x2)]) (st2 := [.int (0 : Int32), .int x1]) (ws2 := [wX12 (zcT C) aO sO]) rfl rfl rfl [0, 2] rfl (bX12_allLeft_29 X hQ ih h)
theorem bX12_allLeft_0 {C : zCtx} (X : zFx C cX12_allLeft 3 RX12 rmX12_allLeft (some .int)) {aO : Nat → Nat} {sO : zSt} {out : Int32} (hQ : zHi C out [] 0 0) (h : fX12_allLeft sO = some out) : zG C 3 [] 0 0 [wX12 (zcT C) aO sO] 0 [(0, .ref (aO 0))] [] := by
  unfold fX12_allLeft at h
  refine z_iconst (v := (0 : Int32)) X dX12_allLeft_0 rfl ?_
  refine z_istore_n (lv2 := [(1, .int (0 : Int32)), (0, .ref (aO 0))]) X dX12_allLeft_1 rfl (by decide) rfl ?_
  refine z_iconst (v := (0 : Int32)) X dX12_allLeft_2 rfl ?_
  refine z_istore_n (lv2 := [(2, .int (0 : Int32)), (1, .int (0 : Int32)), (0, .ref (aO 0))]) X dX12_allLeft_3 rfl (by decide) rfl ?_
  exact z_at (pc2 := 4) (lv2 := [(0, .ref (aO 0)), (1, .int (0 : Int32)), (2, .int (0 : Int32))]) (st2 := []) (ws2 := [wX12 (zcT C) aO sO]) rfl rfl rfl [2, 1, 0] rfl (bX12_allLeft_4 X hQ  6000 (0 : Int32) (0 : Int32) h)
theorem metX12_allLeft (l : Launch) (D : va_G) (T : Nat → ClassId) (aO : Nat → Nat) {sO : zSt} {out : Int32} (hf : fX12_allLeft sO = some out) (sz : Nat) : Met l yX12_allLeft (zws yX12_allLeft cX12_allLeft 3 (some .int)) rmX12_allLeft (zPc D T [.ref (aO 0)] [wX12 T aO sO] sz) (zQi D out [] (zA [] sz)) 0 0 (zA [] sz) :=
  zMet (D := D) (T := T) (av := [.ref (aO 0)]) (ws := fun T => [wX12 T aO sO]) (wm := fun T => []) (lv0 := [(0, .ref (aO 0))]) [] (Qc := fun D T A => zQi D out [] A) (by decide +kernel) rfl (Nat.le_of_ble_eq_true rfl) rfl (fun C X hQ => bX12_allLeft_0 X hQ hf) sz
/-- private void looksNow(); of TableaufloorModel -/
abbrev rmX12_looksNow : Room := { frames := 5, cells := 0, slots := 0, locals := 127 }
def fX12_looksNow (sO : zSt) : Option (zSt) :=
  ((fX12_allLeft sO).bind (fun o2 =>
    ((fX12_looks sO o2 (-1 : Int32)).bind (fun o6 =>
    some (o6)))))
theorem bX12_looksNow_0 {C : zCtx} (X : zFx C cX12_looksNow 1 RX12 rmX12_looksNow none) {aO : Nat → Nat} {sO : zSt} {out : zSt} (hQ : zHv C [wX12 (zcT C) aO out] 0 0) (h : fX12_looksNow sO = some out) : zG C 1 [0] 0 0 [wX12 (zcT C) aO sO] 0 [(0, .ref (aO 0))] [] := by
  unfold fX12_looksNow at h
  refine z_aload_n X dX12_looksNow_0 0 rfl ?_
  refine z_aload_n X dX12_looksNow_1 0 rfl ?_
  obtain ⟨o2, ho2, h⟩ := zbind_of h
  refine z_callVi (st := [.ref (aO 0)]) (ws2 := [wX12 (zcT C) aO sO]) X (metX12_allLeft (zcl C) (zcD C) (zcT C) aO ho2) zmX12_allLeft zw1796 dX12_looksNow_2 0 0 13 rfl rfl rfl rfl [0] rfl rfl [] rfl (by decide) trivial rfl rfl rfl (Nat.le_of_ble_eq_true rfl) rfl rfl ⟨Nat.le_of_ble_eq_true rfl, Nat.le_of_ble_eq_true rfl⟩ ⟨Nat.le_of_ble_eq_true rfl, Nat.le_of_ble_eq_true rfl⟩ ?_
  refine z_iconst (v := (-1 : Int32)) X dX12_looksNow_5 rfl ?_
  obtain ⟨o6, ho6, h⟩ := zbind_of h
  refine z_callVv (st := []) (ws2 := [wX12 (zcT C) aO o6]) X (metX12_looks (zcl C) (zcD C) (zcT C) aO ho6) zmX12_looks zw1800 dX12_looksNow_6 0 0 13 rfl rfl rfl rfl [0] rfl rfl [0] rfl (by decide) ⟨zsX12 , trivial⟩ rfl rfl rfl (Nat.le_of_ble_eq_true rfl) rfl rfl ⟨Nat.le_of_ble_eq_true rfl, Nat.le_of_ble_eq_true rfl⟩ ⟨Nat.le_of_ble_eq_true rfl, Nat.le_of_ble_eq_true rfl⟩ ?_
  cases h
  exact z_vret X hQ dX12_looksNow_9 [0] rfl (by decide) (by decide)
theorem metX12_looksNow (l : Launch) (D : va_G) (T : Nat → ClassId) (aO : Nat → Nat) {sO : zSt} {out : zSt} (hf : fX12_looksNow sO = some out) (sz : Nat) : Met l yX12_looksNow (zws yX12_looksNow cX12_looksNow 1 none) rmX12_looksNow (zPc D T [.ref (aO 0)] [wX12 T aO sO] sz) (zQv D [wX12 T aO out] (zA [wX12 T aO sO] sz)) 0 0 (zA [wX12 T aO sO] sz) :=
  zMet (D := D) (T := T) (av := [.ref (aO 0)]) (ws := fun T => [wX12 T aO sO]) (wm := fun T => [wX12 T aO sO]) (lv0 := [(0, .ref (aO 0))]) [0] (Qc := fun D T A => zQv D [wX12 T aO out] A) (by decide +kernel) rfl (Nat.le_of_ble_eq_true rfl) rfl (fun C X hQ => bX12_looksNow_0 X hQ hf) sz
/-- public char state(); of TableaufloorModel -/
abbrev rmX12_state : Room := { frames := 6, cells := 0, slots := 0, locals := 147 }
def fX12_state (sO : zSt) : Option (Int32 × zSt) :=
  (zlet (zsi sO 9 (0 : Int32)) (fun sO2 =>
    ((fX12_looksNow sO2).bind (fun o6 =>
    (if znar .char (zgi o6 36) = true then
    some ((zgi o6 36), o6) else none)))))
theorem bX12_state_0 {C : zCtx} (X : zFx C cX12_state 1 RX12 rmX12_state (some .char)) {aO : Nat → Nat} {sO : zSt} {out : Int32 × zSt} (hQ : zHi C out.1 [wX12 (zcT C) aO out.2] 0 0) (h : fX12_state sO = some out) : zG C 1 [0] 0 0 [wX12 (zcT C) aO sO] 0 [(0, .ref (aO 0))] [] := by
  unfold fX12_state at h
  refine z_aload_n X dX12_state_0 0 rfl ?_
  refine z_iconst (v := (0 : Int32)) X dX12_state_1 rfl ?_
  obtain ⟨sO2, esO2, h⟩ := zlet_of h
  refine z_put (ws2 := [wX12 (zcT C) aO sO2]) X 0 0 13 9 ziX12 rfl tyX12 tyX12_ok nmX12 (by decide) zw1345 rfl rfl (ty := .int) (by decide +kernel) rfl rfl (by show 9 < 40; decide) dX12_state_2 rfl rfl (by decide) (w2 := wX12 (zcT C) aO sO2) (by rw [esO2]; rfl) rfl ?_
  refine z_aload_n X dX12_state_5 0 rfl ?_
  obtain ⟨o6, ho6, h⟩ := zbind_of h
  refine z_callVv (st := []) (ws2 := [wX12 (zcT C) aO o6]) X (metX12_looksNow (zcl C) (zcD C) (zcT C) aO ho6) zmX12_looksNow zw1792 dX12_state_6 0 0 13 rfl rfl rfl rfl [0] rfl rfl [0] rfl (by decide) ⟨zsX12 , trivial⟩ rfl rfl rfl (Nat.le_of_ble_eq_true rfl) rfl rfl ⟨Nat.le_of_ble_eq_true rfl, Nat.le_of_ble_eq_true rfl⟩ ⟨Nat.le_of_ble_eq_true rfl, Nat.le_of_ble_eq_true rfl⟩ ?_
  refine z_aload_n X dX12_state_9 0 rfl ?_
  refine z_get (v := .int (zgi o6 36)) X 0 0 13 36 ziX12 rfl (by decide) zw1372 rfl dX12_state_10 rfl rfl rfl ?_
  obtain ⟨g13, h⟩ := zgd_of h
  cases h
  exact z_nret X hQ g13 dX12_state_13 rfl [0] rfl (by decide) (by decide)
theorem metX12_state (l : Launch) (D : va_G) (T : Nat → ClassId) (aO : Nat → Nat) {sO : zSt} {out : Int32 × zSt} (hf : fX12_state sO = some out) (sz : Nat) : Met l yX12_state (zws yX12_state cX12_state 1 (some .char)) rmX12_state (zPc D T [.ref (aO 0)] [wX12 T aO sO] sz) (zQi D out.1 [wX12 T aO out.2] (zA [wX12 T aO sO] sz)) 0 0 (zA [wX12 T aO sO] sz) :=
  zMet (D := D) (T := T) (av := [.ref (aO 0)]) (ws := fun T => [wX12 T aO sO]) (wm := fun T => [wX12 T aO sO]) (lv0 := [(0, .ref (aO 0))]) [0] (Qc := fun D T A => zQi D out.1 [wX12 T aO out.2] A) (by decide +kernel) rfl (Nat.le_of_ble_eq_true rfl) rfl (fun C X hQ => bX12_state_0 X hQ hf) sz
