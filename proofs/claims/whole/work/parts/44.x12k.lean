/-- private int breaks(int); of TableaufloorModel -/
abbrev rmX12_breaks : Room := { frames := 0, cells := 0, slots := 0, locals := 0 }
def fX12_breaks_224 (sO : zSt) (k82 : Int32 → Int32 → Option (Int32)) (x1 : Int32) (x2 : Int32) : Option (Int32) :=
  (zlet (x2 + 1) (fun v224 =>
    (k82 x1 v224)))
def fX12_breaks_206 (sO : zSt) (k82 : Int32 → Int32 → Option (Int32)) (x1 : Int32) (x2 : Int32) (y0 : Int32) : Option (Int32) :=
  (if zin x2 12 = true then
    (if (zga sO 6 (x2).toNatClampNeg) = 0 then
    (if y0 = 0 then
      (fX12_breaks_224 sO k82 x1 x2)
    else
      some (x2))
  else
    (fX12_breaks_224 sO k82 x1 x2)) else none)
def fX12_breaks_109 (sO : zSt) (k82 : Int32 → Int32 → Option (Int32)) : Nat → Int32 → Int32 → Int64 → Int32 → Option (Int32)
  | 0, _, _, _, _ => none
  | n + 1, x1, x2, x3, x5 =>
    (if (3 : Int32) ≤ x5 then
      (if zin x2 12 = true then
        (if (zga sO 3 (x2).toNatClampNeg) = 0 then
        (if x3 ≤ (0 : Int64) then
          (fX12_breaks_206 sO k82 x1 x2 (0 : Int32))
        else
          (fX12_breaks_206 sO k82 x1 x2 (1 : Int32)))
      else
        (if zin x2 12 = true then
          (if (zga sO 3 (x2).toNatClampNeg) = (1 : Int32) then
          (if (0 : Int64) ≤ x3 then
            (fX12_breaks_206 sO k82 x1 x2 (0 : Int32))
          else
            (fX12_breaks_206 sO k82 x1 x2 (1 : Int32)))
        else
          (if x3 = (0 : Int64) then
            (fX12_breaks_206 sO k82 x1 x2 (0 : Int32))
          else
            (fX12_breaks_206 sO k82 x1 x2 (1 : Int32)))) else none)) else none)
    else
      (if zin (((3 : Int32) * x2) + x5) 36 = true then
        (if zin (((3 : Int32) * x1) + x5) 12 = true then
        (zlet (x3 + ((((zga sO 2 ((((3 : Int32) * x2) + x5)).toNatClampNeg)).toInt64) * (zgb sO 37 ((((3 : Int32) * x1) + x5)).toNatClampNeg))) (fun v141 =>
        (zlet (x5 + 1) (fun v142 =>
        (fX12_breaks_109 sO k82 n x1 x2 v141 v142))))) else none) else none))
def fX12_breaks_82 (sO : zSt) : Nat → Int32 → Int32 → Option (Int32)
  | 0, _, _ => none
  | n + 1, x1, x2 =>
    (if (zgi sO 11) ≤ x2 then
      some ((100 : Int32))
    else
      (if zin x2 12 = true then
        (if zin x1 4 = true then
        (zlet ((((-(zga sO 4 (x2).toNatClampNeg))).toInt64) * (zgb sO 38 (x1).toNatClampNeg)) (fun v105 =>
        (fX12_breaks_109 sO (fX12_breaks_82 sO n) 6000 x1 x2 v105 (0 : Int32)))) else none) else none))
def fX12_breaks_70 (sO : zSt) (x2 : Int32) : Option (Int32) :=
  some ((x2 - (3 : Int32)))
def fX12_breaks_74 (sO : zSt) (k2 : Int32 → Int32 → Option (Int32)) (x1 : Int32) (x2 : Int32) : Option (Int32) :=
  (zlet (x2 + 1) (fun v74 =>
    (k2 x1 v74)))
def fX12_breaks_2 (sO : zSt) : Nat → Int32 → Int32 → Option (Int32)
  | 0, _, _ => none
  | n + 1, x1, x2 =>
    (if (zgi sO 10) ≤ x2 then
      (fX12_breaks_82 sO 6000 x1 (0 : Int32))
    else
      (if zin (((3 : Int32) * x1) + x2) 12 = true then
        (zlet (zgb sO 37 ((((3 : Int32) * x1) + x2)).toNatClampNeg) (fun v20 =>
        (if zin x2 3 = true then
        (if zin x1 4 = true then
        (if v20 < ((((zga sO 0 (x2).toNatClampNeg)).toInt64) * (zgb sO 38 (x1).toNatClampNeg)) then
        (fX12_breaks_70 sO x2)
      else
        (if zin x2 3 = true then
          (if (100 : Int32) ≤ (zga sO 1 (x2).toNatClampNeg) then
          (fX12_breaks_74 sO (fX12_breaks_2 sO n) x1 x2)
        else
          (if zin x2 3 = true then
            (if zin x1 4 = true then
            (if v20 ≤ ((((zga sO 1 (x2).toNatClampNeg)).toInt64) * (zgb sO 38 (x1).toNatClampNeg)) then
            (fX12_breaks_74 sO (fX12_breaks_2 sO n) x1 x2)
          else
            (fX12_breaks_70 sO x2)) else none) else none)) else none)) else none) else none))) else none))
def fX12_breaks (sO : zSt) (x1 : Int32) : Option (Int32) :=
  (fX12_breaks_2 sO 6000 x1 (0 : Int32))
theorem bX12_breaks_224 {C : zCtx} (X : zFx C cX12_breaks 6 RX12 rmX12_breaks (some .int)) {aO : Nat → Nat} {sO : zSt} {k82 : Int32 → Int32 → Option (Int32)} {x1 : Int32} {x2 : Int32} {out : Int32} (hQ : zHi C out [] 0 0) (hk82 : ∀ (x1 : Int32) (x2 : Int32), k82 x1 x2 = some out → zG C 6 [] 0 0 [wX12 (zcT C) aO sO] 82 [(0, .ref (aO 0)), (1, .int x1), (2, .int x2)] []) (h : fX12_breaks_224 sO k82 x1 x2 = some out) : zG C 6 [] 0 0 [wX12 (zcT C) aO sO] 224 [(0, .ref (aO 0)), (1, .int x1), (2, .int x2)] [] := by
  unfold fX12_breaks_224 at h
  obtain ⟨v224, ev224, h⟩ := zlet_of h
  refine z_iinc (v := v224) (lv2 := [(2, .int v224), (0, .ref (aO 0)), (1, .int x1)]) X dX12_breaks_224 (k := 2) rfl (by rw [ev224]; rfl) (by decide) rfl ?_
  refine z_goto (tgt := 82) X dX12_breaks_227 (by decide) ?_
  exact z_at (pc2 := 82) (lv2 := [(0, .ref (aO 0)), (1, .int x1), (2, .int v224)]) (st2 := []) (ws2 := [wX12 (zcT C) aO sO]) rfl rfl rfl [1, 2, 0] rfl (hk82 x1 v224 h)
theorem bX12_breaks_206 {C : zCtx} (X : zFx C cX12_breaks 6 RX12 rmX12_breaks (some .int)) {aO : Nat → Nat} {sO : zSt} {k82 : Int32 → Int32 → Option (Int32)} {x1 : Int32} {x2 : Int32} {y0 : Int32} {out : Int32} (hQ : zHi C out [] 0 0) (hk82 : ∀ (x1 : Int32) (x2 : Int32), k82 x1 x2 = some out → zG C 6 [] 0 0 [wX12 (zcT C) aO sO] 82 [(0, .ref (aO 0)), (1, .int x1), (2, .int x2)] []) (h : fX12_breaks_206 sO k82 x1 x2 y0 = some out) : zG C 6 [] 0 0 [wX12 (zcT C) aO sO] 206 [(0, .ref (aO 0)), (1, .int x1), (2, .int x2)] [.int y0] := by
  unfold fX12_breaks_206 at h
  refine z_istore (lv2 := [(5, .int y0), (0, .ref (aO 0)), (1, .int x1), (2, .int x2)]) X dX12_breaks_206 (by decide) rfl ?_
  refine z_aload_n X dX12_breaks_208 1 rfl ?_
  refine z_get (v := .ref (aO 7)) X 0 0 13 6 ziX12 rfl (by decide) zw1342 rfl dX12_breaks_209 rfl rfl rfl ?_
  refine z_iload_n X dX12_breaks_212 3 rfl ?_
  obtain ⟨g213, h⟩ := zgd_of h
  refine z_zald X 0 7 g213 dX12_breaks_213 rfl rfl ?_
  refine z_if_ne (tgt := 224) X dX12_breaks_214 (by decide) (fun c214 => ?_) (fun c214 => ?_)
  · replace h := zif_f h c214
    exact z_at (pc2 := 224) (lv2 := [(0, .ref (aO 0)), (1, .int x1), (2, .int x2)]) (st2 := []) (ws2 := [wX12 (zcT C) aO sO]) rfl rfl rfl [1, 2, 3] rfl (bX12_breaks_224 X hQ hk82 h)
  · replace h := zif_t h c214
    refine z_iload X dX12_breaks_217 0 rfl ?_
    refine z_if_eq (tgt := 224) X dX12_breaks_219 (by decide) (fun c219 => ?_) (fun c219 => ?_)
    · replace h := zif_t h c219
      exact z_at (pc2 := 224) (lv2 := [(0, .ref (aO 0)), (1, .int x1), (2, .int x2)]) (st2 := []) (ws2 := [wX12 (zcT C) aO sO]) rfl rfl rfl [1, 2, 3] rfl (bX12_breaks_224 X hQ hk82 h)
    · replace h := zif_f h c219
      refine z_iload_n X dX12_breaks_222 3 rfl ?_
      cases h
      exact z_iret X hQ dX12_breaks_223 rfl [] rfl (by decide) (by decide)
theorem bX12_breaks_109 {C : zCtx} (X : zFx C cX12_breaks 6 RX12 rmX12_breaks (some .int)) {aO : Nat → Nat} {sO : zSt} {k82 : Int32 → Int32 → Option (Int32)} {out : Int32} (hQ : zHi C out [] 0 0) (hk82 : ∀ (x1 : Int32) (x2 : Int32), k82 x1 x2 = some out → zG C 6 [] 0 0 [wX12 (zcT C) aO sO] 82 [(0, .ref (aO 0)), (1, .int x1), (2, .int x2)] []) : ∀ (n : Nat) (x1 : Int32) (x2 : Int32) (x3 : Int64) (x5 : Int32), fX12_breaks_109 sO k82 n x1 x2 x3 x5 = some out → zG C 6 [] 0 0 [wX12 (zcT C) aO sO] 109 [(0, .ref (aO 0)), (1, .int x1), (2, .int x2), (3, .long x3), (5, .int x5)] [] := by
  intro n
  induction n with
  | zero =>
    intro x1 x2 x3 x5 h
    rw [fX12_breaks_109] at h
    exact zno h
  | succ n ih =>
    intro x1 x2 x3 x5 h
    rw [fX12_breaks_109] at h
    refine z_iload X dX12_breaks_109 4 rfl ?_
    refine z_iconst (v := (3 : Int32)) X dX12_breaks_111 rfl ?_
    refine z_icmp_ge (tgt := 148) X dX12_breaks_112 (by decide) (fun c112 => ?_) (fun c112 => ?_)
    · replace h := zif_t h c112
      refine z_aload_n X dX12_breaks_148 0 rfl ?_
      refine z_get (v := .ref (aO 4)) X 0 0 13 3 ziX12 rfl (by decide) zw1339 rfl dX12_breaks_149 rfl rfl rfl ?_
      refine z_iload_n X dX12_breaks_152 2 rfl ?_
      obtain ⟨g153, h⟩ := zgd_of h
      refine z_iald X 0 4 g153 dX12_breaks_153 rfl rfl ?_
      refine z_if_ne (tgt := 171) X dX12_breaks_154 (by decide) (fun c154 => ?_) (fun c154 => ?_)
      · replace h := zif_f h c154
        refine z_aload_n X dX12_breaks_171 0 rfl ?_
        refine z_get (v := .ref (aO 4)) X 0 0 13 3 ziX12 rfl (by decide) zw1339 rfl dX12_breaks_172 rfl rfl rfl ?_
        refine z_iload_n X dX12_breaks_175 2 rfl ?_
        obtain ⟨g176, h⟩ := zgd_of h
        refine z_iald X 0 4 g176 dX12_breaks_176 rfl rfl ?_
        refine z_iconst (v := (1 : Int32)) X dX12_breaks_177 rfl ?_
        refine z_icmp_ne (tgt := 195) X dX12_breaks_178 (by decide) (fun c178 => ?_) (fun c178 => ?_)
        · replace h := zif_f h c178
          refine z_lload_n X dX12_breaks_195 3 rfl ?_
          refine z_lconst (v := (0 : Int64)) X dX12_breaks_196 rfl ?_
          refine z_lcmp_eq (tgt := 205) X dX12_breaks_197 dX12_breaks_198 (by decide) (fun c197 => ?_) (fun c197 => ?_)
          · replace h := zif_t h c197
            refine z_iconst (v := (0 : Int32)) X dX12_breaks_205 rfl ?_
            exact z_at (pc2 := 206) (lv2 := [(0, .ref (aO 0)), (1, .int x1), (2, .int x2)]) (st2 := [.int (0 : Int32)]) (ws2 := [wX12 (zcT C) aO sO]) rfl rfl rfl [0, 1, 2] rfl (bX12_breaks_206 X hQ hk82 h)
          · replace h := zif_f h c197
            refine z_iconst (v := (1 : Int32)) X dX12_breaks_201 rfl ?_
            refine z_goto (tgt := 206) X dX12_breaks_202 (by decide) ?_
            exact z_at (pc2 := 206) (lv2 := [(0, .ref (aO 0)), (1, .int x1), (2, .int x2)]) (st2 := [.int (1 : Int32)]) (ws2 := [wX12 (zcT C) aO sO]) rfl rfl rfl [0, 1, 2] rfl (bX12_breaks_206 X hQ hk82 h)
        · replace h := zif_t h c178
          refine z_lload_n X dX12_breaks_181 3 rfl ?_
          refine z_lconst (v := (0 : Int64)) X dX12_breaks_182 rfl ?_
          refine z_lcmp_ge (tgt := 191) X dX12_breaks_183 dX12_breaks_184 (by decide) (fun c183 => ?_) (fun c183 => ?_)
          · replace h := zif_t h c183
            refine z_iconst (v := (0 : Int32)) X dX12_breaks_191 rfl ?_
            refine z_goto (tgt := 206) X dX12_breaks_192 (by decide) ?_
            exact z_at (pc2 := 206) (lv2 := [(0, .ref (aO 0)), (1, .int x1), (2, .int x2)]) (st2 := [.int (0 : Int32)]) (ws2 := [wX12 (zcT C) aO sO]) rfl rfl rfl [0, 1, 2] rfl (bX12_breaks_206 X hQ hk82 h)
          · replace h := zif_f h c183
            refine z_iconst (v := (1 : Int32)) X dX12_breaks_187 rfl ?_
            refine z_goto (tgt := 206) X dX12_breaks_188 (by decide) ?_
            exact z_at (pc2 := 206) (lv2 := [(0, .ref (aO 0)), (1, .int x1), (2, .int x2)]) (st2 := [.int (1 : Int32)]) (ws2 := [wX12 (zcT C) aO sO]) rfl rfl rfl [0, 1, 2] rfl (bX12_breaks_206 X hQ hk82 h)
      · replace h := zif_t h c154
        refine z_lload_n X dX12_breaks_157 3 rfl ?_
        refine z_lconst (v := (0 : Int64)) X dX12_breaks_158 rfl ?_
        refine z_lcmp_le (tgt := 167) X dX12_breaks_159 dX12_breaks_160 (by decide) (fun c159 => ?_) (fun c159 => ?_)
        · replace h := zif_t h c159
          refine z_iconst (v := (0 : Int32)) X dX12_breaks_167 rfl ?_
          refine z_goto (tgt := 206) X dX12_breaks_168 (by decide) ?_
          exact z_at (pc2 := 206) (lv2 := [(0, .ref (aO 0)), (1, .int x1), (2, .int x2)]) (st2 := [.int (0 : Int32)]) (ws2 := [wX12 (zcT C) aO sO]) rfl rfl rfl [0, 1, 2] rfl (bX12_breaks_206 X hQ hk82 h)
        · replace h := zif_f h c159
          refine z_iconst (v := (1 : Int32)) X dX12_breaks_163 rfl ?_
          refine z_goto (tgt := 206) X dX12_breaks_164 (by decide) ?_
          exact z_at (pc2 := 206) (lv2 := [(0, .ref (aO 0)), (1, .int x1), (2, .int x2)]) (st2 := [.int (1 : Int32)]) (ws2 := [wX12 (zcT C) aO sO]) rfl rfl rfl [0, 1, 2] rfl (bX12_breaks_206 X hQ hk82 h)
    · replace h := zif_f h c112
      refine z_lload_n X dX12_breaks_115 3 rfl ?_
      refine z_aload_n X dX12_breaks_116 0 rfl ?_
      refine z_get (v := .ref (aO 3)) X 0 0 13 2 ziX12 rfl (by decide) zw1338 rfl dX12_breaks_117 rfl rfl rfl ?_
      refine z_iconst (v := (3 : Int32)) X dX12_breaks_120 rfl ?_
      refine z_iload_n X dX12_breaks_121 2 rfl ?_
      refine z_imul X dX12_breaks_122 ?_
      refine z_iload X dX12_breaks_123 4 rfl ?_
      refine z_iadd X dX12_breaks_125 ?_
      obtain ⟨g126, h⟩ := zgd_of h
      refine z_iald X 0 3 g126 dX12_breaks_126 rfl rfl ?_
      refine z_i2l X dX12_breaks_127 ?_
      refine z_aload_n X dX12_breaks_128 0 rfl ?_
      refine z_get (v := .ref (aO 38)) X 0 0 13 37 ziX12 rfl (by decide) zw1373 rfl dX12_breaks_129 rfl rfl rfl ?_
      refine z_iconst (v := (3 : Int32)) X dX12_breaks_132 rfl ?_
      refine z_iload_n X dX12_breaks_133 1 rfl ?_
      refine z_imul X dX12_breaks_134 ?_
      refine z_iload X dX12_breaks_135 4 rfl ?_
      refine z_iadd X dX12_breaks_137 ?_
      obtain ⟨g138, h⟩ := zgd_of h
      refine z_lald X 0 23 g138 dX12_breaks_138 rfl rfl ?_
      refine z_lmul X dX12_breaks_139 ?_
      refine z_ladd X dX12_breaks_140 ?_
      obtain ⟨v141, ev141, h⟩ := zlet_of h
      refine z_topl ev141 ?_
      refine z_lstore_n (lv2 := [(3, .long v141), (0, .ref (aO 0)), (1, .int x1), (2, .int x2), (5, .int x5)]) X dX12_breaks_141 rfl (by decide) rfl ?_
      obtain ⟨v142, ev142, h⟩ := zlet_of h
      refine z_iinc (v := v142) (lv2 := [(5, .int v142), (3, .long v141), (0, .ref (aO 0)), (1, .int x1), (2, .int x2)]) X dX12_breaks_142 (k := 4) rfl (by rw [ev142]; rfl) (by decide) rfl ?_
      refine z_goto (tgt := 109) X dX12_breaks_145 (by decide) ?_
      exact z_at (pc2 := 109) (lv2 := [(0, .ref (aO 0)), (1, .int x1), (2, .int x2), (3, .long v141), (5, .int v142)]) (st2 := []) (ws2 := [wX12 (zcT C) aO sO]) rfl rfl rfl [2, 3, 4, 1, 0] rfl (ih x1 x2 v141 v142 h)
theorem bX12_breaks_82 {C : zCtx} (X : zFx C cX12_breaks 6 RX12 rmX12_breaks (some .int)) {aO : Nat → Nat} {sO : zSt} {out : Int32} (hQ : zHi C out [] 0 0) : ∀ (n : Nat) (x1 : Int32) (x2 : Int32), fX12_breaks_82 sO n x1 x2 = some out → zG C 6 [] 0 0 [wX12 (zcT C) aO sO] 82 [(0, .ref (aO 0)), (1, .int x1), (2, .int x2)] [] := by
  intro n
  induction n with
  | zero =>
    intro x1 x2 h
    rw [fX12_breaks_82] at h
    exact zno h
  | succ n ih =>
    intro x1 x2 h
    rw [fX12_breaks_82] at h
    refine z_iload_n X dX12_breaks_82 2 rfl ?_
    refine z_aload_n X dX12_breaks_83 0 rfl ?_
    refine z_get (v := .int (zgi sO 11)) X 0 0 13 11 ziX12 rfl (by decide) zw1347 rfl dX12_breaks_84 rfl rfl rfl ?_
    refine z_icmp_ge (tgt := 230) X dX12_breaks_87 (by decide) (fun c87 => ?_) (fun c87 => ?_)
    · replace h := zif_t h c87
      refine z_bipush (v := (100 : Int32)) X dX12_breaks_230 rfl ?_
      cases h
      exact z_iret X hQ dX12_breaks_232 rfl [] rfl (by decide) (by decide)
    · replace h := zif_f h c87
      refine z_aload_n X dX12_breaks_90 0 rfl ?_
      refine z_get (v := .ref (aO 5)) X 0 0 13 4 ziX12 rfl (by decide) zw1340 rfl dX12_breaks_91 rfl rfl rfl ?_
      refine z_iload_n X dX12_breaks_94 2 rfl ?_
      obtain ⟨g95, h⟩ := zgd_of h
      refine z_iald X 0 5 g95 dX12_breaks_95 rfl rfl ?_
      refine z_ineg X dX12_breaks_96 ?_
      refine z_i2l X dX12_breaks_97 ?_
      refine z_aload_n X dX12_breaks_98 0 rfl ?_
      refine z_get (v := .ref (aO 39)) X 0 0 13 38 ziX12 rfl (by decide) zw1374 rfl dX12_breaks_99 rfl rfl rfl ?_
      refine z_iload_n X dX12_breaks_102 1 rfl ?_
      obtain ⟨g103, h⟩ := zgd_of h
      refine z_lald X 0 24 g103 dX12_breaks_103 rfl rfl ?_
      refine z_lmul X dX12_breaks_104 ?_
      obtain ⟨v105, ev105, h⟩ := zlet_of h
      refine z_topl ev105 ?_
      refine z_lstore_n (lv2 := [(3, .long v105), (0, .ref (aO 0)), (1, .int x1), (2, .int x2)]) X dX12_breaks_105 rfl (by decide) rfl ?_
      refine z_iconst (v := (0 : Int32)) X dX12_breaks_106 rfl ?_
      refine z_istore (lv2 := [(5, .int (0 : Int32)), (3, .long v105), (0, .ref (aO 0)), (1, .int x1), (2, .int x2)]) X dX12_breaks_107 (by decide) rfl ?_
      exact z_at (pc2 := 109) (lv2 := [(0, .ref (aO 0)), (1, .int x1), (2, .int x2), (3, .long v105), (5, .int (0 : Int32))]) (st2 := []) (ws2 := [wX12 (zcT C) aO sO]) rfl rfl rfl [2, 3, 4, 1, 0] rfl (bX12_breaks_109 X hQ ih 6000 x1 x2 v105 (0 : Int32) h)
theorem bX12_breaks_70 {C : zCtx} (X : zFx C cX12_breaks 6 RX12 rmX12_breaks (some .int)) {aO : Nat → Nat} {sO : zSt} {x2 : Int32} {out : Int32} (hQ : zHi C out [] 0 0) (h : fX12_breaks_70 sO x2 = some out) : zG C 6 [] 0 0 [wX12 (zcT C) aO sO] 70 [(2, .int x2)] [] := by
  unfold fX12_breaks_70 at h
  refine z_iload_n X dX12_breaks_70 0 rfl ?_
  refine z_iconst (v := (3 : Int32)) X dX12_breaks_71 rfl ?_
  refine z_isub X dX12_breaks_72 ?_
  cases h
  exact z_iret X hQ dX12_breaks_73 rfl [] rfl (by decide) (by decide)
theorem bX12_breaks_74 {C : zCtx} (X : zFx C cX12_breaks 6 RX12 rmX12_breaks (some .int)) {aO : Nat → Nat} {sO : zSt} {k2 : Int32 → Int32 → Option (Int32)} {x1 : Int32} {x2 : Int32} {out : Int32} (hQ : zHi C out [] 0 0) (hk2 : ∀ (x1 : Int32) (x2 : Int32), k2 x1 x2 = some out → zG C 6 [] 0 0 [wX12 (zcT C) aO sO] 2 [(0, .ref (aO 0)), (1, .int x1), (2, .int x2)] []) (h : fX12_breaks_74 sO k2 x1 x2 = some out) : zG C 6 [] 0 0 [wX12 (zcT C) aO sO] 74 [(0, .ref (aO 0)), (1, .int x1), (2, .int x2)] [] := by
  unfold fX12_breaks_74 at h
  obtain ⟨v74, ev74, h⟩ := zlet_of h
  refine z_iinc (v := v74) (lv2 := [(2, .int v74), (0, .ref (aO 0)), (1, .int x1)]) X dX12_breaks_74 (k := 2) rfl (by rw [ev74]; rfl) (by decide) rfl ?_
  refine z_goto (tgt := 2) X dX12_breaks_77 (by decide) ?_
  exact z_at (pc2 := 2) (lv2 := [(0, .ref (aO 0)), (1, .int x1), (2, .int v74)]) (st2 := []) (ws2 := [wX12 (zcT C) aO sO]) rfl rfl rfl [1, 2, 0] rfl (hk2 x1 v74 h)
theorem bX12_breaks_2 {C : zCtx} (X : zFx C cX12_breaks 6 RX12 rmX12_breaks (some .int)) {aO : Nat → Nat} {sO : zSt} {out : Int32} (hQ : zHi C out [] 0 0) : ∀ (n : Nat) (x1 : Int32) (x2 : Int32), fX12_breaks_2 sO n x1 x2 = some out → zG C 6 [] 0 0 [wX12 (zcT C) aO sO] 2 [(0, .ref (aO 0)), (1, .int x1), (2, .int x2)] [] := by
  intro n
  induction n with
  | zero =>
    intro x1 x2 h
    rw [fX12_breaks_2] at h
    exact zno h
  | succ n ih =>
    intro x1 x2 h
    rw [fX12_breaks_2] at h
    refine z_iload_n X dX12_breaks_2 2 rfl ?_
    refine z_aload_n X dX12_breaks_3 0 rfl ?_
    refine z_get (v := .int (zgi sO 10)) X 0 0 13 10 ziX12 rfl (by decide) zw1346 rfl dX12_breaks_4 rfl rfl rfl ?_
    refine z_icmp_ge (tgt := 80) X dX12_breaks_7 (by decide) (fun c7 => ?_) (fun c7 => ?_)
    · replace h := zif_t h c7
      refine z_iconst (v := (0 : Int32)) X dX12_breaks_80 rfl ?_
      refine z_istore_n (lv2 := [(2, .int (0 : Int32)), (0, .ref (aO 0)), (1, .int x1)]) X dX12_breaks_81 rfl (by decide) rfl ?_
      exact z_at (pc2 := 82) (lv2 := [(0, .ref (aO 0)), (1, .int x1), (2, .int (0 : Int32))]) (st2 := []) (ws2 := [wX12 (zcT C) aO sO]) rfl rfl rfl [1, 2, 0] rfl (bX12_breaks_82 X hQ  6000 x1 (0 : Int32) h)
    · replace h := zif_f h c7
      refine z_aload_n X dX12_breaks_10 0 rfl ?_
      refine z_get (v := .ref (aO 38)) X 0 0 13 37 ziX12 rfl (by decide) zw1373 rfl dX12_breaks_11 rfl rfl rfl ?_
      refine z_iconst (v := (3 : Int32)) X dX12_breaks_14 rfl ?_
      refine z_iload_n X dX12_breaks_15 1 rfl ?_
      refine z_imul X dX12_breaks_16 ?_
      refine z_iload_n X dX12_breaks_17 2 rfl ?_
      refine z_iadd X dX12_breaks_18 ?_
      obtain ⟨g19, h⟩ := zgd_of h
      refine z_lald X 0 23 g19 dX12_breaks_19 rfl rfl ?_
      obtain ⟨v20, ev20, h⟩ := zlet_of h
      refine z_topl ev20 ?_
      refine z_lstore_n (lv2 := [(3, .long v20), (0, .ref (aO 0)), (1, .int x1), (2, .int x2)]) X dX12_breaks_20 rfl (by decide) rfl ?_
      refine z_lload_n X dX12_breaks_21 0 rfl ?_
      refine z_aload_n X dX12_breaks_22 1 rfl ?_
      refine z_get (v := .ref (aO 1)) X 0 0 13 0 ziX12 rfl (by decide) zw1336 rfl dX12_breaks_23 rfl rfl rfl ?_
      refine z_iload_n X dX12_breaks_26 3 rfl ?_
      obtain ⟨g27, h⟩ := zgd_of h
      refine z_iald X 0 1 g27 dX12_breaks_27 rfl rfl ?_
      refine z_i2l X dX12_breaks_28 ?_
      refine z_aload_n X dX12_breaks_29 1 rfl ?_
      refine z_get (v := .ref (aO 39)) X 0 0 13 38 ziX12 rfl (by decide) zw1374 rfl dX12_breaks_30 rfl rfl rfl ?_
      refine z_iload_n X dX12_breaks_33 2 rfl ?_
      obtain ⟨g34, h⟩ := zgd_of h
      refine z_lald X 0 24 g34 dX12_breaks_34 rfl rfl ?_
      refine z_lmul X dX12_breaks_35 ?_
      refine z_lcmp_lt (tgt := 70) X dX12_breaks_36 dX12_breaks_37 (by decide) (fun c36 => ?_) (fun c36 => ?_)
      · replace h := zif_t h c36
        exact z_at (pc2 := 70) (lv2 := [(2, .int x2)]) (st2 := []) (ws2 := [wX12 (zcT C) aO sO]) rfl rfl rfl [3] rfl (bX12_breaks_70 X hQ  h)
      · replace h := zif_f h c36
        refine z_aload_n X dX12_breaks_40 1 rfl ?_
        refine z_get (v := .ref (aO 2)) X 0 0 13 1 ziX12 rfl (by decide) zw1337 rfl dX12_breaks_41 rfl rfl rfl ?_
        refine z_iload_n X dX12_breaks_44 3 rfl ?_
        obtain ⟨g45, h⟩ := zgd_of h
        refine z_iald X 0 2 g45 dX12_breaks_45 rfl rfl ?_
        refine z_bipush (v := (100 : Int32)) X dX12_breaks_46 rfl ?_
        refine z_icmp_ge (tgt := 74) X dX12_breaks_48 (by decide) (fun c48 => ?_) (fun c48 => ?_)
        · replace h := zif_t h c48
          exact z_at (pc2 := 74) (lv2 := [(0, .ref (aO 0)), (1, .int x1), (2, .int x2)]) (st2 := []) (ws2 := [wX12 (zcT C) aO sO]) rfl rfl rfl [1, 2, 3] rfl (bX12_breaks_74 X hQ ih h)
        · replace h := zif_f h c48
          refine z_lload_n X dX12_breaks_51 0 rfl ?_
          refine z_aload_n X dX12_breaks_52 1 rfl ?_
          refine z_get (v := .ref (aO 2)) X 0 0 13 1 ziX12 rfl (by decide) zw1337 rfl dX12_breaks_53 rfl rfl rfl ?_
          refine z_iload_n X dX12_breaks_56 3 rfl ?_
          obtain ⟨g57, h⟩ := zgd_of h
          refine z_iald X 0 2 g57 dX12_breaks_57 rfl rfl ?_
          refine z_i2l X dX12_breaks_58 ?_
          refine z_aload_n X dX12_breaks_59 1 rfl ?_
          refine z_get (v := .ref (aO 39)) X 0 0 13 38 ziX12 rfl (by decide) zw1374 rfl dX12_breaks_60 rfl rfl rfl ?_
          refine z_iload_n X dX12_breaks_63 2 rfl ?_
          obtain ⟨g64, h⟩ := zgd_of h
          refine z_lald X 0 24 g64 dX12_breaks_64 rfl rfl ?_
          refine z_lmul X dX12_breaks_65 ?_
          refine z_lcmp_le (tgt := 74) X dX12_breaks_66 dX12_breaks_67 (by decide) (fun c66 => ?_) (fun c66 => ?_)
          · replace h := zif_t h c66
            exact z_at (pc2 := 74) (lv2 := [(0, .ref (aO 0)), (1, .int x1), (2, .int x2)]) (st2 := []) (ws2 := [wX12 (zcT C) aO sO]) rfl rfl rfl [1, 2, 3] rfl (bX12_breaks_74 X hQ ih h)
          · replace h := zif_f h c66
            exact z_at (pc2 := 70) (lv2 := [(2, .int x2)]) (st2 := []) (ws2 := [wX12 (zcT C) aO sO]) rfl rfl rfl [3] rfl (bX12_breaks_70 X hQ  h)
theorem bX12_breaks_0 {C : zCtx} (X : zFx C cX12_breaks 6 RX12 rmX12_breaks (some .int)) {aO : Nat → Nat} {sO : zSt} {x1 : Int32} {out : Int32} (hQ : zHi C out [] 0 0) (h : fX12_breaks sO x1 = some out) : zG C 6 [] 0 0 [wX12 (zcT C) aO sO] 0 [(0, .ref (aO 0)), (1, .int x1)] [] := by
  unfold fX12_breaks at h
  refine z_iconst (v := (0 : Int32)) X dX12_breaks_0 rfl ?_
  refine z_istore_n (lv2 := [(2, .int (0 : Int32)), (0, .ref (aO 0)), (1, .int x1)]) X dX12_breaks_1 rfl (by decide) rfl ?_
  exact z_at (pc2 := 2) (lv2 := [(0, .ref (aO 0)), (1, .int x1), (2, .int (0 : Int32))]) (st2 := []) (ws2 := [wX12 (zcT C) aO sO]) rfl rfl rfl [1, 2, 0] rfl (bX12_breaks_2 X hQ  6000 x1 (0 : Int32) h)
theorem metX12_breaks (l : Launch) (D : va_G) (T : Nat → ClassId) (aO : Nat → Nat) {sO : zSt} {x1 : Int32} {out : Int32} (hf : fX12_breaks sO x1 = some out) (sz : Nat) : Met l yX12_breaks (zws yX12_breaks cX12_breaks 6 (some .int)) rmX12_breaks (zPc D T [.ref (aO 0), .int x1] [wX12 T aO sO] sz) (zQi D out [] (zA [] sz)) 0 0 (zA [] sz) :=
  zMet (D := D) (T := T) (av := [.ref (aO 0), .int x1]) (ws := fun T => [wX12 T aO sO]) (wm := fun T => []) (lv0 := [(0, .ref (aO 0)), (1, .int x1)]) [] (Qc := fun D T A => zQi D out [] A) (by decide +kernel) rfl (Nat.le_of_ble_eq_true rfl) rfl (fun C X hQ => bX12_breaks_0 X hQ hf) sz
/-- private boolean isBest(int); of TableaufloorModel -/
abbrev rmX12_isBest : Room := { frames := 0, cells := 0, slots := 0, locals := 0 }
def fX12_isBest_2 (sO : zSt) : Nat → Int32 → Int32 → Option (Int32)
  | 0, _, _ => none
  | n + 1, x1, x2 =>
    (if (3 : Int32) ≤ x2 then
      some ((1 : Int32))
    else
      (if zin (((3 : Int32) * (zgi sO 35)) + x2) 1800 = true then
        (if zin x1 4 = true then
        (if zin (((3 : Int32) * x1) + x2) 12 = true then
        (if zin (zgi sO 35) 600 = true then
        (if ((zgb sO 21 ((((3 : Int32) * (zgi sO 35)) + x2)).toNatClampNeg) * (zgb sO 38 (x1).toNatClampNeg)) = ((zgb sO 37 ((((3 : Int32) * x1) + x2)).toNatClampNeg) * (zgb sO 22 ((zgi sO 35)).toNatClampNeg)) then
        (zlet (x2 + 1) (fun v53 =>
          (fX12_isBest_2 sO n x1 v53)))
      else
        some ((0 : Int32))) else none) else none) else none) else none))
def fX12_isBest (sO : zSt) (x1 : Int32) : Option (Int32) :=
  (fX12_isBest_2 sO 6000 x1 (0 : Int32))
theorem bX12_isBest_2 {C : zCtx} (X : zFx C cX12_isBest 3 RX12 rmX12_isBest (some .boolean)) {aO : Nat → Nat} {sO : zSt} {out : Int32} (hQ : zHi C out [] 0 0) : ∀ (n : Nat) (x1 : Int32) (x2 : Int32), fX12_isBest_2 sO n x1 x2 = some out → zG C 3 [] 0 0 [wX12 (zcT C) aO sO] 2 [(0, .ref (aO 0)), (1, .int x1), (2, .int x2)] [] := by
  intro n
  induction n with
  | zero =>
    intro x1 x2 h
    rw [fX12_isBest_2] at h
    exact zno h
  | succ n ih =>
    intro x1 x2 h
    rw [fX12_isBest_2] at h
    refine z_iload_n X dX12_isBest_2 2 rfl ?_
    refine z_iconst (v := (3 : Int32)) X dX12_isBest_3 rfl ?_
    refine z_icmp_ge (tgt := 59) X dX12_isBest_4 (by decide) (fun c4 => ?_) (fun c4 => ?_)
    · replace h := zif_t h c4
      refine z_iconst (v := (1 : Int32)) X dX12_isBest_59 rfl ?_
      cases h
      exact z_nret X hQ rfl dX12_isBest_60 rfl [] rfl (by decide) (by decide)
    · replace h := zif_f h c4
      refine z_aload_n X dX12_isBest_7 0 rfl ?_
      refine z_get (v := .ref (aO 22)) X 0 0 13 21 ziX12 rfl (by decide) zw1357 rfl dX12_isBest_8 rfl rfl rfl ?_
      refine z_iconst (v := (3 : Int32)) X dX12_isBest_11 rfl ?_
      refine z_aload_n X dX12_isBest_12 0 rfl ?_
      refine z_get (v := .int (zgi sO 35)) X 0 0 13 35 ziX12 rfl (by decide) zw1371 rfl dX12_isBest_13 rfl rfl rfl ?_
      refine z_imul X dX12_isBest_16 ?_
      refine z_iload_n X dX12_isBest_17 2 rfl ?_
      refine z_iadd X dX12_isBest_18 ?_
      obtain ⟨g19, h⟩ := zgd_of h
      refine z_lald X 0 13 g19 dX12_isBest_19 rfl rfl ?_
      refine z_aload_n X dX12_isBest_20 0 rfl ?_
      refine z_get (v := .ref (aO 39)) X 0 0 13 38 ziX12 rfl (by decide) zw1374 rfl dX12_isBest_21 rfl rfl rfl ?_
      refine z_iload_n X dX12_isBest_24 1 rfl ?_
      obtain ⟨g25, h⟩ := zgd_of h
      refine z_lald X 0 24 g25 dX12_isBest_25 rfl rfl ?_
      refine z_lmul X dX12_isBest_26 ?_
      refine z_aload_n X dX12_isBest_27 0 rfl ?_
      refine z_get (v := .ref (aO 38)) X 0 0 13 37 ziX12 rfl (by decide) zw1373 rfl dX12_isBest_28 rfl rfl rfl ?_
      refine z_iconst (v := (3 : Int32)) X dX12_isBest_31 rfl ?_
      refine z_iload_n X dX12_isBest_32 1 rfl ?_
      refine z_imul X dX12_isBest_33 ?_
      refine z_iload_n X dX12_isBest_34 2 rfl ?_
      refine z_iadd X dX12_isBest_35 ?_
      obtain ⟨g36, h⟩ := zgd_of h
      refine z_lald X 0 23 g36 dX12_isBest_36 rfl rfl ?_
      refine z_aload_n X dX12_isBest_37 0 rfl ?_
      refine z_get (v := .ref (aO 23)) X 0 0 13 22 ziX12 rfl (by decide) zw1358 rfl dX12_isBest_38 rfl rfl rfl ?_
      refine z_aload_n X dX12_isBest_41 0 rfl ?_
      refine z_get (v := .int (zgi sO 35)) X 0 0 13 35 ziX12 rfl (by decide) zw1371 rfl dX12_isBest_42 rfl rfl rfl ?_
      obtain ⟨g45, h⟩ := zgd_of h
      refine z_lald X 0 14 g45 dX12_isBest_45 rfl rfl ?_
      refine z_lmul X dX12_isBest_46 ?_
      refine z_lcmp_eq (tgt := 53) X dX12_isBest_47 dX12_isBest_48 (by decide) (fun c47 => ?_) (fun c47 => ?_)
      · replace h := zif_t h c47
        obtain ⟨v53, ev53, h⟩ := zlet_of h
        refine z_iinc (v := v53) (lv2 := [(2, .int v53), (0, .ref (aO 0)), (1, .int x1)]) X dX12_isBest_53 (k := 2) rfl (by rw [ev53]; rfl) (by decide) rfl ?_
        refine z_goto (tgt := 2) X dX12_isBest_56 (by decide) ?_
        exact z_at (pc2 := 2) (lv2 := [(0, .ref (aO 0)), (1, .int x1), (2, .int v53)]) (st2 := []) (ws2 := [wX12 (zcT C) aO sO]) rfl rfl rfl [1, 2, 0] rfl (ih x1 v53 h)
      · replace h := zif_f h c47
        refine z_iconst (v := (0 : Int32)) X dX12_isBest_51 rfl ?_
        cases h
        exact z_nret X hQ rfl dX12_isBest_52 rfl [] rfl (by decide) (by decide)
theorem bX12_isBest_0 {C : zCtx} (X : zFx C cX12_isBest 3 RX12 rmX12_isBest (some .boolean)) {aO : Nat → Nat} {sO : zSt} {x1 : Int32} {out : Int32} (hQ : zHi C out [] 0 0) (h : fX12_isBest sO x1 = some out) : zG C 3 [] 0 0 [wX12 (zcT C) aO sO] 0 [(0, .ref (aO 0)), (1, .int x1)] [] := by
  unfold fX12_isBest at h
  refine z_iconst (v := (0 : Int32)) X dX12_isBest_0 rfl ?_
  refine z_istore_n (lv2 := [(2, .int (0 : Int32)), (0, .ref (aO 0)), (1, .int x1)]) X dX12_isBest_1 rfl (by decide) rfl ?_
  exact z_at (pc2 := 2) (lv2 := [(0, .ref (aO 0)), (1, .int x1), (2, .int (0 : Int32))]) (st2 := []) (ws2 := [wX12 (zcT C) aO sO]) rfl rfl rfl [1, 2, 0] rfl (bX12_isBest_2 X hQ  6000 x1 (0 : Int32) h)
theorem metX12_isBest (l : Launch) (D : va_G) (T : Nat → ClassId) (aO : Nat → Nat) {sO : zSt} {x1 : Int32} {out : Int32} (hf : fX12_isBest sO x1 = some out) (sz : Nat) : Met l yX12_isBest (zws yX12_isBest cX12_isBest 3 (some .boolean)) rmX12_isBest (zPc D T [.ref (aO 0), .int x1] [wX12 T aO sO] sz) (zQi D out [] (zA [] sz)) 0 0 (zA [] sz) :=
  zMet (D := D) (T := T) (av := [.ref (aO 0), .int x1]) (ws := fun T => [wX12 T aO sO]) (wm := fun T => []) (lv0 := [(0, .ref (aO 0)), (1, .int x1)]) [] (Qc := fun D T A => zQi D out [] A) (by decide +kernel) rfl (Nat.le_of_ble_eq_true rfl) rfl (fun C X hQ => bX12_isBest_0 X hQ hf) sz
/-- private char how(int); of TableaufloorModel -/
abbrev rmX12_how : Room := { frames := 6, cells := 0, slots := 0, locals := 147 }
def fX12_how_35 (sO : zSt) : Option (Int32 × zSt) :=
  some ((120 : Int32), sO)
def fX12_how_66 (sO : zSt) (y0 : Int32) : Option (Int32 × zSt) :=
  (if znar .char y0 = true then
    some (y0, sO) else none)
def fX12_how_64 (sO : zSt) : Option (Int32 × zSt) :=
  (fX12_how_66 sO (102 : Int32))
def fX12_how (sO : zSt) (x1 : Int32) : Option (Int32 × zSt) :=
  (if zin x1 4 = true then
    (if 0 ≤ (zga sO 39 (x1).toNatClampNeg) then
    (if zin x1 4 = true then
      (if (zga sO 39 (x1).toNatClampNeg) = (zgi sO 10) then
      ((fX12_breaks sO x1).bind (fun o27 =>
        (if (100 : Int32) ≤ o27 then
        ((fX12_looksNow sO).bind (fun o39 =>
          (if (zgi o39 36) = (111 : Int32) then
          ((fX12_isBest o39 x1).bind (fun o53 =>
            (if o53 = 0 then
            (fX12_how_64 o39)
          else
            (fX12_how_66 o39 (98 : Int32)))))
        else
          (fX12_how_64 o39))))
      else
        (fX12_how_35 sO))))
    else
      (fX12_how_35 sO)) else none)
  else
    some ((45 : Int32), sO)) else none)
theorem bX12_how_35 {C : zCtx} (X : zFx C cX12_how 2 RX12 rmX12_how (some .char)) {aO : Nat → Nat} {sO : zSt} {out : Int32 × zSt} (hQ : zHi C out.1 [wX12 (zcT C) aO out.2] 0 0) (h : fX12_how_35 sO = some out) : zG C 2 [0] 0 0 [wX12 (zcT C) aO sO] 35 [] [] := by
  unfold fX12_how_35 at h
  refine z_bipush (v := (120 : Int32)) X dX12_how_35 rfl ?_
  cases h
  exact z_nret X hQ rfl dX12_how_37 rfl [0] rfl (by decide) (by decide)
theorem bX12_how_66 {C : zCtx} (X : zFx C cX12_how 2 RX12 rmX12_how (some .char)) {aO : Nat → Nat} {sO : zSt} {y0 : Int32} {out : Int32 × zSt} (hQ : zHi C out.1 [wX12 (zcT C) aO out.2] 0 0) (h : fX12_how_66 sO y0 = some out) : zG C 2 [0] 0 0 [wX12 (zcT C) aO sO] 66 [] [.int y0] := by
  unfold fX12_how_66 at h
  obtain ⟨g66, h⟩ := zgd_of h
  cases h
  exact z_nret X hQ g66 dX12_how_66 rfl [0] rfl (by decide) (by decide)
theorem bX12_how_64 {C : zCtx} (X : zFx C cX12_how 2 RX12 rmX12_how (some .char)) {aO : Nat → Nat} {sO : zSt} {out : Int32 × zSt} (hQ : zHi C out.1 [wX12 (zcT C) aO out.2] 0 0) (h : fX12_how_64 sO = some out) : zG C 2 [0] 0 0 [wX12 (zcT C) aO sO] 64 [] [] := by
  unfold fX12_how_64 at h
  refine z_bipush (v := (102 : Int32)) X dX12_how_64 rfl ?_
  exact z_at (pc2 := 66) (lv2 := []) (st2 := [.int (102 : Int32)]) (ws2 := [wX12 (zcT C) aO sO]) rfl rfl rfl [] rfl (bX12_how_66 X hQ  h)
theorem bX12_how_0 {C : zCtx} (X : zFx C cX12_how 2 RX12 rmX12_how (some .char)) {aO : Nat → Nat} {sO : zSt} {x1 : Int32} {out : Int32 × zSt} (hQ : zHi C out.1 [wX12 (zcT C) aO out.2] 0 0) (h : fX12_how sO x1 = some out) : zG C 2 [0] 0 0 [wX12 (zcT C) aO sO] 0 [(0, .ref (aO 0)), (1, .int x1)] [] := by
  unfold fX12_how at h
  refine z_aload_n X dX12_how_0 0 rfl ?_
  refine z_get (v := .ref (aO 40)) X 0 0 13 39 ziX12 rfl (by decide) zw1375 rfl dX12_how_1 rfl rfl rfl ?_
  refine z_iload_n X dX12_how_4 1 rfl ?_
  obtain ⟨g5, h⟩ := zgd_of h
  refine z_iald X 0 25 g5 dX12_how_5 rfl rfl ?_
  refine z_if_ge (tgt := 12) X dX12_how_6 (by decide) (fun c6 => ?_) (fun c6 => ?_)
  · replace h := zif_t h c6
    refine z_aload_n X dX12_how_12 0 rfl ?_
    refine z_get (v := .ref (aO 40)) X 0 0 13 39 ziX12 rfl (by decide) zw1375 rfl dX12_how_13 rfl rfl rfl ?_
    refine z_iload_n X dX12_how_16 1 rfl ?_
    obtain ⟨g17, h⟩ := zgd_of h
    refine z_iald X 0 25 g17 dX12_how_17 rfl rfl ?_
    refine z_aload_n X dX12_how_18 0 rfl ?_
    refine z_get (v := .int (zgi sO 10)) X 0 0 13 10 ziX12 rfl (by decide) zw1346 rfl dX12_how_19 rfl rfl rfl ?_
    refine z_icmp_ne (tgt := 35) X dX12_how_22 (by decide) (fun c22 => ?_) (fun c22 => ?_)
    · replace h := zif_f h c22
      exact z_at (pc2 := 35) (lv2 := []) (st2 := []) (ws2 := [wX12 (zcT C) aO sO]) rfl rfl rfl [] rfl (bX12_how_35 X hQ  h)
    · replace h := zif_t h c22
      refine z_aload_n X dX12_how_25 0 rfl ?_
      refine z_iload_n X dX12_how_26 1 rfl ?_
      obtain ⟨o27, ho27, h⟩ := zbind_of h
      refine z_callVi (st := []) (ws2 := [wX12 (zcT C) aO sO]) X (metX12_breaks (zcl C) (zcD C) (zcT C) aO ho27) zmX12_breaks zw1968 dX12_how_27 0 0 13 rfl rfl rfl rfl [0] rfl rfl [] rfl (by decide) trivial rfl rfl rfl (Nat.le_of_ble_eq_true rfl) rfl rfl ⟨Nat.le_of_ble_eq_true rfl, Nat.le_of_ble_eq_true rfl⟩ ⟨Nat.le_of_ble_eq_true rfl, Nat.le_of_ble_eq_true rfl⟩ ?_
      refine z_bipush (v := (100 : Int32)) X dX12_how_30 rfl ?_
      refine z_icmp_ge (tgt := 38) X dX12_how_32 (by decide) (fun c32 => ?_) (fun c32 => ?_)
      · replace h := zif_t h c32
        refine z_aload_n X dX12_how_38 0 rfl ?_
        obtain ⟨o39, ho39, h⟩ := zbind_of h
        refine z_callVv (st := []) (ws2 := [wX12 (zcT C) aO o39]) X (metX12_looksNow (zcl C) (zcD C) (zcT C) aO ho39) zmX12_looksNow zw1792 dX12_how_39 0 0 13 rfl rfl rfl rfl [0] rfl rfl [0] rfl (by decide) ⟨zsX12 , trivial⟩ rfl rfl rfl (Nat.le_of_ble_eq_true rfl) rfl rfl ⟨Nat.le_of_ble_eq_true rfl, Nat.le_of_ble_eq_true rfl⟩ ⟨Nat.le_of_ble_eq_true rfl, Nat.le_of_ble_eq_true rfl⟩ ?_
        refine z_aload_n X dX12_how_42 0 rfl ?_
        refine z_get (v := .int (zgi o39 36)) X 0 0 13 36 ziX12 rfl (by decide) zw1372 rfl dX12_how_43 rfl rfl rfl ?_
        refine z_bipush (v := (111 : Int32)) X dX12_how_46 rfl ?_
        refine z_icmp_ne (tgt := 64) X dX12_how_48 (by decide) (fun c48 => ?_) (fun c48 => ?_)
        · replace h := zif_f h c48
          exact z_at (pc2 := 64) (lv2 := []) (st2 := []) (ws2 := [wX12 (zcT C) aO o39]) rfl rfl rfl [] rfl (bX12_how_64 X hQ  h)
        · replace h := zif_t h c48
          refine z_aload_n X dX12_how_51 0 rfl ?_
          refine z_iload_n X dX12_how_52 1 rfl ?_
          obtain ⟨o53, ho53, h⟩ := zbind_of h
          refine z_callVi (st := []) (ws2 := [wX12 (zcT C) aO o39]) X (metX12_isBest (zcl C) (zcD C) (zcT C) aO ho53) zmX12_isBest zw1972 dX12_how_53 0 0 13 rfl rfl rfl rfl [0] rfl rfl [] rfl (by decide) trivial rfl rfl rfl (Nat.le_of_ble_eq_true rfl) rfl rfl ⟨Nat.le_of_ble_eq_true rfl, Nat.le_of_ble_eq_true rfl⟩ ⟨Nat.le_of_ble_eq_true rfl, Nat.le_of_ble_eq_true rfl⟩ ?_
          refine z_if_eq (tgt := 64) X dX12_how_56 (by decide) (fun c56 => ?_) (fun c56 => ?_)
          · replace h := zif_t h c56
            exact z_at (pc2 := 64) (lv2 := []) (st2 := []) (ws2 := [wX12 (zcT C) aO o39]) rfl rfl rfl [] rfl (bX12_how_64 X hQ  h)
          · replace h := zif_f h c56
            refine z_bipush (v := (98 : Int32)) X dX12_how_59 rfl ?_
            refine z_goto (tgt := 66) X dX12_how_61 (by decide) ?_
            exact z_at (pc2 := 66) (lv2 := []) (st2 := [.int (98 : Int32)]) (ws2 := [wX12 (zcT C) aO o39]) rfl rfl rfl [] rfl (bX12_how_66 X hQ  h)
      · replace h := zif_f h c32
        exact z_at (pc2 := 35) (lv2 := []) (st2 := []) (ws2 := [wX12 (zcT C) aO sO]) rfl rfl rfl [] rfl (bX12_how_35 X hQ  h)
  · replace h := zif_f h c6
    refine z_bipush (v := (45 : Int32)) X dX12_how_9 rfl ?_
    cases h
    exact z_nret X hQ rfl dX12_how_11 rfl [0] rfl (by decide) (by decide)
theorem metX12_how (l : Launch) (D : va_G) (T : Nat → ClassId) (aO : Nat → Nat) {sO : zSt} {x1 : Int32} {out : Int32 × zSt} (hf : fX12_how sO x1 = some out) (sz : Nat) : Met l yX12_how (zws yX12_how cX12_how 2 (some .char)) rmX12_how (zPc D T [.ref (aO 0), .int x1] [wX12 T aO sO] sz) (zQi D out.1 [wX12 T aO out.2] (zA [wX12 T aO sO] sz)) 0 0 (zA [wX12 T aO sO] sz) :=
  zMet (D := D) (T := T) (av := [.ref (aO 0), .int x1]) (ws := fun T => [wX12 T aO sO]) (wm := fun T => [wX12 T aO sO]) (lv0 := [(0, .ref (aO 0)), (1, .int x1)]) [0] (Qc := fun D T A => zQi D out.1 [wX12 T aO out.2] A) (by decide +kernel) rfl (Nat.le_of_ble_eq_true rfl) rfl (fun C X hQ => bX12_how_0 X hQ hf) sz
/-- public char keep(int); of TableaufloorModel -/
abbrev rmX12_keep : Room := { frames := 7, cells := 0, slots := 0, locals := 168 }
def fX12_keep_57 : Nat → zSt → Int32 → Int32 → Int32 → Option (Int32 × zSt)
  | 0, _, _, _, _ => none
  | n + 1, sO, x1, x2, x3 =>
    (if (3 : Int32) ≤ x3 then
      (if zin (zgi sO 35) 600 = true then
        (if zin x1 4 = true then
        (zlet (zsb sO 38 (vp_updL (zgb sO 38) (x1).toNatClampNeg (zgb sO 22 ((zgi sO 35)).toNatClampNeg))) (fun sO105 =>
        (if zin x1 4 = true then
        (zlet (zsa sO105 39 (upd (zga sO105 39) (x1).toNatClampNeg (zgi sO105 10))) (fun sO115 =>
        (if znar .char x2 = true then
        some (x2, sO115) else none))) else none))) else none) else none)
    else
      (if zin (((3 : Int32) * (zgi sO 35)) + x3) 1800 = true then
        (if zin (((3 : Int32) * x1) + x3) 12 = true then
        (zlet (zsb sO 37 (vp_updL (zgb sO 37) ((((3 : Int32) * x1) + x3)).toNatClampNeg (zgb sO 21 ((((3 : Int32) * (zgi sO 35)) + x3)).toNatClampNeg))) (fun sO84 =>
        (zlet (x3 + 1) (fun v85 =>
        (fX12_keep_57 n sO84 x1 x2 v85))))) else none) else none))
def fX12_keep_32 (sO : zSt) (x1 : Int32) (y1 : Int32) : Option (Int32 × zSt) :=
  (zlet (zsi sO 9 y1) (fun sO32 =>
    (if (zgi sO32 9) ≤ 0 then
    ((fX12_how sO32 x1).bind (fun o47 =>
      ((fX12_looksNow o47.2).bind (fun o52 =>
      (fX12_keep_57 6000 o52 x1 o47.1 (0 : Int32))))))
  else
    some ((32 : Int32), sO32))))
def fX12_keep (sO : zSt) (x1 : Int32) : Option (Int32 × zSt) :=
  ((fX12_looksNow sO).bind (fun o1 =>
    ((fX12_in x1 (0 : Int32) (3 : Int32)).bind (fun o8 =>
    (if o8 = 0 then
    (fX12_keep_32 o1 x1 (1 : Int32))
  else
    (if (zgi o1 36) = (111 : Int32) then
      (fX12_keep_32 o1 x1 (0 : Int32))
    else
      (fX12_keep_32 o1 x1 (2 : Int32))))))))
theorem bX12_keep_57 {C : zCtx} (X : zFx C cX12_keep 4 RX12 rmX12_keep (some .char)) {aO : Nat → Nat} {out : Int32 × zSt} (hQ : zHi C out.1 [wX12 (zcT C) aO out.2] 0 0) : ∀ (n : Nat) (sO : zSt) (x1 : Int32) (x2 : Int32) (x3 : Int32), fX12_keep_57 n sO x1 x2 x3 = some out → zG C 4 [0] 0 0 [wX12 (zcT C) aO sO] 57 [(0, .ref (aO 0)), (1, .int x1), (2, .int x2), (3, .int x3)] [] := by
  intro n
  induction n with
  | zero =>
    intro sO x1 x2 x3 h
    rw [fX12_keep_57] at h
    exact zno h
  | succ n ih =>
    intro sO x1 x2 x3 h
    rw [fX12_keep_57] at h
    refine z_iload_n X dX12_keep_57 3 rfl ?_
    refine z_iconst (v := (3 : Int32)) X dX12_keep_58 rfl ?_
    refine z_icmp_ge (tgt := 91) X dX12_keep_59 (by decide) (fun c59 => ?_) (fun c59 => ?_)
    · replace h := zif_t h c59
      refine z_aload_n X dX12_keep_91 0 rfl ?_
      refine z_get (v := .ref (aO 39)) X 0 0 13 38 ziX12 rfl (by decide) zw1374 rfl dX12_keep_92 rfl rfl rfl ?_
      refine z_iload_n X dX12_keep_95 1 rfl ?_
      refine z_aload_n X dX12_keep_96 0 rfl ?_
      refine z_get (v := .ref (aO 23)) X 0 0 13 22 ziX12 rfl (by decide) zw1358 rfl dX12_keep_97 rfl rfl rfl ?_
      refine z_aload_n X dX12_keep_100 0 rfl ?_
      refine z_get (v := .int (zgi sO 35)) X 0 0 13 35 ziX12 rfl (by decide) zw1371 rfl dX12_keep_101 rfl rfl rfl ?_
      obtain ⟨g104, h⟩ := zgd_of h
      refine z_lald X 0 14 g104 dX12_keep_104 rfl rfl ?_
      obtain ⟨g105, h⟩ := zgd_of h
      obtain ⟨sO105, esO105, h⟩ := zlet_of h
      refine z_last (ws2 := [wX12 (zcT C) aO sO105]) X 0 24 g105 dX12_keep_105 rfl rfl (by decide) (w2 := wX12 (zcT C) aO sO105) (by rw [esO105]; rfl) rfl ?_
      refine z_aload_n X dX12_keep_106 0 rfl ?_
      refine z_get (v := .ref (aO 40)) X 0 0 13 39 ziX12 rfl (by decide) zw1375 rfl dX12_keep_107 rfl rfl rfl ?_
      refine z_iload_n X dX12_keep_110 1 rfl ?_
      refine z_aload_n X dX12_keep_111 0 rfl ?_
      refine z_get (v := .int (zgi sO105 10)) X 0 0 13 10 ziX12 rfl (by decide) zw1346 rfl dX12_keep_112 rfl rfl rfl ?_
      obtain ⟨g115, h⟩ := zgd_of h
      obtain ⟨sO115, esO115, h⟩ := zlet_of h
      refine z_iast (ws2 := [wX12 (zcT C) aO sO115]) X 0 25 g115 dX12_keep_115 rfl rfl (by decide) (w2 := wX12 (zcT C) aO sO115) (by rw [esO115]; rfl) rfl ?_
      refine z_iload_n X dX12_keep_116 2 rfl ?_
      obtain ⟨g117, h⟩ := zgd_of h
      cases h
      exact z_nret X hQ g117 dX12_keep_117 rfl [0] rfl (by decide) (by decide)
    · replace h := zif_f h c59
      refine z_aload_n X dX12_keep_62 0 rfl ?_
      refine z_get (v := .ref (aO 38)) X 0 0 13 37 ziX12 rfl (by decide) zw1373 rfl dX12_keep_63 rfl rfl rfl ?_
      refine z_iconst (v := (3 : Int32)) X dX12_keep_66 rfl ?_
      refine z_iload_n X dX12_keep_67 1 rfl ?_
      refine z_imul X dX12_keep_68 ?_
      refine z_iload_n X dX12_keep_69 3 rfl ?_
      refine z_iadd X dX12_keep_70 ?_
      refine z_aload_n X dX12_keep_71 0 rfl ?_
      refine z_get (v := .ref (aO 22)) X 0 0 13 21 ziX12 rfl (by decide) zw1357 rfl dX12_keep_72 rfl rfl rfl ?_
      refine z_iconst (v := (3 : Int32)) X dX12_keep_75 rfl ?_
      refine z_aload_n X dX12_keep_76 0 rfl ?_
      refine z_get (v := .int (zgi sO 35)) X 0 0 13 35 ziX12 rfl (by decide) zw1371 rfl dX12_keep_77 rfl rfl rfl ?_
      refine z_imul X dX12_keep_80 ?_
      refine z_iload_n X dX12_keep_81 3 rfl ?_
      refine z_iadd X dX12_keep_82 ?_
      obtain ⟨g83, h⟩ := zgd_of h
      refine z_lald X 0 13 g83 dX12_keep_83 rfl rfl ?_
      obtain ⟨g84, h⟩ := zgd_of h
      obtain ⟨sO84, esO84, h⟩ := zlet_of h
      refine z_last (ws2 := [wX12 (zcT C) aO sO84]) X 0 23 g84 dX12_keep_84 rfl rfl (by decide) (w2 := wX12 (zcT C) aO sO84) (by rw [esO84]; rfl) rfl ?_
      obtain ⟨v85, ev85, h⟩ := zlet_of h
      refine z_iinc (v := v85) (lv2 := [(3, .int v85), (0, .ref (aO 0)), (1, .int x1), (2, .int x2)]) X dX12_keep_85 (k := 3) rfl (by rw [ev85]; rfl) (by decide) rfl ?_
      refine z_goto (tgt := 57) X dX12_keep_88 (by decide) ?_
      exact z_at (pc2 := 57) (lv2 := [(0, .ref (aO 0)), (1, .int x1), (2, .int x2), (3, .int v85)]) (st2 := []) (ws2 := [wX12 (zcT C) aO sO84]) rfl rfl rfl [1, 2, 3, 0] rfl (ih sO84 x1 x2 v85 h)
theorem bX12_keep_32 {C : zCtx} (X : zFx C cX12_keep 4 RX12 rmX12_keep (some .char)) {aO : Nat → Nat} {sO : zSt} {x1 : Int32} {y1 : Int32} {out : Int32 × zSt} (hQ : zHi C out.1 [wX12 (zcT C) aO out.2] 0 0) (h : fX12_keep_32 sO x1 y1 = some out) : zG C 4 [0] 0 0 [wX12 (zcT C) aO sO] 32 [(0, .ref (aO 0)), (1, .int x1)] [.int y1, .ref (aO 0)] := by
  unfold fX12_keep_32 at h
  obtain ⟨sO32, esO32, h⟩ := zlet_of h
  refine z_put (ws2 := [wX12 (zcT C) aO sO32]) X 0 0 13 9 ziX12 rfl tyX12 tyX12_ok nmX12 (by decide) zw1345 rfl rfl (ty := .int) (by decide +kernel) rfl rfl (by show 9 < 40; decide) dX12_keep_32 rfl rfl (by decide) (w2 := wX12 (zcT C) aO sO32) (by rw [esO32]; rfl) rfl ?_
  refine z_aload_n X dX12_keep_35 0 rfl ?_
  refine z_get (v := .int (zgi sO32 9)) X 0 0 13 9 ziX12 rfl (by decide) zw1345 rfl dX12_keep_36 rfl rfl rfl ?_
  refine z_if_le (tgt := 45) X dX12_keep_39 (by decide) (fun c39 => ?_) (fun c39 => ?_)
  · replace h := zif_t h c39
    refine z_aload_n X dX12_keep_45 0 rfl ?_
    refine z_iload_n X dX12_keep_46 1 rfl ?_
    obtain ⟨o47, ho47, h⟩ := zbind_of h
    refine z_callVi (st := []) (ws2 := [wX12 (zcT C) aO o47.2]) X (metX12_how (zcl C) (zcD C) (zcT C) aO ho47) zmX12_how zw1964 dX12_keep_47 0 0 13 rfl rfl rfl rfl [0] rfl rfl [0] rfl (by decide) ⟨zsX12 , trivial⟩ rfl rfl rfl (Nat.le_of_ble_eq_true rfl) rfl rfl ⟨Nat.le_of_ble_eq_true rfl, Nat.le_of_ble_eq_true rfl⟩ ⟨Nat.le_of_ble_eq_true rfl, Nat.le_of_ble_eq_true rfl⟩ ?_
    refine z_istore_n (lv2 := [(2, .int o47.1), (0, .ref (aO 0)), (1, .int x1)]) X dX12_keep_50 rfl (by decide) rfl ?_
    refine z_aload_n X dX12_keep_51 1 rfl ?_
    obtain ⟨o52, ho52, h⟩ := zbind_of h
    refine z_callVv (st := []) (ws2 := [wX12 (zcT C) aO o52]) X (metX12_looksNow (zcl C) (zcD C) (zcT C) aO ho52) zmX12_looksNow zw1792 dX12_keep_52 0 0 13 rfl rfl rfl rfl [0] rfl rfl [0] rfl (by decide) ⟨zsX12 , trivial⟩ rfl rfl rfl (Nat.le_of_ble_eq_true rfl) rfl rfl ⟨Nat.le_of_ble_eq_true rfl, Nat.le_of_ble_eq_true rfl⟩ ⟨Nat.le_of_ble_eq_true rfl, Nat.le_of_ble_eq_true rfl⟩ ?_
    refine z_iconst (v := (0 : Int32)) X dX12_keep_55 rfl ?_
    refine z_istore_n (lv2 := [(3, .int (0 : Int32)), (2, .int o47.1), (0, .ref (aO 0)), (1, .int x1)]) X dX12_keep_56 rfl (by decide) rfl ?_
    exact z_at (pc2 := 57) (lv2 := [(0, .ref (aO 0)), (1, .int x1), (2, .int o47.1), (3, .int (0 : Int32))]) (st2 := []) (ws2 := [wX12 (zcT C) aO o52]) rfl rfl rfl [2, 3, 1, 0] rfl (bX12_keep_57 X hQ  6000 o52 x1 o47.1 (0 : Int32) h)
  · replace h := zif_f h c39
    refine z_bipush (v := (32 : Int32)) X dX12_keep_42 rfl ?_
    cases h
    exact z_nret X hQ rfl dX12_keep_44 rfl [0] rfl (by decide) (by decide)
theorem bX12_keep_0 {C : zCtx} (X : zFx C cX12_keep 4 RX12 rmX12_keep (some .char)) {aO : Nat → Nat} {sO : zSt} {x1 : Int32} {out : Int32 × zSt} (hQ : zHi C out.1 [wX12 (zcT C) aO out.2] 0 0) (h : fX12_keep sO x1 = some out) : zG C 4 [0] 0 0 [wX12 (zcT C) aO sO] 0 [(0, .ref (aO 0)), (1, .int x1)] [] := by
  unfold fX12_keep at h
  refine z_aload_n X dX12_keep_0 0 rfl ?_
  obtain ⟨o1, ho1, h⟩ := zbind_of h
  refine z_callVv (st := []) (ws2 := [wX12 (zcT C) aO o1]) X (metX12_looksNow (zcl C) (zcD C) (zcT C) aO ho1) zmX12_looksNow zw1792 dX12_keep_1 0 0 13 rfl rfl rfl rfl [0] rfl rfl [0] rfl (by decide) ⟨zsX12 , trivial⟩ rfl rfl rfl (Nat.le_of_ble_eq_true rfl) rfl rfl ⟨Nat.le_of_ble_eq_true rfl, Nat.le_of_ble_eq_true rfl⟩ ⟨Nat.le_of_ble_eq_true rfl, Nat.le_of_ble_eq_true rfl⟩ ?_
  refine z_aload_n X dX12_keep_4 0 rfl ?_
  refine z_iload_n X dX12_keep_5 1 rfl ?_
  refine z_iconst (v := (0 : Int32)) X dX12_keep_6 rfl ?_
  refine z_iconst (v := (3 : Int32)) X dX12_keep_7 rfl ?_
  obtain ⟨o8, ho8, h⟩ := zbind_of h
  refine z_callSi (st := [.ref (aO 0)]) (ws2 := [wX12 (zcT C) aO o1]) X (metX12_in (zcl C) (zcD C) (zcT C)  ho8) zmX12_in zw1465 dX12_keep_8 [] rfl rfl [] rfl (by decide) trivial rfl rfl rfl (Nat.le_of_ble_eq_true rfl) rfl rfl ⟨Nat.le_of_ble_eq_true rfl, Nat.le_of_ble_eq_true rfl⟩ ⟨Nat.le_of_ble_eq_true rfl, Nat.le_of_ble_eq_true rfl⟩ ?_
  refine z_if_ne (tgt := 18) X dX12_keep_11 (by decide) (fun c11 => ?_) (fun c11 => ?_)
  · replace h := zif_f h c11
    refine z_aload_n X dX12_keep_18 0 rfl ?_
    refine z_get (v := .int (zgi o1 36)) X 0 0 13 36 ziX12 rfl (by decide) zw1372 rfl dX12_keep_19 rfl rfl rfl ?_
    refine z_bipush (v := (111 : Int32)) X dX12_keep_22 rfl ?_
    refine z_icmp_eq (tgt := 31) X dX12_keep_24 (by decide) (fun c24 => ?_) (fun c24 => ?_)
    · replace h := zif_t h c24
      refine z_iconst (v := (0 : Int32)) X dX12_keep_31 rfl ?_
      exact z_at (pc2 := 32) (lv2 := [(0, .ref (aO 0)), (1, .int x1)]) (st2 := [.int (0 : Int32), .ref (aO 0)]) (ws2 := [wX12 (zcT C) aO o1]) rfl rfl rfl [0, 1] rfl (bX12_keep_32 X hQ  h)
    · replace h := zif_f h c24
      refine z_iconst (v := (2 : Int32)) X dX12_keep_27 rfl ?_
      refine z_goto (tgt := 32) X dX12_keep_28 (by decide) ?_
      exact z_at (pc2 := 32) (lv2 := [(0, .ref (aO 0)), (1, .int x1)]) (st2 := [.int (2 : Int32), .ref (aO 0)]) (ws2 := [wX12 (zcT C) aO o1]) rfl rfl rfl [0, 1] rfl (bX12_keep_32 X hQ  h)
  · replace h := zif_t h c11
    refine z_iconst (v := (1 : Int32)) X dX12_keep_14 rfl ?_
    refine z_goto (tgt := 32) X dX12_keep_15 (by decide) ?_
    exact z_at (pc2 := 32) (lv2 := [(0, .ref (aO 0)), (1, .int x1)]) (st2 := [.int (1 : Int32), .ref (aO 0)]) (ws2 := [wX12 (zcT C) aO o1]) rfl rfl rfl [0, 1] rfl (bX12_keep_32 X hQ  h)
theorem metX12_keep (l : Launch) (D : va_G) (T : Nat → ClassId) (aO : Nat → Nat) {sO : zSt} {x1 : Int32} {out : Int32 × zSt} (hf : fX12_keep sO x1 = some out) (sz : Nat) : Met l yX12_keep (zws yX12_keep cX12_keep 4 (some .char)) rmX12_keep (zPc D T [.ref (aO 0), .int x1] [wX12 T aO sO] sz) (zQi D out.1 [wX12 T aO out.2] (zA [wX12 T aO sO] sz)) 0 0 (zA [wX12 T aO sO] sz) :=
  zMet (D := D) (T := T) (av := [.ref (aO 0), .int x1]) (ws := fun T => [wX12 T aO sO]) (wm := fun T => [wX12 T aO sO]) (lv0 := [(0, .ref (aO 0)), (1, .int x1)]) [0] (Qc := fun D T A => zQi D out.1 [wX12 T aO out.2] A) (by decide +kernel) rfl (Nat.le_of_ble_eq_true rfl) rfl (fun C X hQ => bX12_keep_0 X hQ hf) sz
/-- public char kept(int); of TableaufloorModel -/
abbrev rmX12_kept : Room := { frames := 7, cells := 0, slots := 0, locals := 168 }
def fX12_kept_23 (sO : zSt) (y0 : Int32) : Option (Int32 × zSt) :=
  (if znar .char y0 = true then
    some (y0, sO) else none)
def fX12_kept (sO : zSt) (x1 : Int32) : Option (Int32 × zSt) :=
  ((fX12_in x1 (0 : Int32) (3 : Int32)).bind (fun o4 =>
    ((fX12_checked sO o4).bind (fun o7 =>
    (if o7.1 ≤ 0 then
    ((fX12_how o7.2 x1).bind (fun o20 =>
      (fX12_kept_23 o20.2 o20.1)))
  else
    (fX12_kept_23 o7.2 (32 : Int32)))))))
theorem bX12_kept_23 {C : zCtx} (X : zFx C cX12_kept 2 RX12 rmX12_kept (some .char)) {aO : Nat → Nat} {sO : zSt} {y0 : Int32} {out : Int32 × zSt} (hQ : zHi C out.1 [wX12 (zcT C) aO out.2] 0 0) (h : fX12_kept_23 sO y0 = some out) : zG C 2 [0] 0 0 [wX12 (zcT C) aO sO] 23 [] [.int y0] := by
  unfold fX12_kept_23 at h
  obtain ⟨g23, h⟩ := zgd_of h
  cases h
  exact z_nret X hQ g23 dX12_kept_23 rfl [0] rfl (by decide) (by decide)
theorem bX12_kept_0 {C : zCtx} (X : zFx C cX12_kept 2 RX12 rmX12_kept (some .char)) {aO : Nat → Nat} {sO : zSt} {x1 : Int32} {out : Int32 × zSt} (hQ : zHi C out.1 [wX12 (zcT C) aO out.2] 0 0) (h : fX12_kept sO x1 = some out) : zG C 2 [0] 0 0 [wX12 (zcT C) aO sO] 0 [(0, .ref (aO 0)), (1, .int x1)] [] := by
  unfold fX12_kept at h
  refine z_aload_n X dX12_kept_0 0 rfl ?_
  refine z_iload_n X dX12_kept_1 1 rfl ?_
  refine z_iconst (v := (0 : Int32)) X dX12_kept_2 rfl ?_
  refine z_iconst (v := (3 : Int32)) X dX12_kept_3 rfl ?_
  obtain ⟨o4, ho4, h⟩ := zbind_of h
  refine z_callSi (st := [.ref (aO 0)]) (ws2 := [wX12 (zcT C) aO sO]) X (metX12_in (zcl C) (zcD C) (zcT C)  ho4) zmX12_in zw1465 dX12_kept_4 [] rfl rfl [] rfl (by decide) trivial rfl rfl rfl (Nat.le_of_ble_eq_true rfl) rfl rfl ⟨Nat.le_of_ble_eq_true rfl, Nat.le_of_ble_eq_true rfl⟩ ⟨Nat.le_of_ble_eq_true rfl, Nat.le_of_ble_eq_true rfl⟩ ?_
  obtain ⟨o7, ho7, h⟩ := zbind_of h
  refine z_callVi (st := []) (ws2 := [wX12 (zcT C) aO o7.2]) X (metX12_checked (zcl C) (zcD C) (zcT C) aO ho7) zmX12_checked zw1550 dX12_kept_7 0 0 13 rfl rfl rfl rfl [0] rfl rfl [0] rfl (by decide) ⟨zsX12 , trivial⟩ rfl rfl rfl (Nat.le_of_ble_eq_true rfl) rfl rfl ⟨Nat.le_of_ble_eq_true rfl, Nat.le_of_ble_eq_true rfl⟩ ⟨Nat.le_of_ble_eq_true rfl, Nat.le_of_ble_eq_true rfl⟩ ?_
  refine z_if_le (tgt := 18) X dX12_kept_10 (by decide) (fun c10 => ?_) (fun c10 => ?_)
  · replace h := zif_t h c10
    refine z_aload_n X dX12_kept_18 0 rfl ?_
    refine z_iload_n X dX12_kept_19 1 rfl ?_
    obtain ⟨o20, ho20, h⟩ := zbind_of h
    refine z_callVi (st := []) (ws2 := [wX12 (zcT C) aO o20.2]) X (metX12_how (zcl C) (zcD C) (zcT C) aO ho20) zmX12_how zw1964 dX12_kept_20 0 0 13 rfl rfl rfl rfl [0] rfl rfl [0] rfl (by decide) ⟨zsX12 , trivial⟩ rfl rfl rfl (Nat.le_of_ble_eq_true rfl) rfl rfl ⟨Nat.le_of_ble_eq_true rfl, Nat.le_of_ble_eq_true rfl⟩ ⟨Nat.le_of_ble_eq_true rfl, Nat.le_of_ble_eq_true rfl⟩ ?_
    exact z_at (pc2 := 23) (lv2 := []) (st2 := [.int o20.1]) (ws2 := [wX12 (zcT C) aO o20.2]) rfl rfl rfl [] rfl (bX12_kept_23 X hQ  h)
  · replace h := zif_f h c10
    refine z_bipush (v := (32 : Int32)) X dX12_kept_13 rfl ?_
    refine z_goto (tgt := 23) X dX12_kept_15 (by decide) ?_
    exact z_at (pc2 := 23) (lv2 := []) (st2 := [.int (32 : Int32)]) (ws2 := [wX12 (zcT C) aO o7.2]) rfl rfl rfl [] rfl (bX12_kept_23 X hQ  h)
theorem metX12_kept (l : Launch) (D : va_G) (T : Nat → ClassId) (aO : Nat → Nat) {sO : zSt} {x1 : Int32} {out : Int32 × zSt} (hf : fX12_kept sO x1 = some out) (sz : Nat) : Met l yX12_kept (zws yX12_kept cX12_kept 2 (some .char)) rmX12_kept (zPc D T [.ref (aO 0), .int x1] [wX12 T aO sO] sz) (zQi D out.1 [wX12 T aO out.2] (zA [wX12 T aO sO] sz)) 0 0 (zA [wX12 T aO sO] sz) :=
  zMet (D := D) (T := T) (av := [.ref (aO 0), .int x1]) (ws := fun T => [wX12 T aO sO]) (wm := fun T => [wX12 T aO sO]) (lv0 := [(0, .ref (aO 0)), (1, .int x1)]) [0] (Qc := fun D T A => zQi D out.1 [wX12 T aO out.2] A) (by decide +kernel) rfl (Nat.le_of_ble_eq_true rfl) rfl (fun C X hQ => bX12_kept_0 X hQ hf) sz
