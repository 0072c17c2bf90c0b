/-- private long determinant(int, int, int, int); of TableaufloorModel -/
abbrev rmX12_determinant : Room := { frames := 0, cells := 0, slots := 0, locals := 0 }
def fX12_determinant_232 (sO : zSt) (x5 : Int64) (x7 : Int64) (x9 : Int64) (x11 : Int64) (x13 : Int64) (x15 : Int64) (x17 : Int64) (x19 : Int64) (y0 : Int64) : Option (Int64) :=
  some ((((x5 * ((x13 * y0) - (x15 * x19))) - (x7 * ((x11 * y0) - (x15 * x17)))) + (x9 * ((x11 * x19) - (x13 * x17)))))
def fX12_determinant_205 (sO : zSt) (x3 : Int32) (x4 : Int32) (x5 : Int64) (x7 : Int64) (x9 : Int64) (x11 : Int64) (x13 : Int64) (x15 : Int64) (x17 : Int64) (y0 : Int64) : Option (Int64) :=
  (if x4 = (2 : Int32) then
    (if zin x3 16 = true then
      (fX12_determinant_232 sO x5 x7 x9 x11 x13 x15 x17 y0 (zgb sO 20 (x3).toNatClampNeg)) else none)
  else
    (if zin (((3 : Int32) * x3) + (2 : Int32)) 48 = true then
      (fX12_determinant_232 sO x5 x7 x9 x11 x13 x15 x17 y0 (zgb sO 19 ((((3 : Int32) * x3) + (2 : Int32))).toNatClampNeg)) else none))
def fX12_determinant_178 (sO : zSt) (x3 : Int32) (x4 : Int32) (x5 : Int64) (x7 : Int64) (x9 : Int64) (x11 : Int64) (x13 : Int64) (x15 : Int64) (y0 : Int64) : Option (Int64) :=
  (if x4 = (1 : Int32) then
    (if zin x3 16 = true then
      (fX12_determinant_205 sO x3 x4 x5 x7 x9 x11 x13 x15 y0 (zgb sO 20 (x3).toNatClampNeg)) else none)
  else
    (if zin (((3 : Int32) * x3) + (1 : Int32)) 48 = true then
      (fX12_determinant_205 sO x3 x4 x5 x7 x9 x11 x13 x15 y0 (zgb sO 19 ((((3 : Int32) * x3) + (1 : Int32))).toNatClampNeg)) else none))
def fX12_determinant_154 (sO : zSt) (x3 : Int32) (x4 : Int32) (x5 : Int64) (x7 : Int64) (x9 : Int64) (x11 : Int64) (x13 : Int64) (y0 : Int64) : Option (Int64) :=
  (if x4 = 0 then
    (if zin x3 16 = true then
      (fX12_determinant_178 sO x3 x4 x5 x7 x9 x11 x13 y0 (zgb sO 20 (x3).toNatClampNeg)) else none)
  else
    (if zin ((3 : Int32) * x3) 48 = true then
      (fX12_determinant_178 sO x3 x4 x5 x7 x9 x11 x13 y0 (zgb sO 19 (((3 : Int32) * x3)).toNatClampNeg)) else none))
def fX12_determinant_127 (sO : zSt) (x2 : Int32) (x3 : Int32) (x4 : Int32) (x5 : Int64) (x7 : Int64) (x9 : Int64) (x11 : Int64) (y0 : Int64) : Option (Int64) :=
  (if x4 = (2 : Int32) then
    (if zin x2 16 = true then
      (fX12_determinant_154 sO x3 x4 x5 x7 x9 x11 y0 (zgb sO 20 (x2).toNatClampNeg)) else none)
  else
    (if zin (((3 : Int32) * x2) + (2 : Int32)) 48 = true then
      (fX12_determinant_154 sO x3 x4 x5 x7 x9 x11 y0 (zgb sO 19 ((((3 : Int32) * x2) + (2 : Int32))).toNatClampNeg)) else none))
def fX12_determinant_100 (sO : zSt) (x2 : Int32) (x3 : Int32) (x4 : Int32) (x5 : Int64) (x7 : Int64) (x9 : Int64) (y0 : Int64) : Option (Int64) :=
  (if x4 = (1 : Int32) then
    (if zin x2 16 = true then
      (fX12_determinant_127 sO x2 x3 x4 x5 x7 x9 y0 (zgb sO 20 (x2).toNatClampNeg)) else none)
  else
    (if zin (((3 : Int32) * x2) + (1 : Int32)) 48 = true then
      (fX12_determinant_127 sO x2 x3 x4 x5 x7 x9 y0 (zgb sO 19 ((((3 : Int32) * x2) + (1 : Int32))).toNatClampNeg)) else none))
def fX12_determinant_76 (sO : zSt) (x2 : Int32) (x3 : Int32) (x4 : Int32) (x5 : Int64) (x7 : Int64) (y0 : Int64) : Option (Int64) :=
  (if x4 = 0 then
    (if zin x2 16 = true then
      (fX12_determinant_100 sO x2 x3 x4 x5 x7 y0 (zgb sO 20 (x2).toNatClampNeg)) else none)
  else
    (if zin ((3 : Int32) * x2) 48 = true then
      (fX12_determinant_100 sO x2 x3 x4 x5 x7 y0 (zgb sO 19 (((3 : Int32) * x2)).toNatClampNeg)) else none))
def fX12_determinant_49 (sO : zSt) (x1 : Int32) (x2 : Int32) (x3 : Int32) (x4 : Int32) (x5 : Int64) (y0 : Int64) : Option (Int64) :=
  (if x4 = (2 : Int32) then
    (if zin x1 16 = true then
      (fX12_determinant_76 sO x2 x3 x4 x5 y0 (zgb sO 20 (x1).toNatClampNeg)) else none)
  else
    (if zin (((3 : Int32) * x1) + (2 : Int32)) 48 = true then
      (fX12_determinant_76 sO x2 x3 x4 x5 y0 (zgb sO 19 ((((3 : Int32) * x1) + (2 : Int32))).toNatClampNeg)) else none))
def fX12_determinant_22 (sO : zSt) (x1 : Int32) (x2 : Int32) (x3 : Int32) (x4 : Int32) (y0 : Int64) : Option (Int64) :=
  (if x4 = (1 : Int32) then
    (if zin x1 16 = true then
      (fX12_determinant_49 sO x1 x2 x3 x4 y0 (zgb sO 20 (x1).toNatClampNeg)) else none)
  else
    (if zin (((3 : Int32) * x1) + (1 : Int32)) 48 = true then
      (fX12_determinant_49 sO x1 x2 x3 x4 y0 (zgb sO 19 ((((3 : Int32) * x1) + (1 : Int32))).toNatClampNeg)) else none))
def fX12_determinant (sO : zSt) (x1 : Int32) (x2 : Int32) (x3 : Int32) (x4 : Int32) : Option (Int64) :=
  (if x4 = 0 then
    (if zin x1 16 = true then
      (fX12_determinant_22 sO x1 x2 x3 x4 (zgb sO 20 (x1).toNatClampNeg)) else none)
  else
    (if zin ((3 : Int32) * x1) 48 = true then
      (fX12_determinant_22 sO x1 x2 x3 x4 (zgb sO 19 (((3 : Int32) * x1)).toNatClampNeg)) else none))
theorem bX12_determinant_232 {C : zCtx} (X : zFx C cX12_determinant 23 RX12 rmX12_determinant (some .long)) {aO : Nat → Nat} {sO : zSt} {x5 : Int64} {x7 : Int64} {x9 : Int64} {x11 : Int64} {x13 : Int64} {x15 : Int64} {x17 : Int64} {x19 : Int64} {y0 : Int64} {out : Int64} (hQ : zHl C out [] 0 0) (h : fX12_determinant_232 sO x5 x7 x9 x11 x13 x15 x17 x19 y0 = some out) : zG C 23 [] 0 0 [wX12 (zcT C) aO sO] 232 [(5, .long x5), (7, .long x7), (9, .long x9), (11, .long x11), (13, .long x13), (15, .long x15), (17, .long x17), (19, .long x19)] [.long y0] := by
  unfold fX12_determinant_232 at h
  refine z_lstore (lv2 := [(21, .long y0), (5, .long x5), (7, .long x7), (9, .long x9), (11, .long x11), (13, .long x13), (15, .long x15), (17, .long x17), (19, .long x19)]) X dX12_determinant_232 (by decide) rfl ?_
  refine z_lload X dX12_determinant_234 1 rfl ?_
  refine z_lload X dX12_determinant_236 5 rfl ?_
  refine z_lload X dX12_determinant_238 0 rfl ?_
  refine z_lmul X dX12_determinant_240 ?_
  refine z_lload X dX12_determinant_241 6 rfl ?_
  refine z_lload X dX12_determinant_243 8 rfl ?_
  refine z_lmul X dX12_determinant_245 ?_
  refine z_lsub X dX12_determinant_246 ?_
  refine z_lmul X dX12_determinant_247 ?_
  refine z_lload X dX12_determinant_248 2 rfl ?_
  refine z_lload X dX12_determinant_250 4 rfl ?_
  refine z_lload X dX12_determinant_252 0 rfl ?_
  refine z_lmul X dX12_determinant_254 ?_
  refine z_lload X dX12_determinant_255 6 rfl ?_
  refine z_lload X dX12_determinant_257 7 rfl ?_
  refine z_lmul X dX12_determinant_259 ?_
  refine z_lsub X dX12_determinant_260 ?_
  refine z_lmul X dX12_determinant_261 ?_
  refine z_lsub X dX12_determinant_262 ?_
  refine z_lload X dX12_determinant_263 3 rfl ?_
  refine z_lload X dX12_determinant_265 4 rfl ?_
  refine z_lload X dX12_determinant_267 8 rfl ?_
  refine z_lmul X dX12_determinant_269 ?_
  refine z_lload X dX12_determinant_270 5 rfl ?_
  refine z_lload X dX12_determinant_272 7 rfl ?_
  refine z_lmul X dX12_determinant_274 ?_
  refine z_lsub X dX12_determinant_275 ?_
  refine z_lmul X dX12_determinant_276 ?_
  refine z_ladd X dX12_determinant_277 ?_
  cases h
  exact z_lret X hQ dX12_determinant_278 rfl [] rfl (by decide) (by decide)
theorem bX12_determinant_205 {C : zCtx} (X : zFx C cX12_determinant 23 RX12 rmX12_determinant (some .long)) {aO : Nat → Nat} {sO : zSt} {x3 : Int32} {x4 : Int32} {x5 : Int64} {x7 : Int64} {x9 : Int64} {x11 : Int64} {x13 : Int64} {x15 : Int64} {x17 : Int64} {y0 : Int64} {out : Int64} (hQ : zHl C out [] 0 0) (h : fX12_determinant_205 sO x3 x4 x5 x7 x9 x11 x13 x15 x17 y0 = some out) : zG C 23 [] 0 0 [wX12 (zcT C) aO sO] 205 [(0, .ref (aO 0)), (3, .int x3), (4, .int x4), (5, .long x5), (7, .long x7), (9, .long x9), (11, .long x11), (13, .long x13), (15, .long x15), (17, .long x17)] [.long y0] := by
  unfold fX12_determinant_205 at h
  refine z_lstore (lv2 := [(19, .long y0), (0, .ref (aO 0)), (3, .int x3), (4, .int x4), (5, .long x5), (7, .long x7), (9, .long x9), (11, .long x11), (13, .long x13), (15, .long x15), (17, .long x17)]) X dX12_determinant_205 (by decide) rfl ?_
  refine z_iload X dX12_determinant_207 3 rfl ?_
  refine z_iconst (v := (2 : Int32)) X dX12_determinant_209 rfl ?_
  refine z_icmp_ne (tgt := 222) X dX12_determinant_210 (by decide) (fun c210 => ?_) (fun c210 => ?_)
  · replace h := zif_f h c210
    refine z_aload_n X dX12_determinant_222 1 rfl ?_
    refine z_get (v := .ref (aO 20)) X 0 0 13 19 ziX12 rfl (by decide) zw1355 rfl dX12_determinant_223 rfl rfl rfl ?_
    refine z_iconst (v := (3 : Int32)) X dX12_determinant_226 rfl ?_
    refine z_iload_n X dX12_determinant_227 2 rfl ?_
    refine z_imul X dX12_determinant_228 ?_
    refine z_iconst (v := (2 : Int32)) X dX12_determinant_229 rfl ?_
    refine z_iadd X dX12_determinant_230 ?_
    obtain ⟨g231, h⟩ := zgd_of h
    refine z_lald X 0 11 g231 dX12_determinant_231 rfl rfl ?_
    exact z_at (pc2 := 232) (lv2 := [(5, .long x5), (7, .long x7), (9, .long x9), (11, .long x11), (13, .long x13), (15, .long x15), (17, .long x17), (19, .long y0)]) (st2 := [.long (zgb sO 19 ((((3 : Int32) * x3) + (2 : Int32))).toNatClampNeg)]) (ws2 := [wX12 (zcT C) aO sO]) rfl rfl rfl [4, 5, 6, 7, 8, 9, 10, 0] rfl (bX12_determinant_232 X hQ  h)
  · replace h := zif_t h c210
    refine z_aload_n X dX12_determinant_213 1 rfl ?_
    refine z_get (v := .ref (aO 21)) X 0 0 13 20 ziX12 rfl (by decide) zw1356 rfl dX12_determinant_214 rfl rfl rfl ?_
    refine z_iload_n X dX12_determinant_217 2 rfl ?_
    obtain ⟨g218, h⟩ := zgd_of h
    refine z_lald X 0 12 g218 dX12_determinant_218 rfl rfl ?_
    refine z_goto (tgt := 232) X dX12_determinant_219 (by decide) ?_
    exact z_at (pc2 := 232) (lv2 := [(5, .long x5), (7, .long x7), (9, .long x9), (11, .long x11), (13, .long x13), (15, .long x15), (17, .long x17), (19, .long y0)]) (st2 := [.long (zgb sO 20 (x3).toNatClampNeg)]) (ws2 := [wX12 (zcT C) aO sO]) rfl rfl rfl [4, 5, 6, 7, 8, 9, 10, 0] rfl (bX12_determinant_232 X hQ  h)
theorem bX12_determinant_178 {C : zCtx} (X : zFx C cX12_determinant 23 RX12 rmX12_determinant (some .long)) {aO : Nat → Nat} {sO : zSt} {x3 : Int32} {x4 : Int32} {x5 : Int64} {x7 : Int64} {x9 : Int64} {x11 : Int64} {x13 : Int64} {x15 : Int64} {y0 : Int64} {out : Int64} (hQ : zHl C out [] 0 0) (h : fX12_determinant_178 sO x3 x4 x5 x7 x9 x11 x13 x15 y0 = some out) : zG C 23 [] 0 0 [wX12 (zcT C) aO sO] 178 [(0, .ref (aO 0)), (3, .int x3), (4, .int x4), (5, .long x5), (7, .long x7), (9, .long x9), (11, .long x11), (13, .long x13), (15, .long x15)] [.long y0] := by
  unfold fX12_determinant_178 at h
  refine z_lstore (lv2 := [(17, .long y0), (0, .ref (aO 0)), (3, .int x3), (4, .int x4), (5, .long x5), (7, .long x7), (9, .long x9), (11, .long x11), (13, .long x13), (15, .long x15)]) X dX12_determinant_178 (by decide) rfl ?_
  refine z_iload X dX12_determinant_180 3 rfl ?_
  refine z_iconst (v := (1 : Int32)) X dX12_determinant_182 rfl ?_
  refine z_icmp_ne (tgt := 195) X dX12_determinant_183 (by decide) (fun c183 => ?_) (fun c183 => ?_)
  · replace h := zif_f h c183
    refine z_aload_n X dX12_determinant_195 1 rfl ?_
    refine z_get (v := .ref (aO 20)) X 0 0 13 19 ziX12 rfl (by decide) zw1355 rfl dX12_determinant_196 rfl rfl rfl ?_
    refine z_iconst (v := (3 : Int32)) X dX12_determinant_199 rfl ?_
    refine z_iload_n X dX12_determinant_200 2 rfl ?_
    refine z_imul X dX12_determinant_201 ?_
    refine z_iconst (v := (1 : Int32)) X dX12_determinant_202 rfl ?_
    refine z_iadd X dX12_determinant_203 ?_
    obtain ⟨g204, h⟩ := zgd_of h
    refine z_lald X 0 11 g204 dX12_determinant_204 rfl rfl ?_
    exact z_at (pc2 := 205) (lv2 := [(0, .ref (aO 0)), (3, .int x3), (4, .int x4), (5, .long x5), (7, .long x7), (9, .long x9), (11, .long x11), (13, .long x13), (15, .long x15), (17, .long y0)]) (st2 := [.long (zgb sO 19 ((((3 : Int32) * x3) + (1 : Int32))).toNatClampNeg)]) (ws2 := [wX12 (zcT C) aO sO]) rfl rfl rfl [1, 2, 3, 4, 5, 6, 7, 8, 9, 0] rfl (bX12_determinant_205 X hQ  h)
  · replace h := zif_t h c183
    refine z_aload_n X dX12_determinant_186 1 rfl ?_
    refine z_get (v := .ref (aO 21)) X 0 0 13 20 ziX12 rfl (by decide) zw1356 rfl dX12_determinant_187 rfl rfl rfl ?_
    refine z_iload_n X dX12_determinant_190 2 rfl ?_
    obtain ⟨g191, h⟩ := zgd_of h
    refine z_lald X 0 12 g191 dX12_determinant_191 rfl rfl ?_
    refine z_goto (tgt := 205) X dX12_determinant_192 (by decide) ?_
    exact z_at (pc2 := 205) (lv2 := [(0, .ref (aO 0)), (3, .int x3), (4, .int x4), (5, .long x5), (7, .long x7), (9, .long x9), (11, .long x11), (13, .long x13), (15, .long x15), (17, .long y0)]) (st2 := [.long (zgb sO 20 (x3).toNatClampNeg)]) (ws2 := [wX12 (zcT C) aO sO]) rfl rfl rfl [1, 2, 3, 4, 5, 6, 7, 8, 9, 0] rfl (bX12_determinant_205 X hQ  h)
theorem bX12_determinant_154 {C : zCtx} (X : zFx C cX12_determinant 23 RX12 rmX12_determinant (some .long)) {aO : Nat → Nat} {sO : zSt} {x3 : Int32} {x4 : Int32} {x5 : Int64} {x7 : Int64} {x9 : Int64} {x11 : Int64} {x13 : Int64} {y0 : Int64} {out : Int64} (hQ : zHl C out [] 0 0) (h : fX12_determinant_154 sO x3 x4 x5 x7 x9 x11 x13 y0 = some out) : zG C 23 [] 0 0 [wX12 (zcT C) aO sO] 154 [(0, .ref (aO 0)), (3, .int x3), (4, .int x4), (5, .long x5), (7, .long x7), (9, .long x9), (11, .long x11), (13, .long x13)] [.long y0] := by
  unfold fX12_determinant_154 at h
  refine z_lstore (lv2 := [(15, .long y0), (0, .ref (aO 0)), (3, .int x3), (4, .int x4), (5, .long x5), (7, .long x7), (9, .long x9), (11, .long x11), (13, .long x13)]) X dX12_determinant_154 (by decide) rfl ?_
  refine z_iload X dX12_determinant_156 3 rfl ?_
  refine z_if_ne (tgt := 170) X dX12_determinant_158 (by decide) (fun c158 => ?_) (fun c158 => ?_)
  · replace h := zif_f h c158
    refine z_aload_n X dX12_determinant_170 1 rfl ?_
    refine z_get (v := .ref (aO 20)) X 0 0 13 19 ziX12 rfl (by decide) zw1355 rfl dX12_determinant_171 rfl rfl rfl ?_
    refine z_iconst (v := (3 : Int32)) X dX12_determinant_174 rfl ?_
    refine z_iload_n X dX12_determinant_175 2 rfl ?_
    refine z_imul X dX12_determinant_176 ?_
    obtain ⟨g177, h⟩ := zgd_of h
    refine z_lald X 0 11 g177 dX12_determinant_177 rfl rfl ?_
    exact z_at (pc2 := 178) (lv2 := [(0, .ref (aO 0)), (3, .int x3), (4, .int x4), (5, .long x5), (7, .long x7), (9, .long x9), (11, .long x11), (13, .long x13), (15, .long y0)]) (st2 := [.long (zgb sO 19 (((3 : Int32) * x3)).toNatClampNeg)]) (ws2 := [wX12 (zcT C) aO sO]) rfl rfl rfl [1, 2, 3, 4, 5, 6, 7, 8, 0] rfl (bX12_determinant_178 X hQ  h)
  · replace h := zif_t h c158
    refine z_aload_n X dX12_determinant_161 1 rfl ?_
    refine z_get (v := .ref (aO 21)) X 0 0 13 20 ziX12 rfl (by decide) zw1356 rfl dX12_determinant_162 rfl rfl rfl ?_
    refine z_iload_n X dX12_determinant_165 2 rfl ?_
    obtain ⟨g166, h⟩ := zgd_of h
    refine z_lald X 0 12 g166 dX12_determinant_166 rfl rfl ?_
    refine z_goto (tgt := 178) X dX12_determinant_167 (by decide) ?_
    exact z_at (pc2 := 178) (lv2 := [(0, .ref (aO 0)), (3, .int x3), (4, .int x4), (5, .long x5), (7, .long x7), (9, .long x9), (11, .long x11), (13, .long x13), (15, .long y0)]) (st2 := [.long (zgb sO 20 (x3).toNatClampNeg)]) (ws2 := [wX12 (zcT C) aO sO]) rfl rfl rfl [1, 2, 3, 4, 5, 6, 7, 8, 0] rfl (bX12_determinant_178 X hQ  h)
theorem bX12_determinant_127 {C : zCtx} (X : zFx C cX12_determinant 23 RX12 rmX12_determinant (some .long)) {aO : Nat → Nat} {sO : zSt} {x2 : Int32} {x3 : Int32} {x4 : Int32} {x5 : Int64} {x7 : Int64} {x9 : Int64} {x11 : Int64} {y0 : Int64} {out : Int64} (hQ : zHl C out [] 0 0) (h : fX12_determinant_127 sO x2 x3 x4 x5 x7 x9 x11 y0 = some out) : zG C 23 [] 0 0 [wX12 (zcT C) aO sO] 127 [(0, .ref (aO 0)), (2, .int x2), (3, .int x3), (4, .int x4), (5, .long x5), (7, .long x7), (9, .long x9), (11, .long x11)] [.long y0] := by
  unfold fX12_determinant_127 at h
  refine z_lstore (lv2 := [(13, .long y0), (0, .ref (aO 0)), (2, .int x2), (3, .int x3), (4, .int x4), (5, .long x5), (7, .long x7), (9, .long x9), (11, .long x11)]) X dX12_determinant_127 (by decide) rfl ?_
  refine z_iload X dX12_determinant_129 4 rfl ?_
  refine z_iconst (v := (2 : Int32)) X dX12_determinant_131 rfl ?_
  refine z_icmp_ne (tgt := 144) X dX12_determinant_132 (by decide) (fun c132 => ?_) (fun c132 => ?_)
  · replace h := zif_f h c132
    refine z_aload_n X dX12_determinant_144 1 rfl ?_
    refine z_get (v := .ref (aO 20)) X 0 0 13 19 ziX12 rfl (by decide) zw1355 rfl dX12_determinant_145 rfl rfl rfl ?_
    refine z_iconst (v := (3 : Int32)) X dX12_determinant_148 rfl ?_
    refine z_iload_n X dX12_determinant_149 2 rfl ?_
    refine z_imul X dX12_determinant_150 ?_
    refine z_iconst (v := (2 : Int32)) X dX12_determinant_151 rfl ?_
    refine z_iadd X dX12_determinant_152 ?_
    obtain ⟨g153, h⟩ := zgd_of h
    refine z_lald X 0 11 g153 dX12_determinant_153 rfl rfl ?_
    exact z_at (pc2 := 154) (lv2 := [(0, .ref (aO 0)), (3, .int x3), (4, .int x4), (5, .long x5), (7, .long x7), (9, .long x9), (11, .long x11), (13, .long y0)]) (st2 := [.long (zgb sO 19 ((((3 : Int32) * x2) + (2 : Int32))).toNatClampNeg)]) (ws2 := [wX12 (zcT C) aO sO]) rfl rfl rfl [1, 3, 4, 5, 6, 7, 8, 0] rfl (bX12_determinant_154 X hQ  h)
  · replace h := zif_t h c132
    refine z_aload_n X dX12_determinant_135 1 rfl ?_
    refine z_get (v := .ref (aO 21)) X 0 0 13 20 ziX12 rfl (by decide) zw1356 rfl dX12_determinant_136 rfl rfl rfl ?_
    refine z_iload_n X dX12_determinant_139 2 rfl ?_
    obtain ⟨g140, h⟩ := zgd_of h
    refine z_lald X 0 12 g140 dX12_determinant_140 rfl rfl ?_
    refine z_goto (tgt := 154) X dX12_determinant_141 (by decide) ?_
    exact z_at (pc2 := 154) (lv2 := [(0, .ref (aO 0)), (3, .int x3), (4, .int x4), (5, .long x5), (7, .long x7), (9, .long x9), (11, .long x11), (13, .long y0)]) (st2 := [.long (zgb sO 20 (x2).toNatClampNeg)]) (ws2 := [wX12 (zcT C) aO sO]) rfl rfl rfl [1, 3, 4, 5, 6, 7, 8, 0] rfl (bX12_determinant_154 X hQ  h)
theorem bX12_determinant_100 {C : zCtx} (X : zFx C cX12_determinant 23 RX12 rmX12_determinant (some .long)) {aO : Nat → Nat} {sO : zSt} {x2 : Int32} {x3 : Int32} {x4 : Int32} {x5 : Int64} {x7 : Int64} {x9 : Int64} {y0 : Int64} {out : Int64} (hQ : zHl C out [] 0 0) (h : fX12_determinant_100 sO x2 x3 x4 x5 x7 x9 y0 = some out) : zG C 23 [] 0 0 [wX12 (zcT C) aO sO] 100 [(0, .ref (aO 0)), (2, .int x2), (3, .int x3), (4, .int x4), (5, .long x5), (7, .long x7), (9, .long x9)] [.long y0] := by
  unfold fX12_determinant_100 at h
  refine z_lstore (lv2 := [(11, .long y0), (0, .ref (aO 0)), (2, .int x2), (3, .int x3), (4, .int x4), (5, .long x5), (7, .long x7), (9, .long x9)]) X dX12_determinant_100 (by decide) rfl ?_
  refine z_iload X dX12_determinant_102 4 rfl ?_
  refine z_iconst (v := (1 : Int32)) X dX12_determinant_104 rfl ?_
  refine z_icmp_ne (tgt := 117) X dX12_determinant_105 (by decide) (fun c105 => ?_) (fun c105 => ?_)
  · replace h := zif_f h c105
    refine z_aload_n X dX12_determinant_117 1 rfl ?_
    refine z_get (v := .ref (aO 20)) X 0 0 13 19 ziX12 rfl (by decide) zw1355 rfl dX12_determinant_118 rfl rfl rfl ?_
    refine z_iconst (v := (3 : Int32)) X dX12_determinant_121 rfl ?_
    refine z_iload_n X dX12_determinant_122 2 rfl ?_
    refine z_imul X dX12_determinant_123 ?_
    refine z_iconst (v := (1 : Int32)) X dX12_determinant_124 rfl ?_
    refine z_iadd X dX12_determinant_125 ?_
    obtain ⟨g126, h⟩ := zgd_of h
    refine z_lald X 0 11 g126 dX12_determinant_126 rfl rfl ?_
    exact z_at (pc2 := 127) (lv2 := [(0, .ref (aO 0)), (2, .int x2), (3, .int x3), (4, .int x4), (5, .long x5), (7, .long x7), (9, .long x9), (11, .long y0)]) (st2 := [.long (zgb sO 19 ((((3 : Int32) * x2) + (1 : Int32))).toNatClampNeg)]) (ws2 := [wX12 (zcT C) aO sO]) rfl rfl rfl [1, 2, 3, 4, 5, 6, 7, 0] rfl (bX12_determinant_127 X hQ  h)
  · replace h := zif_t h c105
    refine z_aload_n X dX12_determinant_108 1 rfl ?_
    refine z_get (v := .ref (aO 21)) X 0 0 13 20 ziX12 rfl (by decide) zw1356 rfl dX12_determinant_109 rfl rfl rfl ?_
    refine z_iload_n X dX12_determinant_112 2 rfl ?_
    obtain ⟨g113, h⟩ := zgd_of h
    refine z_lald X 0 12 g113 dX12_determinant_113 rfl rfl ?_
    refine z_goto (tgt := 127) X dX12_determinant_114 (by decide) ?_
    exact z_at (pc2 := 127) (lv2 := [(0, .ref (aO 0)), (2, .int x2), (3, .int x3), (4, .int x4), (5, .long x5), (7, .long x7), (9, .long x9), (11, .long y0)]) (st2 := [.long (zgb sO 20 (x2).toNatClampNeg)]) (ws2 := [wX12 (zcT C) aO sO]) rfl rfl rfl [1, 2, 3, 4, 5, 6, 7, 0] rfl (bX12_determinant_127 X hQ  h)
theorem bX12_determinant_76 {C : zCtx} (X : zFx C cX12_determinant 23 RX12 rmX12_determinant (some .long)) {aO : Nat → Nat} {sO : zSt} {x2 : Int32} {x3 : Int32} {x4 : Int32} {x5 : Int64} {x7 : Int64} {y0 : Int64} {out : Int64} (hQ : zHl C out [] 0 0) (h : fX12_determinant_76 sO x2 x3 x4 x5 x7 y0 = some out) : zG C 23 [] 0 0 [wX12 (zcT C) aO sO] 76 [(0, .ref (aO 0)), (2, .int x2), (3, .int x3), (4, .int x4), (5, .long x5), (7, .long x7)] [.long y0] := by
  unfold fX12_determinant_76 at h
  refine z_lstore (lv2 := [(9, .long y0), (0, .ref (aO 0)), (2, .int x2), (3, .int x3), (4, .int x4), (5, .long x5), (7, .long x7)]) X dX12_determinant_76 (by decide) rfl ?_
  refine z_iload X dX12_determinant_78 4 rfl ?_
  refine z_if_ne (tgt := 92) X dX12_determinant_80 (by decide) (fun c80 => ?_) (fun c80 => ?_)
  · replace h := zif_f h c80
    refine z_aload_n X dX12_determinant_92 1 rfl ?_
    refine z_get (v := .ref (aO 20)) X 0 0 13 19 ziX12 rfl (by decide) zw1355 rfl dX12_determinant_93 rfl rfl rfl ?_
    refine z_iconst (v := (3 : Int32)) X dX12_determinant_96 rfl ?_
    refine z_iload_n X dX12_determinant_97 2 rfl ?_
    refine z_imul X dX12_determinant_98 ?_
    obtain ⟨g99, h⟩ := zgd_of h
    refine z_lald X 0 11 g99 dX12_determinant_99 rfl rfl ?_
    exact z_at (pc2 := 100) (lv2 := [(0, .ref (aO 0)), (2, .int x2), (3, .int x3), (4, .int x4), (5, .long x5), (7, .long x7), (9, .long y0)]) (st2 := [.long (zgb sO 19 (((3 : Int32) * x2)).toNatClampNeg)]) (ws2 := [wX12 (zcT C) aO sO]) rfl rfl rfl [1, 2, 3, 4, 5, 6, 0] rfl (bX12_determinant_100 X hQ  h)
  · replace h := zif_t h c80
    refine z_aload_n X dX12_determinant_83 1 rfl ?_
    refine z_get (v := .ref (aO 21)) X 0 0 13 20 ziX12 rfl (by decide) zw1356 rfl dX12_determinant_84 rfl rfl rfl ?_
    refine z_iload_n X dX12_determinant_87 2 rfl ?_
    obtain ⟨g88, h⟩ := zgd_of h
    refine z_lald X 0 12 g88 dX12_determinant_88 rfl rfl ?_
    refine z_goto (tgt := 100) X dX12_determinant_89 (by decide) ?_
    exact z_at (pc2 := 100) (lv2 := [(0, .ref (aO 0)), (2, .int x2), (3, .int x3), (4, .int x4), (5, .long x5), (7, .long x7), (9, .long y0)]) (st2 := [.long (zgb sO 20 (x2).toNatClampNeg)]) (ws2 := [wX12 (zcT C) aO sO]) rfl rfl rfl [1, 2, 3, 4, 5, 6, 0] rfl (bX12_determinant_100 X hQ  h)
theorem bX12_determinant_49 {C : zCtx} (X : zFx C cX12_determinant 23 RX12 rmX12_determinant (some .long)) {aO : Nat → Nat} {sO : zSt} {x1 : Int32} {x2 : Int32} {x3 : Int32} {x4 : Int32} {x5 : Int64} {y0 : Int64} {out : Int64} (hQ : zHl C out [] 0 0) (h : fX12_determinant_49 sO x1 x2 x3 x4 x5 y0 = some out) : zG C 23 [] 0 0 [wX12 (zcT C) aO sO] 49 [(0, .ref (aO 0)), (1, .int x1), (2, .int x2), (3, .int x3), (4, .int x4), (5, .long x5)] [.long y0] := by
  unfold fX12_determinant_49 at h
  refine z_lstore (lv2 := [(7, .long y0), (0, .ref (aO 0)), (1, .int x1), (2, .int x2), (3, .int x3), (4, .int x4), (5, .long x5)]) X dX12_determinant_49 (by decide) rfl ?_
  refine z_iload X dX12_determinant_51 5 rfl ?_
  refine z_iconst (v := (2 : Int32)) X dX12_determinant_53 rfl ?_
  refine z_icmp_ne (tgt := 66) X dX12_determinant_54 (by decide) (fun c54 => ?_) (fun c54 => ?_)
  · replace h := zif_f h c54
    refine z_aload_n X dX12_determinant_66 1 rfl ?_
    refine z_get (v := .ref (aO 20)) X 0 0 13 19 ziX12 rfl (by decide) zw1355 rfl dX12_determinant_67 rfl rfl rfl ?_
    refine z_iconst (v := (3 : Int32)) X dX12_determinant_70 rfl ?_
    refine z_iload_n X dX12_determinant_71 2 rfl ?_
    refine z_imul X dX12_determinant_72 ?_
    refine z_iconst (v := (2 : Int32)) X dX12_determinant_73 rfl ?_
    refine z_iadd X dX12_determinant_74 ?_
    obtain ⟨g75, h⟩ := zgd_of h
    refine z_lald X 0 11 g75 dX12_determinant_75 rfl rfl ?_
    exact z_at (pc2 := 76) (lv2 := [(0, .ref (aO 0)), (2, .int x2), (3, .int x3), (4, .int x4), (5, .long x5), (7, .long y0)]) (st2 := [.long (zgb sO 19 ((((3 : Int32) * x1) + (2 : Int32))).toNatClampNeg)]) (ws2 := [wX12 (zcT C) aO sO]) rfl rfl rfl [1, 3, 4, 5, 6, 0] rfl (bX12_determinant_76 X hQ  h)
  · replace h := zif_t h c54
    refine z_aload_n X dX12_determinant_57 1 rfl ?_
    refine z_get (v := .ref (aO 21)) X 0 0 13 20 ziX12 rfl (by decide) zw1356 rfl dX12_determinant_58 rfl rfl rfl ?_
    refine z_iload_n X dX12_determinant_61 2 rfl ?_
    obtain ⟨g62, h⟩ := zgd_of h
    refine z_lald X 0 12 g62 dX12_determinant_62 rfl rfl ?_
    refine z_goto (tgt := 76) X dX12_determinant_63 (by decide) ?_
    exact z_at (pc2 := 76) (lv2 := [(0, .ref (aO 0)), (2, .int x2), (3, .int x3), (4, .int x4), (5, .long x5), (7, .long y0)]) (st2 := [.long (zgb sO 20 (x1).toNatClampNeg)]) (ws2 := [wX12 (zcT C) aO sO]) rfl rfl rfl [1, 3, 4, 5, 6, 0] rfl (bX12_determinant_76 X hQ  h)
theorem bX12_determinant_22 {C : zCtx} (X : zFx C cX12_determinant 23 RX12 rmX12_determinant (some .long)) {aO : Nat → Nat} {sO : zSt} {x1 : Int32} {x2 : Int32} {x3 : Int32} {x4 : Int32} {y0 : Int64} {out : Int64} (hQ : zHl C out [] 0 0) (h : fX12_determinant_22 sO x1 x2 x3 x4 y0 = some out) : zG C 23 [] 0 0 [wX12 (zcT C) aO sO] 22 [(0, .ref (aO 0)), (1, .int x1), (2, .int x2), (3, .int x3), (4, .int x4)] [.long y0] := by
  unfold fX12_determinant_22 at h
  refine z_lstore (lv2 := [(5, .long y0), (0, .ref (aO 0)), (1, .int x1), (2, .int x2), (3, .int x3), (4, .int x4)]) X dX12_determinant_22 (by decide) rfl ?_
  refine z_iload X dX12_determinant_24 5 rfl ?_
  refine z_iconst (v := (1 : Int32)) X dX12_determinant_26 rfl ?_
  refine z_icmp_ne (tgt := 39) X dX12_determinant_27 (by decide) (fun c27 => ?_) (fun c27 => ?_)
  · replace h := zif_f h c27
    refine z_aload_n X dX12_determinant_39 1 rfl ?_
    refine z_get (v := .ref (aO 20)) X 0 0 13 19 ziX12 rfl (by decide) zw1355 rfl dX12_determinant_40 rfl rfl rfl ?_
    refine z_iconst (v := (3 : Int32)) X dX12_determinant_43 rfl ?_
    refine z_iload_n X dX12_determinant_44 2 rfl ?_
    refine z_imul X dX12_determinant_45 ?_
    refine z_iconst (v := (1 : Int32)) X dX12_determinant_46 rfl ?_
    refine z_iadd X dX12_determinant_47 ?_
    obtain ⟨g48, h⟩ := zgd_of h
    refine z_lald X 0 11 g48 dX12_determinant_48 rfl rfl ?_
    exact z_at (pc2 := 49) (lv2 := [(0, .ref (aO 0)), (1, .int x1), (2, .int x2), (3, .int x3), (4, .int x4), (5, .long y0)]) (st2 := [.long (zgb sO 19 ((((3 : Int32) * x1) + (1 : Int32))).toNatClampNeg)]) (ws2 := [wX12 (zcT C) aO sO]) rfl rfl rfl [1, 2, 3, 4, 5, 0] rfl (bX12_determinant_49 X hQ  h)
  · replace h := zif_t h c27
    refine z_aload_n X dX12_determinant_30 1 rfl ?_
    refine z_get (v := .ref (aO 21)) X 0 0 13 20 ziX12 rfl (by decide) zw1356 rfl dX12_determinant_31 rfl rfl rfl ?_
    refine z_iload_n X dX12_determinant_34 2 rfl ?_
    obtain ⟨g35, h⟩ := zgd_of h
    refine z_lald X 0 12 g35 dX12_determinant_35 rfl rfl ?_
    refine z_goto (tgt := 49) X dX12_determinant_36 (by decide) ?_
    exact z_at (pc2 := 49) (lv2 := [(0, .ref (aO 0)), (1, .int x1), (2, .int x2), (3, .int x3), (4, .int x4), (5, .long y0)]) (st2 := [.long (zgb sO 20 (x1).toNatClampNeg)]) (ws2 := [wX12 (zcT C) aO sO]) rfl rfl rfl [1, 2, 3, 4, 5, 0] rfl (bX12_determinant_49 X hQ  h)
theorem bX12_determinant_0 {C : zCtx} (X : zFx C cX12_determinant 23 RX12 rmX12_determinant (some .long)) {aO : Nat → Nat} {sO : zSt} {x1 : Int32} {x2 : Int32} {x3 : Int32} {x4 : Int32} {out : Int64} (hQ : zHl C out [] 0 0) (h : fX12_determinant sO x1 x2 x3 x4 = some out) : zG C 23 [] 0 0 [wX12 (zcT C) aO sO] 0 [(0, .ref (aO 0)), (1, .int x1), (2, .int x2), (3, .int x3), (4, .int x4)] [] := by
  unfold fX12_determinant at h
  refine z_iload X dX12_determinant_0 4 rfl ?_
  refine z_if_ne (tgt := 14) X dX12_determinant_2 (by decide) (fun c2 => ?_) (fun c2 => ?_)
  · replace h := zif_f h c2
    refine z_aload_n X dX12_determinant_14 0 rfl ?_
    refine z_get (v := .ref (aO 20)) X 0 0 13 19 ziX12 rfl (by decide) zw1355 rfl dX12_determinant_15 rfl rfl rfl ?_
    refine z_iconst (v := (3 : Int32)) X dX12_determinant_18 rfl ?_
    refine z_iload_n X dX12_determinant_19 1 rfl ?_
    refine z_imul X dX12_determinant_20 ?_
    obtain ⟨g21, h⟩ := zgd_of h
    refine z_lald X 0 11 g21 dX12_determinant_21 rfl rfl ?_
    exact z_at (pc2 := 22) (lv2 := [(0, .ref (aO 0)), (1, .int x1), (2, .int x2), (3, .int x3), (4, .int x4)]) (st2 := [.long (zgb sO 19 (((3 : Int32) * x1)).toNatClampNeg)]) (ws2 := [wX12 (zcT C) aO sO]) rfl rfl rfl [0, 1, 2, 3, 4] rfl (bX12_determinant_22 X hQ  h)
  · replace h := zif_t h c2
    refine z_aload_n X dX12_determinant_5 0 rfl ?_
    refine z_get (v := .ref (aO 21)) X 0 0 13 20 ziX12 rfl (by decide) zw1356 rfl dX12_determinant_6 rfl rfl rfl ?_
    refine z_iload_n X dX12_determinant_9 1 rfl ?_
    obtain ⟨g10, h⟩ := zgd_of h
    refine z_lald X 0 12 g10 dX12_determinant_10 rfl rfl ?_
    refine z_goto (tgt := 22) X dX12_determinant_11 (by decide) ?_
    exact z_at (pc2 := 22) (lv2 := [(0, .ref (aO 0)), (1, .int x1), (2, .int x2), (3, .int x3), (4, .int x4)]) (st2 := [.long (zgb sO 20 (x1).toNatClampNeg)]) (ws2 := [wX12 (zcT C) aO sO]) rfl rfl rfl [0, 1, 2, 3, 4] rfl (bX12_determinant_22 X hQ  h)
theorem metX12_determinant (l : Launch) (D : va_G) (T : Nat → ClassId) (aO : Nat → Nat) {sO : zSt} {x1 : Int32} {x2 : Int32} {x3 : Int32} {x4 : Int32} {out : Int64} (hf : fX12_determinant sO x1 x2 x3 x4 = some out) (sz : Nat) : Met l yX12_determinant (zws yX12_determinant cX12_determinant 23 (some .long)) rmX12_determinant (zPc D T [.ref (aO 0), .int x1, .int x2, .int x3, .int x4] [wX12 T aO sO] sz) (zQl D out [] (zA [] sz)) 0 0 (zA [] sz) :=
  zMet (D := D) (T := T) (av := [.ref (aO 0), .int x1, .int x2, .int x3, .int x4]) (ws := fun T => [wX12 T aO sO]) (wm := fun T => []) (lv0 := [(0, .ref (aO 0)), (1, .int x1), (2, .int x2), (3, .int x3), (4, .int x4)]) [] (Qc := fun D T A => zQl D out [] A) (by decide +kernel) rfl (Nat.le_of_ble_eq_true rfl) rfl (fun C X hQ => bX12_determinant_0 X hQ hf) sz
/-- private boolean solves(int, int, int); of TableaufloorModel -/
abbrev rmX12_solves : Room := { frames := 1, cells := 0, slots := 0, locals := 42 }
def fX12_solves_38 : Nat → zSt → Int32 → Int32 → Int32 → Int64 → Int64 → Int32 → Option (Int32 × zSt)
  | 0, _, _, _, _, _, _, _ => none
  | n + 1, sO, x1, x2, x3, x4, x6, x8 =>
    (if (3 : Int32) ≤ x8 then
      (if zin (3 : Int32) 4 = true then
        (zlet (zsb sO 27 (vp_updL (zgb sO 27) ((3 : Int32)).toNatClampNeg (x6 * x4))) (fun sO79 =>
        some ((1 : Int32), sO79))) else none)
    else
      ((fX12_determinant sO x1 x2 x3 x8).bind (fun o58 =>
        (if zin x8 4 = true then
        (zlet (zsb sO 27 (vp_updL (zgb sO 27) (x8).toNatClampNeg (x6 * o58))) (fun sO62 =>
        (zlet (x8 + 1) (fun v63 =>
        (fX12_solves_38 n sO62 x1 x2 x3 x4 x6 v63))))) else none))))
def fX12_solves_33 (sO : zSt) (x1 : Int32) (x2 : Int32) (x3 : Int32) (x4 : Int64) (y0 : Int64) : Option (Int32 × zSt) :=
  (fX12_solves_38 6000 sO x1 x2 x3 x4 y0 (0 : Int32))
def fX12_solves (sO : zSt) (x1 : Int32) (x2 : Int32) (x3 : Int32) : Option (Int32 × zSt) :=
  ((fX12_determinant sO x1 x2 x3 (-1 : Int32)).bind (fun o5 =>
    (if o5 = (0 : Int64) then
    some ((0 : Int32), sO)
  else
    (if (0 : Int64) ≤ o5 then
      (fX12_solves_33 sO x1 x2 x3 o5 (1 : Int64))
    else
      (fX12_solves_33 sO x1 x2 x3 o5 (-1 : Int64))))))
theorem bX12_solves_38 {C : zCtx} (X : zFx C cX12_solves 9 RX12 rmX12_solves (some .boolean)) {aO : Nat → Nat} {out : Int32 × zSt} (hQ : zHi C out.1 [wX12 (zcT C) aO out.2] 0 0) : ∀ (n : Nat) (sO : zSt) (x1 : Int32) (x2 : Int32) (x3 : Int32) (x4 : Int64) (x6 : Int64) (x8 : Int32), fX12_solves_38 n sO x1 x2 x3 x4 x6 x8 = some out → zG C 9 [0] 0 0 [wX12 (zcT C) aO sO] 38 [(0, .ref (aO 0)), (1, .int x1), (2, .int x2), (3, .int x3), (4, .long x4), (6, .long x6), (8, .int x8)] [] := by
  intro n
  induction n with
  | zero =>
    intro sO x1 x2 x3 x4 x6 x8 h
    rw [fX12_solves_38] at h
    exact zno h
  | succ n ih =>
    intro sO x1 x2 x3 x4 x6 x8 h
    rw [fX12_solves_38] at h
    refine z_iload X dX12_solves_38 6 rfl ?_
    refine z_iconst (v := (3 : Int32)) X dX12_solves_40 rfl ?_
    refine z_icmp_ge (tgt := 69) X dX12_solves_41 (by decide) (fun c41 => ?_) (fun c41 => ?_)
    · replace h := zif_t h c41
      refine z_aload_n X dX12_solves_69 0 rfl ?_
      refine z_get (v := .ref (aO 28)) X 0 0 13 27 ziX12 rfl (by decide) zw1363 rfl dX12_solves_70 rfl rfl rfl ?_
      refine z_iconst (v := (3 : Int32)) X dX12_solves_73 rfl ?_
      refine z_lload X dX12_solves_74 5 rfl ?_
      refine z_lload X dX12_solves_76 4 rfl ?_
      refine z_lmul X dX12_solves_78 ?_
      obtain ⟨g79, h⟩ := zgd_of h
      obtain ⟨sO79, esO79, h⟩ := zlet_of h
      refine z_last (ws2 := [wX12 (zcT C) aO sO79]) X 0 19 g79 dX12_solves_79 rfl rfl (by decide) (w2 := wX12 (zcT C) aO sO79) (by rw [esO79]; rfl) rfl ?_
      refine z_iconst (v := (1 : Int32)) X dX12_solves_80 rfl ?_
      cases h
      exact z_nret X hQ rfl dX12_solves_81 rfl [0] rfl (by decide) (by decide)
    · replace h := zif_f h c41
      refine z_aload_n X dX12_solves_44 0 rfl ?_
      refine z_get (v := .ref (aO 28)) X 0 0 13 27 ziX12 rfl (by decide) zw1363 rfl dX12_solves_45 rfl rfl rfl ?_
      refine z_iload X dX12_solves_48 6 rfl ?_
      refine z_lload X dX12_solves_50 5 rfl ?_
      refine z_aload_n X dX12_solves_52 0 rfl ?_
      refine z_iload_n X dX12_solves_53 1 rfl ?_
      refine z_iload_n X dX12_solves_54 2 rfl ?_
      refine z_iload_n X dX12_solves_55 3 rfl ?_
      refine z_iload X dX12_solves_56 6 rfl ?_
      obtain ⟨o58, ho58, h⟩ := zbind_of h
      refine z_callVl (st := [.long x6, .int x8, .ref (aO 28)]) (ws2 := [wX12 (zcT C) aO sO]) X (metX12_determinant (zcl C) (zcD C) (zcT C) aO ho58) zmX12_determinant zw1824 dX12_solves_58 0 0 13 rfl rfl rfl rfl [0] rfl rfl [] rfl (by decide) trivial rfl rfl rfl (Nat.le_of_ble_eq_true rfl) rfl rfl ⟨Nat.le_of_ble_eq_true rfl, Nat.le_of_ble_eq_true rfl⟩ ⟨Nat.le_of_ble_eq_true rfl, Nat.le_of_ble_eq_true rfl⟩ ?_
      refine z_lmul X dX12_solves_61 ?_
      obtain ⟨g62, h⟩ := zgd_of h
      obtain ⟨sO62, esO62, h⟩ := zlet_of h
      refine z_last (ws2 := [wX12 (zcT C) aO sO62]) X 0 19 g62 dX12_solves_62 rfl rfl (by decide) (w2 := wX12 (zcT C) aO sO62) (by rw [esO62]; rfl) rfl ?_
      obtain ⟨v63, ev63, h⟩ := zlet_of h
      refine z_iinc (v := v63) (lv2 := [(8, .int v63), (0, .ref (aO 0)), (1, .int x1), (2, .int x2), (3, .int x3), (4, .long x4), (6, .long x6)]) X dX12_solves_63 (k := 6) rfl (by rw [ev63]; rfl) (by decide) rfl ?_
      refine z_goto (tgt := 38) X dX12_solves_66 (by decide) ?_
      exact z_at (pc2 := 38) (lv2 := [(0, .ref (aO 0)), (1, .int x1), (2, .int x2), (3, .int x3), (4, .long x4), (6, .long x6), (8, .int v63)]) (st2 := []) (ws2 := [wX12 (zcT C) aO sO62]) rfl rfl rfl [1, 2, 3, 4, 5, 6, 0] rfl (ih sO62 x1 x2 x3 x4 x6 v63 h)
theorem bX12_solves_33 {C : zCtx} (X : zFx C cX12_solves 9 RX12 rmX12_solves (some .boolean)) {aO : Nat → Nat} {sO : zSt} {x1 : Int32} {x2 : Int32} {x3 : Int32} {x4 : Int64} {y0 : Int64} {out : Int32 × zSt} (hQ : zHi C out.1 [wX12 (zcT C) aO out.2] 0 0) (h : fX12_solves_33 sO x1 x2 x3 x4 y0 = some out) : zG C 9 [0] 0 0 [wX12 (zcT C) aO sO] 33 [(0, .ref (aO 0)), (1, .int x1), (2, .int x2), (3, .int x3), (4, .long x4)] [.long y0] := by
  unfold fX12_solves_33 at h
  refine z_lstore (lv2 := [(6, .long y0), (0, .ref (aO 0)), (1, .int x1), (2, .int x2), (3, .int x3), (4, .long x4)]) X dX12_solves_33 (by decide) rfl ?_
  refine z_iconst (v := (0 : Int32)) X dX12_solves_35 rfl ?_
  refine z_istore (lv2 := [(8, .int (0 : Int32)), (6, .long y0), (0, .ref (aO 0)), (1, .int x1), (2, .int x2), (3, .int x3), (4, .long x4)]) X dX12_solves_36 (by decide) rfl ?_
  exact z_at (pc2 := 38) (lv2 := [(0, .ref (aO 0)), (1, .int x1), (2, .int x2), (3, .int x3), (4, .long x4), (6, .long y0), (8, .int (0 : Int32))]) (st2 := []) (ws2 := [wX12 (zcT C) aO sO]) rfl rfl rfl [2, 3, 4, 5, 6, 1, 0] rfl (bX12_solves_38 X hQ  6000 sO x1 x2 x3 x4 y0 (0 : Int32) h)
theorem bX12_solves_0 {C : zCtx} (X : zFx C cX12_solves 9 RX12 rmX12_solves (some .boolean)) {aO : Nat → Nat} {sO : zSt} {x1 : Int32} {x2 : Int32} {x3 : Int32} {out : Int32 × zSt} (hQ : zHi C out.1 [wX12 (zcT C) aO out.2] 0 0) (h : fX12_solves sO x1 x2 x3 = some out) : zG C 9 [0] 0 0 [wX12 (zcT C) aO sO] 0 [(0, .ref (aO 0)), (1, .int x1), (2, .int x2), (3, .int x3)] [] := by
  unfold fX12_solves at h
  refine z_aload_n X dX12_solves_0 0 rfl ?_
  refine z_iload_n X dX12_solves_1 1 rfl ?_
  refine z_iload_n X dX12_solves_2 2 rfl ?_
  refine z_iload_n X dX12_solves_3 3 rfl ?_
  refine z_iconst (v := (-1 : Int32)) X dX12_solves_4 rfl ?_
  obtain ⟨o5, ho5, h⟩ := zbind_of h
  refine z_callVl (st := []) (ws2 := [wX12 (zcT C) aO sO]) X (metX12_determinant (zcl C) (zcD C) (zcT C) aO ho5) zmX12_determinant zw1824 dX12_solves_5 0 0 13 rfl rfl rfl rfl [0] rfl rfl [] rfl (by decide) trivial rfl rfl rfl (Nat.le_of_ble_eq_true rfl) rfl rfl ⟨Nat.le_of_ble_eq_true rfl, Nat.le_of_ble_eq_true rfl⟩ ⟨Nat.le_of_ble_eq_true rfl, Nat.le_of_ble_eq_true rfl⟩ ?_
  refine z_lstore (lv2 := [(4, .long o5), (0, .ref (aO 0)), (1, .int x1), (2, .int x2), (3, .int x3)]) X dX12_solves_8 (by decide) rfl ?_
  refine z_lload X dX12_solves_10 0 rfl ?_
  refine z_lconst (v := (0 : Int64)) X dX12_solves_12 rfl ?_
  refine z_lcmp_ne (tgt := 19) X dX12_solves_13 dX12_solves_14 (by decide) (fun c13 => ?_) (fun c13 => ?_)
  · replace h := zif_f h c13
    refine z_lload X dX12_solves_19 0 rfl ?_
    refine z_lconst (v := (0 : Int64)) X dX12_solves_21 rfl ?_
    refine z_lcmp_ge (tgt := 32) X dX12_solves_22 dX12_solves_23 (by decide) (fun c22 => ?_) (fun c22 => ?_)
    · replace h := zif_t h c22
      refine z_lconst (v := (1 : Int64)) X dX12_solves_32 rfl ?_
      exact z_at (pc2 := 33) (lv2 := [(0, .ref (aO 0)), (1, .int x1), (2, .int x2), (3, .int x3), (4, .long o5)]) (st2 := [.long (1 : Int64)]) (ws2 := [wX12 (zcT C) aO sO]) rfl rfl rfl [1, 2, 3, 4, 0] rfl (bX12_solves_33 X hQ  h)
    · replace h := zif_f h c22
      refine z_ldc2 (v := (-1 : Int64)) X zw1828 dX12_solves_26 ?_
      refine z_goto (tgt := 33) X dX12_solves_29 (by decide) ?_
      exact z_at (pc2 := 33) (lv2 := [(0, .ref (aO 0)), (1, .int x1), (2, .int x2), (3, .int x3), (4, .long o5)]) (st2 := [.long (-1 : Int64)]) (ws2 := [wX12 (zcT C) aO sO]) rfl rfl rfl [1, 2, 3, 4, 0] rfl (bX12_solves_33 X hQ  h)
  · replace h := zif_t h c13
    refine z_iconst (v := (0 : Int32)) X dX12_solves_17 rfl ?_
    cases h
    exact z_nret X hQ rfl dX12_solves_18 rfl [0] rfl (by decide) (by decide)
theorem metX12_solves (l : Launch) (D : va_G) (T : Nat → ClassId) (aO : Nat → Nat) {sO : zSt} {x1 : Int32} {x2 : Int32} {x3 : Int32} {out : Int32 × zSt} (hf : fX12_solves sO x1 x2 x3 = some out) (sz : Nat) : Met l yX12_solves (zws yX12_solves cX12_solves 9 (some .boolean)) rmX12_solves (zPc D T [.ref (aO 0), .int x1, .int x2, .int x3] [wX12 T aO sO] sz) (zQi D out.1 [wX12 T aO out.2] (zA [wX12 T aO sO] sz)) 0 0 (zA [wX12 T aO sO] sz) :=
  zMet (D := D) (T := T) (av := [.ref (aO 0), .int x1, .int x2, .int x3]) (ws := fun T => [wX12 T aO sO]) (wm := fun T => [wX12 T aO sO]) (lv0 := [(0, .ref (aO 0)), (1, .int x1), (2, .int x2), (3, .int x3)]) [0] (Qc := fun D T A => zQi D out.1 [wX12 T aO out.2] A) (by decide +kernel) rfl (Nat.le_of_ble_eq_true rfl) rfl (fun C X hQ => bX12_solves_0 X hQ hf) sz
/-- private boolean fits(int); of TableaufloorModel -/
abbrev rmX12_fits : Room := { frames := 0, cells := 0, slots := 0, locals := 0 }
def fX12_fits_122 (sO : zSt) (k2 : Int32 → Int32 → Option (Int32)) (x1 : Int32) (x2 : Int32) : Option (Int32) :=
  (zlet (x2 + 1) (fun v122 =>
    (k2 x1 v122)))
def fX12_fits_120 (sO : zSt) : Option (Int32) :=
  some ((0 : Int32))
def fX12_fits_104 (sO : zSt) (k2 : Int32 → Int32 → Option (Int32)) (x1 : Int32) (x2 : Int32) (x3 : Int64) : Option (Int32) :=
  (if zin x2 16 = true then
    (if (zga sO 24 (x2).toNatClampNeg) = (2 : Int32) then
    (if x3 = (0 : Int64) then
      (fX12_fits_122 sO k2 x1 x2)
    else
      (fX12_fits_120 sO))
  else
    (fX12_fits_122 sO k2 x1 x2)) else none)
def fX12_fits_88 (sO : zSt) (k2 : Int32 → Int32 → Option (Int32)) (x1 : Int32) (x2 : Int32) (x3 : Int64) : Option (Int32) :=
  (if zin x2 16 = true then
    (if (zga sO 24 (x2).toNatClampNeg) = (1 : Int32) then
    (if x3 < (0 : Int64) then
      (fX12_fits_120 sO)
    else
      (fX12_fits_104 sO k2 x1 x2 x3))
  else
    (fX12_fits_104 sO k2 x1 x2 x3)) else none)
def fX12_fits_2 (sO : zSt) : Nat → Int32 → Int32 → Option (Int32)
  | 0, _, _ => none
  | n + 1, x1, x2 =>
    (if x1 ≤ x2 then
      some ((1 : Int32))
    else
      (if zin ((3 : Int32) * x2) 48 = true then
        (if zin (0 : Int32) 4 = true then
        (if zin (((3 : Int32) * x2) + (1 : Int32)) 48 = true then
        (if zin (1 : Int32) 4 = true then
        (if zin (((3 : Int32) * x2) + (2 : Int32)) 48 = true then
        (if zin (2 : Int32) 4 = true then
        (if zin x2 16 = true then
        (if zin (3 : Int32) 4 = true then
        (zlet (((((zgb sO 19 (((3 : Int32) * x2)).toNatClampNeg) * (zgb sO 27 ((0 : Int32)).toNatClampNeg)) + ((zgb sO 19 ((((3 : Int32) * x2) + (1 : Int32))).toNatClampNeg) * (zgb sO 27 ((1 : Int32)).toNatClampNeg))) + ((zgb sO 19 ((((3 : Int32) * x2) + (2 : Int32))).toNatClampNeg) * (zgb sO 27 ((2 : Int32)).toNatClampNeg))) - ((zgb sO 20 (x2).toNatClampNeg) * (zgb sO 27 ((3 : Int32)).toNatClampNeg))) (fun v72 =>
        (if zin x2 16 = true then
        (if (zga sO 24 (x2).toNatClampNeg) = 0 then
        (if (0 : Int64) < v72 then
          (fX12_fits_120 sO)
        else
          (fX12_fits_88 sO (fX12_fits_2 sO n) x1 x2 v72))
      else
        (fX12_fits_88 sO (fX12_fits_2 sO n) x1 x2 v72)) else none))) else none) else none) else none) else none) else none) else none) else none) else none))
def fX12_fits (sO : zSt) (x1 : Int32) : Option (Int32) :=
  (fX12_fits_2 sO 6000 x1 (0 : Int32))
theorem bX12_fits_122 {C : zCtx} (X : zFx C cX12_fits 5 RX12 rmX12_fits (some .boolean)) {aO : Nat → Nat} {sO : zSt} {k2 : Int32 → Int32 → Option (Int32)} {x1 : Int32} {x2 : Int32} {out : Int32} (hQ : zHi C out [] 0 0) (hk2 : ∀ (x1 : Int32) (x2 : Int32), k2 x1 x2 = some out → zG C 5 [] 0 0 [wX12 (zcT C) aO sO] 2 [(0, .ref (aO 0)), (1, .int x1), (2, .int x2)] []) (h : fX12_fits_122 sO k2 x1 x2 = some out) : zG C 5 [] 0 0 [wX12 (zcT C) aO sO] 122 [(0, .ref (aO 0)), (1, .int x1), (2, .int x2)] [] := by
  unfold fX12_fits_122 at h
  obtain ⟨v122, ev122, h⟩ := zlet_of h
  refine z_iinc (v := v122) (lv2 := [(2, .int v122), (0, .ref (aO 0)), (1, .int x1)]) X dX12_fits_122 (k := 2) rfl (by rw [ev122]; rfl) (by decide) rfl ?_
  refine z_goto (tgt := 2) X dX12_fits_125 (by decide) ?_
  exact z_at (pc2 := 2) (lv2 := [(0, .ref (aO 0)), (1, .int x1), (2, .int v122)]) (st2 := []) (ws2 := [wX12 (zcT C) aO sO]) rfl rfl rfl [1, 2, 0] rfl (hk2 x1 v122 h)
theorem bX12_fits_120 {C : zCtx} (X : zFx C cX12_fits 5 RX12 rmX12_fits (some .boolean)) {aO : Nat → Nat} {sO : zSt} {out : Int32} (hQ : zHi C out [] 0 0) (h : fX12_fits_120 sO = some out) : zG C 5 [] 0 0 [wX12 (zcT C) aO sO] 120 [] [] := by
  unfold fX12_fits_120 at h
  refine z_iconst (v := (0 : Int32)) X dX12_fits_120 rfl ?_
  cases h
  exact z_nret X hQ rfl dX12_fits_121 rfl [] rfl (by decide) (by decide)
theorem bX12_fits_104 {C : zCtx} (X : zFx C cX12_fits 5 RX12 rmX12_fits (some .boolean)) {aO : Nat → Nat} {sO : zSt} {k2 : Int32 → Int32 → Option (Int32)} {x1 : Int32} {x2 : Int32} {x3 : Int64} {out : Int32} (hQ : zHi C out [] 0 0) (hk2 : ∀ (x1 : Int32) (x2 : Int32), k2 x1 x2 = some out → zG C 5 [] 0 0 [wX12 (zcT C) aO sO] 2 [(0, .ref (aO 0)), (1, .int x1), (2, .int x2)] []) (h : fX12_fits_104 sO k2 x1 x2 x3 = some out) : zG C 5 [] 0 0 [wX12 (zcT C) aO sO] 104 [(0, .ref (aO 0)), (1, .int x1), (2, .int x2), (3, .long x3)] [] := by
  unfold fX12_fits_104 at h
  refine z_aload_n X dX12_fits_104 0 rfl ?_
  refine z_get (v := .ref (aO 25)) X 0 0 13 24 ziX12 rfl (by decide) zw1360 rfl dX12_fits_105 rfl rfl rfl ?_
  refine z_iload_n X dX12_fits_108 2 rfl ?_
  obtain ⟨g109, h⟩ := zgd_of h
  refine z_iald X 0 16 g109 dX12_fits_109 rfl rfl ?_
  refine z_iconst (v := (2 : Int32)) X dX12_fits_110 rfl ?_
  refine z_icmp_ne (tgt := 122) X dX12_fits_111 (by decide) (fun c111 => ?_) (fun c111 => ?_)
  · replace h := zif_f h c111
    exact z_at (pc2 := 122) (lv2 := [(0, .ref (aO 0)), (1, .int x1), (2, .int x2)]) (st2 := []) (ws2 := [wX12 (zcT C) aO sO]) rfl rfl rfl [0, 1, 2] rfl (bX12_fits_122 X hQ hk2 h)
  · replace h := zif_t h c111
    refine z_lload_n X dX12_fits_114 3 rfl ?_
    refine z_lconst (v := (0 : Int64)) X dX12_fits_115 rfl ?_
    refine z_lcmp_eq (tgt := 122) X dX12_fits_116 dX12_fits_117 (by decide) (fun c116 => ?_) (fun c116 => ?_)
    · replace h := zif_t h c116
      exact z_at (pc2 := 122) (lv2 := [(0, .ref (aO 0)), (1, .int x1), (2, .int x2)]) (st2 := []) (ws2 := [wX12 (zcT C) aO sO]) rfl rfl rfl [0, 1, 2] rfl (bX12_fits_122 X hQ hk2 h)
    · replace h := zif_f h c116
      exact z_at (pc2 := 120) (lv2 := []) (st2 := []) (ws2 := [wX12 (zcT C) aO sO]) rfl rfl rfl [] rfl (bX12_fits_120 X hQ  h)
theorem bX12_fits_88 {C : zCtx} (X : zFx C cX12_fits 5 RX12 rmX12_fits (some .boolean)) {aO : Nat → Nat} {sO : zSt} {k2 : Int32 → Int32 → Option (Int32)} {x1 : Int32} {x2 : Int32} {x3 : Int64} {out : Int32} (hQ : zHi C out [] 0 0) (hk2 : ∀ (x1 : Int32) (x2 : Int32), k2 x1 x2 = some out → zG C 5 [] 0 0 [wX12 (zcT C) aO sO] 2 [(0, .ref (aO 0)), (1, .int x1), (2, .int x2)] []) (h : fX12_fits_88 sO k2 x1 x2 x3 = some out) : zG C 5 [] 0 0 [wX12 (zcT C) aO sO] 88 [(0, .ref (aO 0)), (1, .int x1), (2, .int x2), (3, .long x3)] [] := by
  unfold fX12_fits_88 at h
  refine z_aload_n X dX12_fits_88 0 rfl ?_
  refine z_get (v := .ref (aO 25)) X 0 0 13 24 ziX12 rfl (by decide) zw1360 rfl dX12_fits_89 rfl rfl rfl ?_
  refine z_iload_n X dX12_fits_92 2 rfl ?_
  obtain ⟨g93, h⟩ := zgd_of h
  refine z_iald X 0 16 g93 dX12_fits_93 rfl rfl ?_
  refine z_iconst (v := (1 : Int32)) X dX12_fits_94 rfl ?_
  refine z_icmp_ne (tgt := 104) X dX12_fits_95 (by decide) (fun c95 => ?_) (fun c95 => ?_)
  · replace h := zif_f h c95
    exact z_at (pc2 := 104) (lv2 := [(0, .ref (aO 0)), (1, .int x1), (2, .int x2), (3, .long x3)]) (st2 := []) (ws2 := [wX12 (zcT C) aO sO]) rfl rfl rfl [0, 1, 2, 3] rfl (bX12_fits_104 X hQ hk2 h)
  · replace h := zif_t h c95
    refine z_lload_n X dX12_fits_98 3 rfl ?_
    refine z_lconst (v := (0 : Int64)) X dX12_fits_99 rfl ?_
    refine z_lcmp_lt (tgt := 120) X dX12_fits_100 dX12_fits_101 (by decide) (fun c100 => ?_) (fun c100 => ?_)
    · replace h := zif_t h c100
      exact z_at (pc2 := 120) (lv2 := []) (st2 := []) (ws2 := [wX12 (zcT C) aO sO]) rfl rfl rfl [] rfl (bX12_fits_120 X hQ  h)
    · replace h := zif_f h c100
      exact z_at (pc2 := 104) (lv2 := [(0, .ref (aO 0)), (1, .int x1), (2, .int x2), (3, .long x3)]) (st2 := []) (ws2 := [wX12 (zcT C) aO sO]) rfl rfl rfl [0, 1, 2, 3] rfl (bX12_fits_104 X hQ hk2 h)
theorem bX12_fits_2 {C : zCtx} (X : zFx C cX12_fits 5 RX12 rmX12_fits (some .boolean)) {aO : Nat → Nat} {sO : zSt} {out : Int32} (hQ : zHi C out [] 0 0) : ∀ (n : Nat) (x1 : Int32) (x2 : Int32), fX12_fits_2 sO n x1 x2 = some out → zG C 5 [] 0 0 [wX12 (zcT C) aO sO] 2 [(0, .ref (aO 0)), (1, .int x1), (2, .int x2)] [] := by
  intro n
  induction n with
  | zero =>
    intro x1 x2 h
    rw [fX12_fits_2] at h
    exact zno h
  | succ n ih =>
    intro x1 x2 h
    rw [fX12_fits_2] at h
    refine z_iload_n X dX12_fits_2 2 rfl ?_
    refine z_iload_n X dX12_fits_3 1 rfl ?_
    refine z_icmp_ge (tgt := 128) X dX12_fits_4 (by decide) (fun c4 => ?_) (fun c4 => ?_)
    · replace h := zif_t h c4
      refine z_iconst (v := (1 : Int32)) X dX12_fits_128 rfl ?_
      cases h
      exact z_nret X hQ rfl dX12_fits_129 rfl [] rfl (by decide) (by decide)
    · replace h := zif_f h c4
      refine z_aload_n X dX12_fits_7 0 rfl ?_
      refine z_get (v := .ref (aO 20)) X 0 0 13 19 ziX12 rfl (by decide) zw1355 rfl dX12_fits_8 rfl rfl rfl ?_
      refine z_iconst (v := (3 : Int32)) X dX12_fits_11 rfl ?_
      refine z_iload_n X dX12_fits_12 2 rfl ?_
      refine z_imul X dX12_fits_13 ?_
      obtain ⟨g14, h⟩ := zgd_of h
      refine z_lald X 0 11 g14 dX12_fits_14 rfl rfl ?_
      refine z_aload_n X dX12_fits_15 0 rfl ?_
      refine z_get (v := .ref (aO 28)) X 0 0 13 27 ziX12 rfl (by decide) zw1363 rfl dX12_fits_16 rfl rfl rfl ?_
      refine z_iconst (v := (0 : Int32)) X dX12_fits_19 rfl ?_
      obtain ⟨g20, h⟩ := zgd_of h
      refine z_lald X 0 19 g20 dX12_fits_20 rfl rfl ?_
      refine z_lmul X dX12_fits_21 ?_
      refine z_aload_n X dX12_fits_22 0 rfl ?_
      refine z_get (v := .ref (aO 20)) X 0 0 13 19 ziX12 rfl (by decide) zw1355 rfl dX12_fits_23 rfl rfl rfl ?_
      refine z_iconst (v := (3 : Int32)) X dX12_fits_26 rfl ?_
      refine z_iload_n X dX12_fits_27 2 rfl ?_
      refine z_imul X dX12_fits_28 ?_
      refine z_iconst (v := (1 : Int32)) X dX12_fits_29 rfl ?_
      refine z_iadd X dX12_fits_30 ?_
      obtain ⟨g31, h⟩ := zgd_of h
      refine z_lald X 0 11 g31 dX12_fits_31 rfl rfl ?_
      refine z_aload_n X dX12_fits_32 0 rfl ?_
      refine z_get (v := .ref (aO 28)) X 0 0 13 27 ziX12 rfl (by decide) zw1363 rfl dX12_fits_33 rfl rfl rfl ?_
      refine z_iconst (v := (1 : Int32)) X dX12_fits_36 rfl ?_
      obtain ⟨g37, h⟩ := zgd_of h
      refine z_lald X 0 19 g37 dX12_fits_37 rfl rfl ?_
      refine z_lmul X dX12_fits_38 ?_
      refine z_ladd X dX12_fits_39 ?_
      refine z_aload_n X dX12_fits_40 0 rfl ?_
      refine z_get (v := .ref (aO 20)) X 0 0 13 19 ziX12 rfl (by decide) zw1355 rfl dX12_fits_41 rfl rfl rfl ?_
      refine z_iconst (v := (3 : Int32)) X dX12_fits_44 rfl ?_
      refine z_iload_n X dX12_fits_45 2 rfl ?_
      refine z_imul X dX12_fits_46 ?_
      refine z_iconst (v := (2 : Int32)) X dX12_fits_47 rfl ?_
      refine z_iadd X dX12_fits_48 ?_
      obtain ⟨g49, h⟩ := zgd_of h
      refine z_lald X 0 11 g49 dX12_fits_49 rfl rfl ?_
      refine z_aload_n X dX12_fits_50 0 rfl ?_
      refine z_get (v := .ref (aO 28)) X 0 0 13 27 ziX12 rfl (by decide) zw1363 rfl dX12_fits_51 rfl rfl rfl ?_
      refine z_iconst (v := (2 : Int32)) X dX12_fits_54 rfl ?_
      obtain ⟨g55, h⟩ := zgd_of h
      refine z_lald X 0 19 g55 dX12_fits_55 rfl rfl ?_
      refine z_lmul X dX12_fits_56 ?_
      refine z_ladd X dX12_fits_57 ?_
      refine z_aload_n X dX12_fits_58 0 rfl ?_
      refine z_get (v := .ref (aO 21)) X 0 0 13 20 ziX12 rfl (by decide) zw1356 rfl dX12_fits_59 rfl rfl rfl ?_
      refine z_iload_n X dX12_fits_62 2 rfl ?_
      obtain ⟨g63, h⟩ := zgd_of h
      refine z_lald X 0 12 g63 dX12_fits_63 rfl rfl ?_
      refine z_aload_n X dX12_fits_64 0 rfl ?_
      refine z_get (v := .ref (aO 28)) X 0 0 13 27 ziX12 rfl (by decide) zw1363 rfl dX12_fits_65 rfl rfl rfl ?_
      refine z_iconst (v := (3 : Int32)) X dX12_fits_68 rfl ?_
      obtain ⟨g69, h⟩ := zgd_of h
      refine z_lald X 0 19 g69 dX12_fits_69 rfl rfl ?_
      refine z_lmul X dX12_fits_70 ?_
      refine z_lsub X dX12_fits_71 ?_
      obtain ⟨v72, ev72, h⟩ := zlet_of h
      refine z_topl ev72 ?_
      refine z_lstore_n (lv2 := [(3, .long v72), (0, .ref (aO 0)), (1, .int x1), (2, .int x2)]) X dX12_fits_72 rfl (by decide) rfl ?_
      refine z_aload_n X dX12_fits_73 1 rfl ?_
      refine z_get (v := .ref (aO 25)) X 0 0 13 24 ziX12 rfl (by decide) zw1360 rfl dX12_fits_74 rfl rfl rfl ?_
      refine z_iload_n X dX12_fits_77 3 rfl ?_
      obtain ⟨g78, h⟩ := zgd_of h
      refine z_iald X 0 16 g78 dX12_fits_78 rfl rfl ?_
      refine z_if_ne (tgt := 88) X dX12_fits_79 (by decide) (fun c79 => ?_) (fun c79 => ?_)
      · replace h := zif_f h c79
        exact z_at (pc2 := 88) (lv2 := [(0, .ref (aO 0)), (1, .int x1), (2, .int x2), (3, .long v72)]) (st2 := []) (ws2 := [wX12 (zcT C) aO sO]) rfl rfl rfl [1, 2, 3, 0] rfl (bX12_fits_88 X hQ ih h)
      · replace h := zif_t h c79
        refine z_lload_n X dX12_fits_82 0 rfl ?_
        refine z_lconst (v := (0 : Int64)) X dX12_fits_83 rfl ?_
        refine z_lcmp_gt (tgt := 120) X dX12_fits_84 dX12_fits_85 (by decide) (fun c84 => ?_) (fun c84 => ?_)
        · replace h := zif_t h c84
          exact z_at (pc2 := 120) (lv2 := []) (st2 := []) (ws2 := [wX12 (zcT C) aO sO]) rfl rfl rfl [] rfl (bX12_fits_120 X hQ  h)
        · replace h := zif_f h c84
          exact z_at (pc2 := 88) (lv2 := [(0, .ref (aO 0)), (1, .int x1), (2, .int x2), (3, .long v72)]) (st2 := []) (ws2 := [wX12 (zcT C) aO sO]) rfl rfl rfl [1, 2, 3, 0] rfl (bX12_fits_88 X hQ ih h)
theorem bX12_fits_0 {C : zCtx} (X : zFx C cX12_fits 5 RX12 rmX12_fits (some .boolean)) {aO : Nat → Nat} {sO : zSt} {x1 : Int32} {out : Int32} (hQ : zHi C out [] 0 0) (h : fX12_fits sO x1 = some out) : zG C 5 [] 0 0 [wX12 (zcT C) aO sO] 0 [(0, .ref (aO 0)), (1, .int x1)] [] := by
  unfold fX12_fits at h
  refine z_iconst (v := (0 : Int32)) X dX12_fits_0 rfl ?_
  refine z_istore_n (lv2 := [(2, .int (0 : Int32)), (0, .ref (aO 0)), (1, .int x1)]) X dX12_fits_1 rfl (by decide) rfl ?_
  exact z_at (pc2 := 2) (lv2 := [(0, .ref (aO 0)), (1, .int x1), (2, .int (0 : Int32))]) (st2 := []) (ws2 := [wX12 (zcT C) aO sO]) rfl rfl rfl [1, 2, 0] rfl (bX12_fits_2 X hQ  6000 x1 (0 : Int32) h)
theorem metX12_fits (l : Launch) (D : va_G) (T : Nat → ClassId) (aO : Nat → Nat) {sO : zSt} {x1 : Int32} {out : Int32} (hf : fX12_fits sO x1 = some out) (sz : Nat) : Met l yX12_fits (zws yX12_fits cX12_fits 5 (some .boolean)) rmX12_fits (zPc D T [.ref (aO 0), .int x1] [wX12 T aO sO] sz) (zQi D out [] (zA [] sz)) 0 0 (zA [] sz) :=
  zMet (D := D) (T := T) (av := [.ref (aO 0), .int x1]) (ws := fun T => [wX12 T aO sO]) (wm := fun T => []) (lv0 := [(0, .ref (aO 0)), (1, .int x1)]) [] (Qc := fun D T A => zQi D out [] A) (by decide +kernel) rfl (Nat.le_of_ble_eq_true rfl) rfl (fun C X hQ => bX12_fits_0 X hQ hf) sz
