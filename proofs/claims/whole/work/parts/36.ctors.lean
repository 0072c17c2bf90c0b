/-- what Tableaufloor$Fraction() leaves -/
def zs0X2 : zSt := (zsl zst0 1 (1 : Int64))
abbrev zgX2 (T : Nat → ClassId) (u : Nat → Nat) : List va_W := [wX2 T u zs0X2]
abbrev rmcX2 : Room := { frames := 1, cells := 0, slots := 0, locals := 12 }
set_option maxRecDepth 20000 in
set_option maxHeartbeats 4000000 in
theorem mcX2 (l : Launch) (D : va_G) (T : Nat → ClassId) (h0 : Nat) (sz : Nat) : Met l yX2_init (zws yX2_init cX2_init 1 none) rmcX2 (zPcE D T [.ref h0] [[(h0, .inr (3, [.long 0, .long 0]))]] sz) (zQn D h0 (zgX2 T) (zA [[(h0, .inr (3, [.long 0, .long 0]))]] sz)) 0 0 (zA [[(h0, .inr (3, [.long 0, .long 0]))]] sz) := by
  refine zMetC (l := l) (y := yX2_init) (cc := cX2_init) (maxL := 1) (rm := rmcX2) (mc := 0) (ms := 0) (D := D) (T := T) (av := [.ref h0]) (ws := fun T => [[(h0, .inr (3, [.long 0, .long 0]))]]) (wm := fun T => [[(h0, .inr (3, [.long 0, .long 0]))]]) (lv0 := [(0, .ref h0)]) [0] (Qc := fun D T A => zQn D h0 (zgX2 T) A) (EX := fun U => va_AO RX4 U) (by decide +kernel) rfl rfl (Nat.le_of_ble_eq_true rfl) rfl (fun _ _ _ _ h => h) ?_ sz
  intro C X hin hAO hQ
  refine z_aload_n X dX2_init_0 0 rfl ?_
  refine z_objInit X zc360 zc41 zc42 dX2_init_1 (Nat.le_of_ble_eq_true rfl) (Nat.le_of_ble_eq_true rfl) ?_
  refine z_aload_n X dX2_init_4 0 rfl ?_
  refine z_lconst (v := (1 : Int64)) X dX2_init_5 rfl ?_
  refine z_put (ws2 := [[(h0, .inr (3, [.long 0, .long (1 : Int64)]))]]) (w2 := [(h0, .inr (3, [.long 0, .long (1 : Int64)]))]) X 0 0 3 1 ziX2 rfl tyX2 tyX2_ok nmX2 (by decide) zc363 rfl rfl (ty := .long) (by decide +kernel) rfl rfl (by show 1 < 2; decide) dX2_init_6 rfl rfl (by decide) rfl rfl ?_
  exact z_cret (G := zgX2 (zcT C)) X hQ dX2_init_9 (fun k => [h0, 0, 0].getD k 0) rfl [[(0, 0)]] rfl (by decide) (by decide) (by decide) (by decide)
/-- what Tableaufloor$Line() leaves -/
def zs0X3 : zSt := zst0
abbrev zgX3 (T : Nat → ClassId) (u : Nat → Nat) : List va_W := [wX3 T u zs0X3]
abbrev rmcX3 : Room := { frames := 1, cells := 1, slots := 30, locals := 12 }
set_option maxRecDepth 20000 in
set_option maxHeartbeats 4000000 in
theorem mcX3 (l : Launch) (D : va_G) (T : Nat → ClassId) (h0 : Nat) (sz : Nat) : Met l yX3_init (zws yX3_init cX3_init 1 none) rmcX3 (zPcE D T [.ref h0] [[(h0, .inr (4, [.null, .int 0]))]] sz) (zQn D h0 (zgX3 T) (zA [[(h0, .inr (4, [.null, .int 0]))]] sz)) 1 30 (zA [[(h0, .inr (4, [.null, .int 0]))]] sz) := by
  refine zMetC (l := l) (y := yX3_init) (cc := cX3_init) (maxL := 1) (rm := rmcX3) (mc := 1) (ms := 30) (D := D) (T := T) (av := [.ref h0]) (ws := fun T => [[(h0, .inr (4, [.null, .int 0]))]]) (wm := fun T => [[(h0, .inr (4, [.null, .int 0]))]]) (lv0 := [(0, .ref h0)]) [0] (Qc := fun D T A => zQn D h0 (zgX3 T) A) (EX := fun U => va_AO RX4 U) (by decide +kernel) rfl rfl (Nat.le_of_ble_eq_true rfl) rfl (fun _ _ _ _ h => h) ?_ sz
  intro C X hin hAO hQ
  refine z_aload_n X dX3_init_0 0 rfl ?_
  refine z_objInit X zc149 zc41 zc42 dX3_init_1 (Nat.le_of_ble_eq_true rfl) (Nat.le_of_ble_eq_true rfl) ?_
  refine z_aload_n X dX3_init_4 0 rfl ?_
  refine z_bipush (v := (30 : Int32)) X dX3_init_5 rfl ?_
  refine z_newa (mp2 := [0, 1]) (atype := .char) (ty := .char) (N' := 30) (a0 := (30, .inl (fun _ => 0))) X 0 1 zc99 rfl rfl (fun _ => rfl) (by decide) (by decide) (by decide) rfl (by decide) (Nat.le_of_ble_eq_true rfl) (Nat.le_of_ble_eq_true rfl) dX3_init_7 (fun q0a hqq0a => ?_)
  refine z_at (pc2 := 9) (lv2 := [(0, .ref h0)]) (st2 := [.ref q0a, .ref h0]) (ws2 := [[(h0, .inr (4, [.null, .int 0]))], [(q0a, .inl (zcT C 0, 30, .inl (fun _ => 0)))]]) rfl rfl rfl [0] rfl ?_
  refine z_putF (ws2 := [[(h0, .inr (4, [.ref q0a, .int 0]))], [(q0a, .inl (zcT C 0, 30, .inl (fun _ => 0)))]]) (w2 := [(h0, .inr (4, [.ref q0a, .int 0]))]) X hin 0 0 4 0 ziX3 rfl tyX3 tyX3_ok nmX3 (by decide) zc150 rfl rfl rfl (ty := (.array .char)) (by decide +kernel) rfl rfl (by show 0 < 2; decide) dX3_init_9 rfl rfl (by decide) rfl rfl ?_
  exact z_cret (G := zgX3 (zcT C)) X hQ dX3_init_12 (fun k => [h0, q0a, 0].getD k 0) rfl [[(0, 0), (1, 0)]] rfl (by decide) (by decide) (by decide) (by decide)
/-- what Tableaufloor$Point() leaves -/
def zs0X4 : zSt := (zsi (zsl zst0 1 (1 : Int64)) 2 (-1 : Int32))
abbrev zgX4 (T : Nat → ClassId) (u : Nat → Nat) : List va_W := [wX4 T u zs0X4]
abbrev rmcX4 : Room := { frames := 1, cells := 1, slots := 3, locals := 12 }
set_option maxRecDepth 20000 in
set_option maxHeartbeats 4000000 in
theorem mcX4 (l : Launch) (D : va_G) (T : Nat → ClassId) (h0 : Nat) (sz : Nat) : Met l yX4_init (zws yX4_init cX4_init 1 none) rmcX4 (zPcE D T [.ref h0] [[(h0, .inr (5, [.null, .long 0, .int 0]))]] sz) (zQn D h0 (zgX4 T) (zA [[(h0, .inr (5, [.null, .long 0, .int 0]))]] sz)) 1 3 (zA [[(h0, .inr (5, [.null, .long 0, .int 0]))]] sz) := by
  refine zMetC (l := l) (y := yX4_init) (cc := cX4_init) (maxL := 1) (rm := rmcX4) (mc := 1) (ms := 3) (D := D) (T := T) (av := [.ref h0]) (ws := fun T => [[(h0, .inr (5, [.null, .long 0, .int 0]))]]) (wm := fun T => [[(h0, .inr (5, [.null, .long 0, .int 0]))]]) (lv0 := [(0, .ref h0)]) [0] (Qc := fun D T A => zQn D h0 (zgX4 T) A) (EX := fun U => va_AO RX4 U) (by decide +kernel) rfl rfl (Nat.le_of_ble_eq_true rfl) rfl (fun _ _ _ _ h => h) ?_ sz
  intro C X hin hAO hQ
  refine z_aload_n X dX4_init_0 0 rfl ?_
  refine z_objInit X zc217 zc41 zc42 dX4_init_1 (Nat.le_of_ble_eq_true rfl) (Nat.le_of_ble_eq_true rfl) ?_
  refine z_aload_n X dX4_init_4 0 rfl ?_
  refine z_iconst (v := (3 : Int32)) X dX4_init_5 rfl ?_
  refine z_newa (mp2 := [0, 1]) (atype := .long) (ty := .long) (N' := 3) (a0 := (3, .inr (.inl (fun _ => 0)))) X 2 1 zc211 rfl rfl (fun _ => rfl) (by decide) (by decide) (by decide) rfl (by decide) (Nat.le_of_ble_eq_true rfl) (Nat.le_of_ble_eq_true rfl) dX4_init_6 (fun q0a hqq0a => ?_)
  refine z_at (pc2 := 8) (lv2 := [(0, .ref h0)]) (st2 := [.ref q0a, .ref h0]) (ws2 := [[(h0, .inr (5, [.null, .long 0, .int 0]))], [(q0a, .inl (zcT C 2, 3, .inr (.inl (fun _ => 0))))]]) rfl rfl rfl [0] rfl ?_
  refine z_putF (ws2 := [[(h0, .inr (5, [.ref q0a, .long 0, .int 0]))], [(q0a, .inl (zcT C 2, 3, .inr (.inl (fun _ => 0))))]]) (w2 := [(h0, .inr (5, [.ref q0a, .long 0, .int 0]))]) X hin 0 0 5 0 ziX4 rfl tyX4 tyX4_ok nmX4 (by decide) zc218 rfl rfl rfl (ty := (.array .long)) (by decide +kernel) rfl rfl (by show 0 < 3; decide) dX4_init_8 rfl rfl (by decide) rfl rfl ?_
  refine z_aload_n X dX4_init_11 0 rfl ?_
  refine z_lconst (v := (1 : Int64)) X dX4_init_12 rfl ?_
  refine z_put (ws2 := [[(h0, .inr (5, [.ref q0a, .long (1 : Int64), .int 0]))], [(q0a, .inl (zcT C 2, 3, .inr (.inl (fun _ => 0))))]]) (w2 := [(h0, .inr (5, [.ref q0a, .long (1 : Int64), .int 0]))]) X 0 0 5 1 ziX4 rfl tyX4 tyX4_ok nmX4 (by decide) zc219 rfl rfl (ty := .long) (by decide +kernel) rfl rfl (by show 1 < 3; decide) dX4_init_13 rfl rfl (by decide) rfl rfl ?_
  refine z_aload_n X dX4_init_16 0 rfl ?_
  refine z_iconst (v := (-1 : Int32)) X dX4_init_17 rfl ?_
  refine z_put (ws2 := [[(h0, .inr (5, [.ref q0a, .long (1 : Int64), .int (-1 : Int32)]))], [(q0a, .inl (zcT C 2, 3, .inr (.inl (fun _ => 0))))]]) (w2 := [(h0, .inr (5, [.ref q0a, .long (1 : Int64), .int (-1 : Int32)]))]) X 0 0 5 2 ziX4 rfl tyX4 tyX4_ok nmX4 (by decide) zc225 rfl rfl (ty := .int) (by decide +kernel) rfl rfl (by show 2 < 3; decide) dX4_init_18 rfl rfl (by decide) rfl rfl ?_
  exact z_cret (G := zgX4 (zcT C)) X hQ dX4_init_21 (fun k => [h0, q0a, 0, 0].getD k 0) rfl [[(0, 0), (1, 0)]] rfl (by decide) (by decide) (by decide) (by decide)
/-- what Tableaufloor$Program() leaves -/
def zs0X5 : zSt := zst0
abbrev zgX5 (T : Nat → ClassId) (u : Nat → Nat) : List va_W := [wX5 T u zs0X5]
abbrev rmcX5 : Room := { frames := 1, cells := 8, slots := 90, locals := 12 }
set_option maxRecDepth 20000 in
set_option maxHeartbeats 4000000 in
theorem mcX5 (l : Launch) (D : va_G) (T : Nat → ClassId) (h0 : Nat) (sz : Nat) : Met l yX5_init (zws yX5_init cX5_init 1 none) rmcX5 (zPcE D T [.ref h0] [[(h0, .inr (6, [.null, .null, .null, .null, .null, .null, .null, .null, .int 0, .int 0, .int 0, .int 0]))]] sz) (zQn D h0 (zgX5 T) (zA [[(h0, .inr (6, [.null, .null, .null, .null, .null, .null, .null, .null, .int 0, .int 0, .int 0, .int 0]))]] sz)) 8 90 (zA [[(h0, .inr (6, [.null, .null, .null, .null, .null, .null, .null, .null, .int 0, .int 0, .int 0, .int 0]))]] sz) := by
  refine zMetC (l := l) (y := yX5_init) (cc := cX5_init) (maxL := 1) (rm := rmcX5) (mc := 8) (ms := 90) (D := D) (T := T) (av := [.ref h0]) (ws := fun T => [[(h0, .inr (6, [.null, .null, .null, .null, .null, .null, .null, .null, .int 0, .int 0, .int 0, .int 0]))]]) (wm := fun T => [[(h0, .inr (6, [.null, .null, .null, .null, .null, .null, .null, .null, .int 0, .int 0, .int 0, .int 0]))]]) (lv0 := [(0, .ref h0)]) [0] (Qc := fun D T A => zQn D h0 (zgX5 T) A) (EX := fun U => va_AO RX4 U) (by decide +kernel) rfl rfl (Nat.le_of_ble_eq_true rfl) rfl (fun _ _ _ _ h => h) ?_ sz
  intro C X hin hAO hQ
  refine z_aload_n X dX5_init_0 0 rfl ?_
  refine z_objInit X zc48 zc41 zc42 dX5_init_1 (Nat.le_of_ble_eq_true rfl) (Nat.le_of_ble_eq_true rfl) ?_
  refine z_aload_n X dX5_init_4 0 rfl ?_
  refine z_iconst (v := (3 : Int32)) X dX5_init_5 rfl ?_
  refine z_newa (mp2 := [0, 1]) (atype := .int) (ty := .int) (N' := 3) (a0 := (3, .inl (fun _ => 0))) X 1 1 zc98 rfl rfl (fun _ => rfl) (by decide) (by decide) (by decide) rfl (by decide) (Nat.le_of_ble_eq_true rfl) (Nat.le_of_ble_eq_true rfl) dX5_init_6 (fun q0a hqq0a => ?_)
  refine z_at (pc2 := 8) (lv2 := [(0, .ref h0)]) (st2 := [.ref q0a, .ref h0]) (ws2 := [[(h0, .inr (6, [.null, .null, .null, .null, .null, .null, .null, .null, .int 0, .int 0, .int 0, .int 0]))], [(q0a, .inl (zcT C 1, 3, .inl (fun _ => 0)))]]) rfl rfl rfl [0] rfl ?_
  refine z_putF (ws2 := [[(h0, .inr (6, [.ref q0a, .null, .null, .null, .null, .null, .null, .null, .int 0, .int 0, .int 0, .int 0]))], [(q0a, .inl (zcT C 1, 3, .inl (fun _ => 0)))]]) (w2 := [(h0, .inr (6, [.ref q0a, .null, .null, .null, .null, .null, .null, .null, .int 0, .int 0, .int 0, .int 0]))]) X hin 0 0 6 0 ziX5 rfl tyX5 tyX5_ok nmX5 (by decide) zc49 rfl rfl rfl (ty := (.array .int)) (by decide +kernel) rfl rfl (by show 0 < 12; decide) dX5_init_8 rfl rfl (by decide) rfl rfl ?_
  refine z_aload_n X dX5_init_11 0 rfl ?_
  refine z_iconst (v := (3 : Int32)) X dX5_init_12 rfl ?_
  refine z_newa (mp2 := [0, 1, 2]) (atype := .int) (ty := .int) (N' := 3) (a0 := (3, .inl (fun _ => 0))) X 1 2 zc98 rfl rfl (fun _ => rfl) (by decide) (by decide) (by decide) rfl (by decide) (Nat.le_of_ble_eq_true rfl) (Nat.le_of_ble_eq_true rfl) dX5_init_13 (fun q1a hqq1a => ?_)
  refine z_at (pc2 := 15) (lv2 := [(0, .ref h0)]) (st2 := [.ref q1a, .ref h0]) (ws2 := [[(h0, .inr (6, [.ref q0a, .null, .null, .null, .null, .null, .null, .null, .int 0, .int 0, .int 0, .int 0]))], [(q0a, .inl (zcT C 1, 3, .inl (fun _ => 0)))], [(q1a, .inl (zcT C 1, 3, .inl (fun _ => 0)))]]) rfl rfl rfl [0] rfl ?_
  refine z_putF (ws2 := [[(h0, .inr (6, [.ref q0a, .ref q1a, .null, .null, .null, .null, .null, .null, .int 0, .int 0, .int 0, .int 0]))], [(q0a, .inl (zcT C 1, 3, .inl (fun _ => 0)))], [(q1a, .inl (zcT C 1, 3, .inl (fun _ => 0)))]]) (w2 := [(h0, .inr (6, [.ref q0a, .ref q1a, .null, .null, .null, .null, .null, .null, .int 0, .int 0, .int 0, .int 0]))]) X hin 0 0 6 1 ziX5 rfl tyX5 tyX5_ok nmX5 (by decide) zc50 rfl rfl rfl (ty := (.array .int)) (by decide +kernel) rfl rfl (by show 1 < 12; decide) dX5_init_15 rfl rfl (by decide) rfl rfl ?_
  refine z_aload_n X dX5_init_18 0 rfl ?_
  refine z_bipush (v := (36 : Int32)) X dX5_init_19 rfl ?_
  refine z_newa (mp2 := [0, 1, 2, 3]) (atype := .int) (ty := .int) (N' := 36) (a0 := (36, .inl (fun _ => 0))) X 1 3 zc98 rfl rfl (fun _ => rfl) (by decide) (by decide) (by decide) rfl (by decide) (Nat.le_of_ble_eq_true rfl) (Nat.le_of_ble_eq_true rfl) dX5_init_21 (fun q2a hqq2a => ?_)
  refine z_at (pc2 := 23) (lv2 := [(0, .ref h0)]) (st2 := [.ref q2a, .ref h0]) (ws2 := [[(h0, .inr (6, [.ref q0a, .ref q1a, .null, .null, .null, .null, .null, .null, .int 0, .int 0, .int 0, .int 0]))], [(q0a, .inl (zcT C 1, 3, .inl (fun _ => 0)))], [(q1a, .inl (zcT C 1, 3, .inl (fun _ => 0)))], [(q2a, .inl (zcT C 1, 36, .inl (fun _ => 0)))]]) rfl rfl rfl [0] rfl ?_
  refine z_putF (ws2 := [[(h0, .inr (6, [.ref q0a, .ref q1a, .ref q2a, .null, .null, .null, .null, .null, .int 0, .int 0, .int 0, .int 0]))], [(q0a, .inl (zcT C 1, 3, .inl (fun _ => 0)))], [(q1a, .inl (zcT C 1, 3, .inl (fun _ => 0)))], [(q2a, .inl (zcT C 1, 36, .inl (fun _ => 0)))]]) (w2 := [(h0, .inr (6, [.ref q0a, .ref q1a, .ref q2a, .null, .null, .null, .null, .null, .int 0, .int 0, .int 0, .int 0]))]) X hin 0 0 6 2 ziX5 rfl tyX5 tyX5_ok nmX5 (by decide) zc51 rfl rfl rfl (ty := (.array .int)) (by decide +kernel) rfl rfl (by show 2 < 12; decide) dX5_init_23 rfl rfl (by decide) rfl rfl ?_
  refine z_aload_n X dX5_init_26 0 rfl ?_
  refine z_bipush (v := (12 : Int32)) X dX5_init_27 rfl ?_
  refine z_newa (mp2 := [0, 1, 2, 3, 4]) (atype := .char) (ty := .char) (N' := 12) (a0 := (12, .inl (fun _ => 0))) X 0 4 zc99 rfl rfl (fun _ => rfl) (by decide) (by decide) (by decide) rfl (by decide) (Nat.le_of_ble_eq_true rfl) (Nat.le_of_ble_eq_true rfl) dX5_init_29 (fun q3a hqq3a => ?_)
  refine z_at (pc2 := 31) (lv2 := [(0, .ref h0)]) (st2 := [.ref q3a, .ref h0]) (ws2 := [[(h0, .inr (6, [.ref q0a, .ref q1a, .ref q2a, .null, .null, .null, .null, .null, .int 0, .int 0, .int 0, .int 0]))], [(q0a, .inl (zcT C 1, 3, .inl (fun _ => 0)))], [(q1a, .inl (zcT C 1, 3, .inl (fun _ => 0)))], [(q2a, .inl (zcT C 1, 36, .inl (fun _ => 0)))], [(q3a, .inl (zcT C 0, 12, .inl (fun _ => 0)))]]) rfl rfl rfl [0] rfl ?_
  refine z_putF (ws2 := [[(h0, .inr (6, [.ref q0a, .ref q1a, .ref q2a, .ref q3a, .null, .null, .null, .null, .int 0, .int 0, .int 0, .int 0]))], [(q0a, .inl (zcT C 1, 3, .inl (fun _ => 0)))], [(q1a, .inl (zcT C 1, 3, .inl (fun _ => 0)))], [(q2a, .inl (zcT C 1, 36, .inl (fun _ => 0)))], [(q3a, .inl (zcT C 0, 12, .inl (fun _ => 0)))]]) (w2 := [(h0, .inr (6, [.ref q0a, .ref q1a, .ref q2a, .ref q3a, .null, .null, .null, .null, .int 0, .int 0, .int 0, .int 0]))]) X hin 0 0 6 3 ziX5 rfl tyX5 tyX5_ok nmX5 (by decide) zc52 rfl rfl rfl (ty := (.array .char)) (by decide +kernel) rfl rfl (by show 3 < 12; decide) dX5_init_31 rfl rfl (by decide) rfl rfl ?_
  refine z_aload_n X dX5_init_34 0 rfl ?_
  refine z_bipush (v := (12 : Int32)) X dX5_init_35 rfl ?_
  refine z_newa (mp2 := [0, 1, 2, 3, 4, 5]) (atype := .int) (ty := .int) (N' := 12) (a0 := (12, .inl (fun _ => 0))) X 1 5 zc98 rfl rfl (fun _ => rfl) (by decide) (by decide) (by decide) rfl (by decide) (Nat.le_of_ble_eq_true rfl) (Nat.le_of_ble_eq_true rfl) dX5_init_37 (fun q4a hqq4a => ?_)
  refine z_at (pc2 := 39) (lv2 := [(0, .ref h0)]) (st2 := [.ref q4a, .ref h0]) (ws2 := [[(h0, .inr (6, [.ref q0a, .ref q1a, .ref q2a, .ref q3a, .null, .null, .null, .null, .int 0, .int 0, .int 0, .int 0]))], [(q0a, .inl (zcT C 1, 3, .inl (fun _ => 0)))], [(q1a, .inl (zcT C 1, 3, .inl (fun _ => 0)))], [(q2a, .inl (zcT C 1, 36, .inl (fun _ => 0)))], [(q3a, .inl (zcT C 0, 12, .inl (fun _ => 0)))], [(q4a, .inl (zcT C 1, 12, .inl (fun _ => 0)))]]) rfl rfl rfl [0] rfl ?_
  refine z_putF (ws2 := [[(h0, .inr (6, [.ref q0a, .ref q1a, .ref q2a, .ref q3a, .ref q4a, .null, .null, .null, .int 0, .int 0, .int 0, .int 0]))], [(q0a, .inl (zcT C 1, 3, .inl (fun _ => 0)))], [(q1a, .inl (zcT C 1, 3, .inl (fun _ => 0)))], [(q2a, .inl (zcT C 1, 36, .inl (fun _ => 0)))], [(q3a, .inl (zcT C 0, 12, .inl (fun _ => 0)))], [(q4a, .inl (zcT C 1, 12, .inl (fun _ => 0)))]]) (w2 := [(h0, .inr (6, [.ref q0a, .ref q1a, .ref q2a, .ref q3a, .ref q4a, .null, .null, .null, .int 0, .int 0, .int 0, .int 0]))]) X hin 0 0 6 4 ziX5 rfl tyX5 tyX5_ok nmX5 (by decide) zc53 rfl rfl rfl (ty := (.array .int)) (by decide +kernel) rfl rfl (by show 4 < 12; decide) dX5_init_39 rfl rfl (by decide) rfl rfl ?_
  refine z_aload_n X dX5_init_42 0 rfl ?_
  refine z_bipush (v := (12 : Int32)) X dX5_init_43 rfl ?_
  refine z_newa (mp2 := [0, 1, 2, 3, 4, 5, 6]) (atype := .boolean) (ty := .boolean) (N' := 12) (a0 := (12, .inl (fun _ => 0))) X 3 6 zc100 rfl rfl (fun _ => rfl) (by decide) (by decide) (by decide) rfl (by decide) (Nat.le_of_ble_eq_true rfl) (Nat.le_of_ble_eq_true rfl) dX5_init_45 (fun q5a hqq5a => ?_)
  refine z_at (pc2 := 47) (lv2 := [(0, .ref h0)]) (st2 := [.ref q5a, .ref h0]) (ws2 := [[(h0, .inr (6, [.ref q0a, .ref q1a, .ref q2a, .ref q3a, .ref q4a, .null, .null, .null, .int 0, .int 0, .int 0, .int 0]))], [(q0a, .inl (zcT C 1, 3, .inl (fun _ => 0)))], [(q1a, .inl (zcT C 1, 3, .inl (fun _ => 0)))], [(q2a, .inl (zcT C 1, 36, .inl (fun _ => 0)))], [(q3a, .inl (zcT C 0, 12, .inl (fun _ => 0)))], [(q4a, .inl (zcT C 1, 12, .inl (fun _ => 0)))], [(q5a, .inl (zcT C 3, 12, .inl (fun _ => 0)))]]) rfl rfl rfl [0] rfl ?_
  refine z_putF (ws2 := [[(h0, .inr (6, [.ref q0a, .ref q1a, .ref q2a, .ref q3a, .ref q4a, .ref q5a, .null, .null, .int 0, .int 0, .int 0, .int 0]))], [(q0a, .inl (zcT C 1, 3, .inl (fun _ => 0)))], [(q1a, .inl (zcT C 1, 3, .inl (fun _ => 0)))], [(q2a, .inl (zcT C 1, 36, .inl (fun _ => 0)))], [(q3a, .inl (zcT C 0, 12, .inl (fun _ => 0)))], [(q4a, .inl (zcT C 1, 12, .inl (fun _ => 0)))], [(q5a, .inl (zcT C 3, 12, .inl (fun _ => 0)))]]) (w2 := [(h0, .inr (6, [.ref q0a, .ref q1a, .ref q2a, .ref q3a, .ref q4a, .ref q5a, .null, .null, .int 0, .int 0, .int 0, .int 0]))]) X hin 0 0 6 5 ziX5 rfl tyX5 tyX5_ok nmX5 (by decide) zc54 rfl rfl rfl (ty := (.array .boolean)) (by decide +kernel) rfl rfl (by show 5 < 12; decide) dX5_init_47 rfl rfl (by decide) rfl rfl ?_
  refine z_aload_n X dX5_init_50 0 rfl ?_
  refine z_bipush (v := (9 : Int32)) X dX5_init_51 rfl ?_
  refine z_newa (mp2 := [0, 1, 2, 3, 4, 5, 6, 7]) (atype := .int) (ty := .int) (N' := 9) (a0 := (9, .inl (fun _ => 0))) X 1 7 zc98 rfl rfl (fun _ => rfl) (by decide) (by decide) (by decide) rfl (by decide) (Nat.le_of_ble_eq_true rfl) (Nat.le_of_ble_eq_true rfl) dX5_init_53 (fun q6a hqq6a => ?_)
  refine z_at (pc2 := 55) (lv2 := [(0, .ref h0)]) (st2 := [.ref q6a, .ref h0]) (ws2 := [[(h0, .inr (6, [.ref q0a, .ref q1a, .ref q2a, .ref q3a, .ref q4a, .ref q5a, .null, .null, .int 0, .int 0, .int 0, .int 0]))], [(q0a, .inl (zcT C 1, 3, .inl (fun _ => 0)))], [(q1a, .inl (zcT C 1, 3, .inl (fun _ => 0)))], [(q2a, .inl (zcT C 1, 36, .inl (fun _ => 0)))], [(q3a, .inl (zcT C 0, 12, .inl (fun _ => 0)))], [(q4a, .inl (zcT C 1, 12, .inl (fun _ => 0)))], [(q5a, .inl (zcT C 3, 12, .inl (fun _ => 0)))], [(q6a, .inl (zcT C 1, 9, .inl (fun _ => 0)))]]) rfl rfl rfl [0] rfl ?_
  refine z_putF (ws2 := [[(h0, .inr (6, [.ref q0a, .ref q1a, .ref q2a, .ref q3a, .ref q4a, .ref q5a, .ref q6a, .null, .int 0, .int 0, .int 0, .int 0]))], [(q0a, .inl (zcT C 1, 3, .inl (fun _ => 0)))], [(q1a, .inl (zcT C 1, 3, .inl (fun _ => 0)))], [(q2a, .inl (zcT C 1, 36, .inl (fun _ => 0)))], [(q3a, .inl (zcT C 0, 12, .inl (fun _ => 0)))], [(q4a, .inl (zcT C 1, 12, .inl (fun _ => 0)))], [(q5a, .inl (zcT C 3, 12, .inl (fun _ => 0)))], [(q6a, .inl (zcT C 1, 9, .inl (fun _ => 0)))]]) (w2 := [(h0, .inr (6, [.ref q0a, .ref q1a, .ref q2a, .ref q3a, .ref q4a, .ref q5a, .ref q6a, .null, .int 0, .int 0, .int 0, .int 0]))]) X hin 0 0 6 6 ziX5 rfl tyX5 tyX5_ok nmX5 (by decide) zc55 rfl rfl rfl (ty := (.array .int)) (by decide +kernel) rfl rfl (by show 6 < 12; decide) dX5_init_55 rfl rfl (by decide) rfl rfl ?_
  refine z_aload_n X dX5_init_58 0 rfl ?_
  refine z_iconst (v := (3 : Int32)) X dX5_init_59 rfl ?_
  refine z_newa (mp2 := [0, 1, 2, 3, 4, 5, 6, 7, 8]) (atype := .int) (ty := .int) (N' := 3) (a0 := (3, .inl (fun _ => 0))) X 1 8 zc98 rfl rfl (fun _ => rfl) (by decide) (by decide) (by decide) rfl (by decide) (Nat.le_of_ble_eq_true rfl) (Nat.le_of_ble_eq_true rfl) dX5_init_60 (fun q7a hqq7a => ?_)
  refine z_at (pc2 := 62) (lv2 := [(0, .ref h0)]) (st2 := [.ref q7a, .ref h0]) (ws2 := [[(h0, .inr (6, [.ref q0a, .ref q1a, .ref q2a, .ref q3a, .ref q4a, .ref q5a, .ref q6a, .null, .int 0, .int 0, .int 0, .int 0]))], [(q0a, .inl (zcT C 1, 3, .inl (fun _ => 0)))], [(q1a, .inl (zcT C 1, 3, .inl (fun _ => 0)))], [(q2a, .inl (zcT C 1, 36, .inl (fun _ => 0)))], [(q3a, .inl (zcT C 0, 12, .inl (fun _ => 0)))], [(q4a, .inl (zcT C 1, 12, .inl (fun _ => 0)))], [(q5a, .inl (zcT C 3, 12, .inl (fun _ => 0)))], [(q6a, .inl (zcT C 1, 9, .inl (fun _ => 0)))], [(q7a, .inl (zcT C 1, 3, .inl (fun _ => 0)))]]) rfl rfl rfl [0] rfl ?_
  refine z_putF (ws2 := [[(h0, .inr (6, [.ref q0a, .ref q1a, .ref q2a, .ref q3a, .ref q4a, .ref q5a, .ref q6a, .ref q7a, .int 0, .int 0, .int 0, .int 0]))], [(q0a, .inl (zcT C 1, 3, .inl (fun _ => 0)))], [(q1a, .inl (zcT C 1, 3, .inl (fun _ => 0)))], [(q2a, .inl (zcT C 1, 36, .inl (fun _ => 0)))], [(q3a, .inl (zcT C 0, 12, .inl (fun _ => 0)))], [(q4a, .inl (zcT C 1, 12, .inl (fun _ => 0)))], [(q5a, .inl (zcT C 3, 12, .inl (fun _ => 0)))], [(q6a, .inl (zcT C 1, 9, .inl (fun _ => 0)))], [(q7a, .inl (zcT C 1, 3, .inl (fun _ => 0)))]]) (w2 := [(h0, .inr (6, [.ref q0a, .ref q1a, .ref q2a, .ref q3a, .ref q4a, .ref q5a, .ref q6a, .ref q7a, .int 0, .int 0, .int 0, .int 0]))]) X hin 0 0 6 7 ziX5 rfl tyX5 tyX5_ok nmX5 (by decide) zc56 rfl rfl rfl (ty := (.array .int)) (by decide +kernel) rfl rfl (by show 7 < 12; decide) dX5_init_62 rfl rfl (by decide) rfl rfl ?_
  exact z_cret (G := zgX5 (zcT C)) X hQ dX5_init_65 (fun k => [h0, q0a, q1a, q2a, q3a, q4a, q5a, q6a, q7a, 0, 0, 0, 0].getD k 0) rfl [[(0, 0), (1, 0), (2, 0), (3, 0), (4, 0), (5, 0), (6, 0), (7, 0), (8, 0)]] rfl (by decide) (by decide) (by decide) (by decide)
/-- what Tableaufloor$Sides() leaves -/
def zs0X7 : zSt := zst0
abbrev zgX7 (T : Nat → ClassId) (u : Nat → Nat) : List va_W := [wX7 T u zs0X7]
abbrev rmcX7 : Room := { frames := 1, cells := 3, slots := 90, locals := 12 }
set_option maxRecDepth 20000 in
set_option maxHeartbeats 4000000 in
theorem mcX7 (l : Launch) (D : va_G) (T : Nat → ClassId) (h0 : Nat) (sz : Nat) : Met l yX7_init (zws yX7_init cX7_init 1 none) rmcX7 (zPcE D T [.ref h0] [[(h0, .inr (8, [.null, .null, .null, .int 0]))]] sz) (zQn D h0 (zgX7 T) (zA [[(h0, .inr (8, [.null, .null, .null, .int 0]))]] sz)) 3 90 (zA [[(h0, .inr (8, [.null, .null, .null, .int 0]))]] sz) := by
  refine zMetC (l := l) (y := yX7_init) (cc := cX7_init) (maxL := 1) (rm := rmcX7) (mc := 3) (ms := 90) (D := D) (T := T) (av := [.ref h0]) (ws := fun T => [[(h0, .inr (8, [.null, .null, .null, .int 0]))]]) (wm := fun T => [[(h0, .inr (8, [.null, .null, .null, .int 0]))]]) (lv0 := [(0, .ref h0)]) [0] (Qc := fun D T A => zQn D h0 (zgX7 T) A) (EX := fun U => va_AO RX4 U) (by decide +kernel) rfl rfl (Nat.le_of_ble_eq_true rfl) rfl (fun _ _ _ _ h => h) ?_ sz
  intro C X hin hAO hQ
  refine z_aload_n X dX7_init_0 0 rfl ?_
  refine z_objInit X zc169 zc41 zc42 dX7_init_1 (Nat.le_of_ble_eq_true rfl) (Nat.le_of_ble_eq_true rfl) ?_
  refine z_aload_n X dX7_init_4 0 rfl ?_
  refine z_bipush (v := (54 : Int32)) X dX7_init_5 rfl ?_
  refine z_newa (mp2 := [0, 1]) (atype := .int) (ty := .int) (N' := 54) (a0 := (54, .inl (fun _ => 0))) X 1 1 zc98 rfl rfl (fun _ => rfl) (by decide) (by decide) (by decide) rfl (by decide) (Nat.le_of_ble_eq_true rfl) (Nat.le_of_ble_eq_true rfl) dX7_init_7 (fun q0a hqq0a => ?_)
  refine z_at (pc2 := 9) (lv2 := [(0, .ref h0)]) (st2 := [.ref q0a, .ref h0]) (ws2 := [[(h0, .inr (8, [.null, .null, .null, .int 0]))], [(q0a, .inl (zcT C 1, 54, .inl (fun _ => 0)))]]) rfl rfl rfl [0] rfl ?_
  refine z_putF (ws2 := [[(h0, .inr (8, [.ref q0a, .null, .null, .int 0]))], [(q0a, .inl (zcT C 1, 54, .inl (fun _ => 0)))]]) (w2 := [(h0, .inr (8, [.ref q0a, .null, .null, .int 0]))]) X hin 0 0 8 0 ziX7 rfl tyX7 tyX7_ok nmX7 (by decide) zc170 rfl rfl rfl (ty := (.array .int)) (by decide +kernel) rfl rfl (by show 0 < 4; decide) dX7_init_9 rfl rfl (by decide) rfl rfl ?_
  refine z_aload_n X dX7_init_12 0 rfl ?_
  refine z_bipush (v := (18 : Int32)) X dX7_init_13 rfl ?_
  refine z_newa (mp2 := [0, 1, 2]) (atype := .int) (ty := .int) (N' := 18) (a0 := (18, .inl (fun _ => 0))) X 1 2 zc98 rfl rfl (fun _ => rfl) (by decide) (by decide) (by decide) rfl (by decide) (Nat.le_of_ble_eq_true rfl) (Nat.le_of_ble_eq_true rfl) dX7_init_15 (fun q1a hqq1a => ?_)
  refine z_at (pc2 := 17) (lv2 := [(0, .ref h0)]) (st2 := [.ref q1a, .ref h0]) (ws2 := [[(h0, .inr (8, [.ref q0a, .null, .null, .int 0]))], [(q0a, .inl (zcT C 1, 54, .inl (fun _ => 0)))], [(q1a, .inl (zcT C 1, 18, .inl (fun _ => 0)))]]) rfl rfl rfl [0] rfl ?_
  refine z_putF (ws2 := [[(h0, .inr (8, [.ref q0a, .ref q1a, .null, .int 0]))], [(q0a, .inl (zcT C 1, 54, .inl (fun _ => 0)))], [(q1a, .inl (zcT C 1, 18, .inl (fun _ => 0)))]]) (w2 := [(h0, .inr (8, [.ref q0a, .ref q1a, .null, .int 0]))]) X hin 0 0 8 1 ziX7 rfl tyX7 tyX7_ok nmX7 (by decide) zc171 rfl rfl rfl (ty := (.array .int)) (by decide +kernel) rfl rfl (by show 1 < 4; decide) dX7_init_17 rfl rfl (by decide) rfl rfl ?_
  refine z_aload_n X dX7_init_20 0 rfl ?_
  refine z_bipush (v := (18 : Int32)) X dX7_init_21 rfl ?_
  refine z_newa (mp2 := [0, 1, 2, 3]) (atype := .boolean) (ty := .boolean) (N' := 18) (a0 := (18, .inl (fun _ => 0))) X 3 3 zc100 rfl rfl (fun _ => rfl) (by decide) (by decide) (by decide) rfl (by decide) (Nat.le_of_ble_eq_true rfl) (Nat.le_of_ble_eq_true rfl) dX7_init_23 (fun q2a hqq2a => ?_)
  refine z_at (pc2 := 25) (lv2 := [(0, .ref h0)]) (st2 := [.ref q2a, .ref h0]) (ws2 := [[(h0, .inr (8, [.ref q0a, .ref q1a, .null, .int 0]))], [(q0a, .inl (zcT C 1, 54, .inl (fun _ => 0)))], [(q1a, .inl (zcT C 1, 18, .inl (fun _ => 0)))], [(q2a, .inl (zcT C 3, 18, .inl (fun _ => 0)))]]) rfl rfl rfl [0] rfl ?_
  refine z_putF (ws2 := [[(h0, .inr (8, [.ref q0a, .ref q1a, .ref q2a, .int 0]))], [(q0a, .inl (zcT C 1, 54, .inl (fun _ => 0)))], [(q1a, .inl (zcT C 1, 18, .inl (fun _ => 0)))], [(q2a, .inl (zcT C 3, 18, .inl (fun _ => 0)))]]) (w2 := [(h0, .inr (8, [.ref q0a, .ref q1a, .ref q2a, .int 0]))]) X hin 0 0 8 2 ziX7 rfl tyX7 tyX7_ok nmX7 (by decide) zc172 rfl rfl rfl (ty := (.array .boolean)) (by decide +kernel) rfl rfl (by show 2 < 4; decide) dX7_init_25 rfl rfl (by decide) rfl rfl ?_
  exact z_cret (G := zgX7 (zcT C)) X hQ dX7_init_28 (fun k => [h0, q0a, q1a, q2a, 0].getD k 0) rfl [[(0, 0), (1, 0), (2, 0), (3, 0)]] rfl (by decide) (by decide) (by decide) (by decide)
/-- what Tableaufloor$Text() leaves -/
def zs0X8 : zSt := (zsi (zsi (zsi zst0 5 (45 : Int32)) 7 (1 : Int32)) 8 (61 : Int32))
abbrev zgX8 (T : Nat → ClassId) (u : Nat → Nat) : List va_W := [wX8 T u zs0X8]
abbrev rmcX8 : Room := { frames := 1, cells := 2, slots := 33, locals := 12 }
set_option maxRecDepth 20000 in
set_option maxHeartbeats 4000000 in
theorem mcX8 (l : Launch) (D : va_G) (T : Nat → ClassId) (h0 : Nat) (sz : Nat) : Met l yX8_init (zws yX8_init cX8_init 1 none) rmcX8 (zPcE D T [.ref h0] [[(h0, .inr (9, [.null, .null, .int 0, .int 0, .int 0, .int 0, .int 0, .int 0, .int 0, .int 0]))]] sz) (zQn D h0 (zgX8 T) (zA [[(h0, .inr (9, [.null, .null, .int 0, .int 0, .int 0, .int 0, .int 0, .int 0, .int 0, .int 0]))]] sz)) 2 33 (zA [[(h0, .inr (9, [.null, .null, .int 0, .int 0, .int 0, .int 0, .int 0, .int 0, .int 0, .int 0]))]] sz) := by
  refine zMetC (l := l) (y := yX8_init) (cc := cX8_init) (maxL := 1) (rm := rmcX8) (mc := 2) (ms := 33) (D := D) (T := T) (av := [.ref h0]) (ws := fun T => [[(h0, .inr (9, [.null, .null, .int 0, .int 0, .int 0, .int 0, .int 0, .int 0, .int 0, .int 0]))]]) (wm := fun T => [[(h0, .inr (9, [.null, .null, .int 0, .int 0, .int 0, .int 0, .int 0, .int 0, .int 0, .int 0]))]]) (lv0 := [(0, .ref h0)]) [0] (Qc := fun D T A => zQn D h0 (zgX8 T) A) (EX := fun U => va_AO RX4 U) (by decide +kernel) rfl rfl (Nat.le_of_ble_eq_true rfl) rfl (fun _ _ _ _ h => h) ?_ sz
  intro C X hin hAO hQ
  refine z_aload_n X dX8_init_0 0 rfl ?_
  refine z_objInit X zc106 zc41 zc42 dX8_init_1 (Nat.le_of_ble_eq_true rfl) (Nat.le_of_ble_eq_true rfl) ?_
  refine z_aload_n X dX8_init_4 0 rfl ?_
  refine z_bipush (v := (30 : Int32)) X dX8_init_5 rfl ?_
  refine z_newa (mp2 := [0, 1]) (atype := .char) (ty := .char) (N' := 30) (a0 := (30, .inl (fun _ => 0))) X 0 1 zc99 rfl rfl (fun _ => rfl) (by decide) (by decide) (by decide) rfl (by decide) (Nat.le_of_ble_eq_true rfl) (Nat.le_of_ble_eq_true rfl) dX8_init_7 (fun q0a hqq0a => ?_)
  refine z_at (pc2 := 9) (lv2 := [(0, .ref h0)]) (st2 := [.ref q0a, .ref h0]) (ws2 := [[(h0, .inr (9, [.null, .null, .int 0, .int 0, .int 0, .int 0, .int 0, .int 0, .int 0, .int 0]))], [(q0a, .inl (zcT C 0, 30, .inl (fun _ => 0)))]]) rfl rfl rfl [0] rfl ?_
  refine z_putF (ws2 := [[(h0, .inr (9, [.ref q0a, .null, .int 0, .int 0, .int 0, .int 0, .int 0, .int 0, .int 0, .int 0]))], [(q0a, .inl (zcT C 0, 30, .inl (fun _ => 0)))]]) (w2 := [(h0, .inr (9, [.ref q0a, .null, .int 0, .int 0, .int 0, .int 0, .int 0, .int 0, .int 0, .int 0]))]) X hin 0 0 9 0 ziX8 rfl tyX8 tyX8_ok nmX8 (by decide) zc107 rfl rfl rfl (ty := (.array .char)) (by decide +kernel) rfl rfl (by show 0 < 10; decide) dX8_init_9 rfl rfl (by decide) rfl rfl ?_
  refine z_aload_n X dX8_init_12 0 rfl ?_
  refine z_iconst (v := (3 : Int32)) X dX8_init_13 rfl ?_
  refine z_newa (mp2 := [0, 1, 2]) (atype := .int) (ty := .int) (N' := 3) (a0 := (3, .inl (fun _ => 0))) X 1 2 zc98 rfl rfl (fun _ => rfl) (by decide) (by decide) (by decide) rfl (by decide) (Nat.le_of_ble_eq_true rfl) (Nat.le_of_ble_eq_true rfl) dX8_init_14 (fun q1a hqq1a => ?_)
  refine z_at (pc2 := 16) (lv2 := [(0, .ref h0)]) (st2 := [.ref q1a, .ref h0]) (ws2 := [[(h0, .inr (9, [.ref q0a, .null, .int 0, .int 0, .int 0, .int 0, .int 0, .int 0, .int 0, .int 0]))], [(q0a, .inl (zcT C 0, 30, .inl (fun _ => 0)))], [(q1a, .inl (zcT C 1, 3, .inl (fun _ => 0)))]]) rfl rfl rfl [0] rfl ?_
  refine z_putF (ws2 := [[(h0, .inr (9, [.ref q0a, .ref q1a, .int 0, .int 0, .int 0, .int 0, .int 0, .int 0, .int 0, .int 0]))], [(q0a, .inl (zcT C 0, 30, .inl (fun _ => 0)))], [(q1a, .inl (zcT C 1, 3, .inl (fun _ => 0)))]]) (w2 := [(h0, .inr (9, [.ref q0a, .ref q1a, .int 0, .int 0, .int 0, .int 0, .int 0, .int 0, .int 0, .int 0]))]) X hin 0 0 9 1 ziX8 rfl tyX8 tyX8_ok nmX8 (by decide) zc108 rfl rfl rfl (ty := (.array .int)) (by decide +kernel) rfl rfl (by show 1 < 10; decide) dX8_init_16 rfl rfl (by decide) rfl rfl ?_
  refine z_aload_n X dX8_init_19 0 rfl ?_
  refine z_bipush (v := (45 : Int32)) X dX8_init_20 rfl ?_
  refine z_put (ws2 := [[(h0, .inr (9, [.ref q0a, .ref q1a, .int 0, .int 0, .int 0, .int (45 : Int32), .int 0, .int 0, .int 0, .int 0]))], [(q0a, .inl (zcT C 0, 30, .inl (fun _ => 0)))], [(q1a, .inl (zcT C 1, 3, .inl (fun _ => 0)))]]) (w2 := [(h0, .inr (9, [.ref q0a, .ref q1a, .int 0, .int 0, .int 0, .int (45 : Int32), .int 0, .int 0, .int 0, .int 0]))]) X 0 0 9 5 ziX8 rfl tyX8 tyX8_ok nmX8 (by decide) zc113 rfl rfl (ty := .char) (by decide +kernel) rfl rfl (by show 5 < 10; decide) dX8_init_22 rfl rfl (by decide) rfl rfl ?_
  refine z_aload_n X dX8_init_25 0 rfl ?_
  refine z_iconst (v := (1 : Int32)) X dX8_init_26 rfl ?_
  refine z_put (ws2 := [[(h0, .inr (9, [.ref q0a, .ref q1a, .int 0, .int 0, .int 0, .int (45 : Int32), .int 0, .int (1 : Int32), .int 0, .int 0]))], [(q0a, .inl (zcT C 0, 30, .inl (fun _ => 0)))], [(q1a, .inl (zcT C 1, 3, .inl (fun _ => 0)))]]) (w2 := [(h0, .inr (9, [.ref q0a, .ref q1a, .int 0, .int 0, .int 0, .int (45 : Int32), .int 0, .int (1 : Int32), .int 0, .int 0]))]) X 0 0 9 7 ziX8 rfl tyX8 tyX8_ok nmX8 (by decide) zc117 rfl rfl (ty := .int) (by decide +kernel) rfl rfl (by show 7 < 10; decide) dX8_init_27 rfl rfl (by decide) rfl rfl ?_
  refine z_aload_n X dX8_init_30 0 rfl ?_
  refine z_bipush (v := (61 : Int32)) X dX8_init_31 rfl ?_
  refine z_put (ws2 := [[(h0, .inr (9, [.ref q0a, .ref q1a, .int 0, .int 0, .int 0, .int (45 : Int32), .int 0, .int (1 : Int32), .int (61 : Int32), .int 0]))], [(q0a, .inl (zcT C 0, 30, .inl (fun _ => 0)))], [(q1a, .inl (zcT C 1, 3, .inl (fun _ => 0)))]]) (w2 := [(h0, .inr (9, [.ref q0a, .ref q1a, .int 0, .int 0, .int 0, .int (45 : Int32), .int 0, .int (1 : Int32), .int (61 : Int32), .int 0]))]) X 0 0 9 8 ziX8 rfl tyX8 tyX8_ok nmX8 (by decide) zc119 rfl rfl (ty := .char) (by decide +kernel) rfl rfl (by show 8 < 10; decide) dX8_init_33 rfl rfl (by decide) rfl rfl ?_
  exact z_cret (G := zgX8 (zcT C)) X hQ dX8_init_36 (fun k => [h0, q0a, q1a, 0, 0, 0, 0, 0, 0, 0, 0].getD k 0) rfl [[(0, 0), (1, 0), (2, 0)]] rfl (by decide) (by decide) (by decide) (by decide)
/-- what Tableaufloor$Dictionary() leaves -/
def zs0X1 : zSt := (zsl zst0 4 (1 : Int64))
abbrev zgX1 (T : Nat → ClassId) (u : Nat → Nat) : List va_W := [wX1 T u zs0X1]
abbrev rmcX1 : Room := { frames := 1, cells := 3, slots := 102, locals := 12 }
set_option maxRecDepth 20000 in
set_option maxHeartbeats 4000000 in
theorem mcX1 (l : Launch) (D : va_G) (T : Nat → ClassId) (h0 : Nat) (sz : Nat) : Met l yX1_init (zws yX1_init cX1_init 1 none) rmcX1 (zPcE D T [.ref h0] [[(h0, .inr (2, [.null, .null, .null, .int 0, .long 0]))]] sz) (zQn D h0 (zgX1 T) (zA [[(h0, .inr (2, [.null, .null, .null, .int 0, .long 0]))]] sz)) 3 102 (zA [[(h0, .inr (2, [.null, .null, .null, .int 0, .long 0]))]] sz) := by
  refine zMetC (l := l) (y := yX1_init) (cc := cX1_init) (maxL := 1) (rm := rmcX1) (mc := 3) (ms := 102) (D := D) (T := T) (av := [.ref h0]) (ws := fun T => [[(h0, .inr (2, [.null, .null, .null, .int 0, .long 0]))]]) (wm := fun T => [[(h0, .inr (2, [.null, .null, .null, .int 0, .long 0]))]]) (lv0 := [(0, .ref h0)]) [0] (Qc := fun D T A => zQn D h0 (zgX1 T) A) (EX := fun U => va_AO RX4 U) (by decide +kernel) rfl rfl (Nat.le_of_ble_eq_true rfl) rfl (fun _ _ _ _ h => h) ?_ sz
  intro C X hin hAO hQ
  refine z_aload_n X dX1_init_0 0 rfl ?_
  refine z_objInit X zc191 zc41 zc42 dX1_init_1 (Nat.le_of_ble_eq_true rfl) (Nat.le_of_ble_eq_true rfl) ?_
  refine z_aload_n X dX1_init_4 0 rfl ?_
  refine z_bipush (v := (84 : Int32)) X dX1_init_5 rfl ?_
  refine z_newa (mp2 := [0, 1]) (atype := .long) (ty := .long) (N' := 84) (a0 := (84, .inr (.inl (fun _ => 0)))) X 2 1 zc211 rfl rfl (fun _ => rfl) (by decide) (by decide) (by decide) rfl (by decide) (Nat.le_of_ble_eq_true rfl) (Nat.le_of_ble_eq_true rfl) dX1_init_7 (fun q0a hqq0a => ?_)
  refine z_at (pc2 := 9) (lv2 := [(0, .ref h0)]) (st2 := [.ref q0a, .ref h0]) (ws2 := [[(h0, .inr (2, [.null, .null, .null, .int 0, .long 0]))], [(q0a, .inl (zcT C 2, 84, .inr (.inl (fun _ => 0))))]]) rfl rfl rfl [0] rfl ?_
  refine z_putF (ws2 := [[(h0, .inr (2, [.ref q0a, .null, .null, .int 0, .long 0]))], [(q0a, .inl (zcT C 2, 84, .inr (.inl (fun _ => 0))))]]) (w2 := [(h0, .inr (2, [.ref q0a, .null, .null, .int 0, .long 0]))]) X hin 0 0 2 0 ziX1 rfl tyX1 tyX1_ok nmX1 (by decide) zc192 rfl rfl rfl (ty := (.array .long)) (by decide +kernel) rfl rfl (by show 0 < 5; decide) dX1_init_9 rfl rfl (by decide) rfl rfl ?_
  refine z_aload_n X dX1_init_12 0 rfl ?_
  refine z_bipush (v := (15 : Int32)) X dX1_init_13 rfl ?_
  refine z_newa (mp2 := [0, 1, 2]) (atype := .int) (ty := .int) (N' := 15) (a0 := (15, .inl (fun _ => 0))) X 1 2 zc98 rfl rfl (fun _ => rfl) (by decide) (by decide) (by decide) rfl (by decide) (Nat.le_of_ble_eq_true rfl) (Nat.le_of_ble_eq_true rfl) dX1_init_15 (fun q1a hqq1a => ?_)
  refine z_at (pc2 := 17) (lv2 := [(0, .ref h0)]) (st2 := [.ref q1a, .ref h0]) (ws2 := [[(h0, .inr (2, [.ref q0a, .null, .null, .int 0, .long 0]))], [(q0a, .inl (zcT C 2, 84, .inr (.inl (fun _ => 0))))], [(q1a, .inl (zcT C 1, 15, .inl (fun _ => 0)))]]) rfl rfl rfl [0] rfl ?_
  refine z_putF (ws2 := [[(h0, .inr (2, [.ref q0a, .ref q1a, .null, .int 0, .long 0]))], [(q0a, .inl (zcT C 2, 84, .inr (.inl (fun _ => 0))))], [(q1a, .inl (zcT C 1, 15, .inl (fun _ => 0)))]]) (w2 := [(h0, .inr (2, [.ref q0a, .ref q1a, .null, .int 0, .long 0]))]) X hin 0 0 2 1 ziX1 rfl tyX1 tyX1_ok nmX1 (by decide) zc193 rfl rfl rfl (ty := (.array .int)) (by decide +kernel) rfl rfl (by show 1 < 5; decide) dX1_init_17 rfl rfl (by decide) rfl rfl ?_
  refine z_aload_n X dX1_init_20 0 rfl ?_
  refine z_iconst (v := (3 : Int32)) X dX1_init_21 rfl ?_
  refine z_newa (mp2 := [0, 1, 2, 3]) (atype := .int) (ty := .int) (N' := 3) (a0 := (3, .inl (fun _ => 0))) X 1 3 zc98 rfl rfl (fun _ => rfl) (by decide) (by decide) (by decide) rfl (by decide) (Nat.le_of_ble_eq_true rfl) (Nat.le_of_ble_eq_true rfl) dX1_init_22 (fun q2a hqq2a => ?_)
  refine z_at (pc2 := 24) (lv2 := [(0, .ref h0)]) (st2 := [.ref q2a, .ref h0]) (ws2 := [[(h0, .inr (2, [.ref q0a, .ref q1a, .null, .int 0, .long 0]))], [(q0a, .inl (zcT C 2, 84, .inr (.inl (fun _ => 0))))], [(q1a, .inl (zcT C 1, 15, .inl (fun _ => 0)))], [(q2a, .inl (zcT C 1, 3, .inl (fun _ => 0)))]]) rfl rfl rfl [0] rfl ?_
  refine z_putF (ws2 := [[(h0, .inr (2, [.ref q0a, .ref q1a, .ref q2a, .int 0, .long 0]))], [(q0a, .inl (zcT C 2, 84, .inr (.inl (fun _ => 0))))], [(q1a, .inl (zcT C 1, 15, .inl (fun _ => 0)))], [(q2a, .inl (zcT C 1, 3, .inl (fun _ => 0)))]]) (w2 := [(h0, .inr (2, [.ref q0a, .ref q1a, .ref q2a, .int 0, .long 0]))]) X hin 0 0 2 2 ziX1 rfl tyX1 tyX1_ok nmX1 (by decide) zc194 rfl rfl rfl (ty := (.array .int)) (by decide +kernel) rfl rfl (by show 2 < 5; decide) dX1_init_24 rfl rfl (by decide) rfl rfl ?_
  refine z_aload_n X dX1_init_27 0 rfl ?_
  refine z_lconst (v := (1 : Int64)) X dX1_init_28 rfl ?_
  refine z_put (ws2 := [[(h0, .inr (2, [.ref q0a, .ref q1a, .ref q2a, .int 0, .long (1 : Int64)]))], [(q0a, .inl (zcT C 2, 84, .inr (.inl (fun _ => 0))))], [(q1a, .inl (zcT C 1, 15, .inl (fun _ => 0)))], [(q2a, .inl (zcT C 1, 3, .inl (fun _ => 0)))]]) (w2 := [(h0, .inr (2, [.ref q0a, .ref q1a, .ref q2a, .int 0, .long (1 : Int64)]))]) X 0 0 2 4 ziX1 rfl tyX1 tyX1_ok nmX1 (by decide) zc197 rfl rfl (ty := .long) (by decide +kernel) rfl rfl (by show 4 < 5; decide) dX1_init_29 rfl rfl (by decide) rfl rfl ?_
  exact z_cret (G := zgX1 (zcT C)) X hQ dX1_init_32 (fun k => [h0, q0a, q1a, q2a, 0, 0].getD k 0) rfl [[(0, 0), (1, 0), (2, 0), (3, 0)]] rfl (by decide) (by decide) (by decide) (by decide)
/-- what Tableaufloor$Walk() leaves -/
def zs0X9 : zSt := (zsi (zsi (zsi (zsi zst0 5 (111 : Int32)) 6 (-1 : Int32)) 7 (-1 : Int32)) 8 (-1 : Int32))
abbrev zgX9 (T : Nat → ClassId) (hp : Nat) (u : Nat → Nat) : List va_W := [wX9 T u hp (u 100) (u 200) (u 300) zs0X9, wX7 T (fun k => u (100 + k)) zs0X7, wX1 T (fun k => u (200 + k)) zs0X1, wX4 T (fun k => u (300 + k)) zs0X4]
abbrev rmcX9 : Room := { frames := 2, cells := 11, slots := 210, locals := 32 }
set_option maxRecDepth 20000 in
set_option maxHeartbeats 4000000 in
theorem mcX9 (l : Launch) (D : va_G) (T : Nat → ClassId) (h0 : Nat) (hp : Nat) (sz : Nat) : Met l yX9_init (zws yX9_init cX9_init 2 none) rmcX9 (zPcE D T [.ref h0, .ref hp] [[(h0, .inr (10, [.null, .null, .null, .null, .null, .int 0, .int 0, .int 0, .int 0, .int 0]))]] sz) (zQn D h0 (zgX9 T hp) (zA [[(h0, .inr (10, [.null, .null, .null, .null, .null, .int 0, .int 0, .int 0, .int 0, .int 0]))]] sz)) 11 210 (zA [[(h0, .inr (10, [.null, .null, .null, .null, .null, .int 0, .int 0, .int 0, .int 0, .int 0]))]] sz) := by
  refine zMetC (l := l) (y := yX9_init) (cc := cX9_init) (maxL := 2) (rm := rmcX9) (mc := 11) (ms := 210) (D := D) (T := T) (av := [.ref h0, .ref hp]) (ws := fun T => [[(h0, .inr (10, [.null, .null, .null, .null, .null, .int 0, .int 0, .int 0, .int 0, .int 0]))]]) (wm := fun T => [[(h0, .inr (10, [.null, .null, .null, .null, .null, .int 0, .int 0, .int 0, .int 0, .int 0]))]]) (lv0 := [(0, .ref h0), (1, .ref hp)]) [0] (Qc := fun D T A => zQn D h0 (zgX9 T hp) A) (EX := fun U => va_AO RX4 U) (by decide +kernel) rfl rfl (Nat.le_of_ble_eq_true rfl) rfl (fun _ _ _ _ h => h) ?_ sz
  intro C X hin hAO hQ
  refine z_aload_n X dX9_init_0 0 rfl ?_
  refine z_objInit X zc163 zc41 zc42 dX9_init_1 (Nat.le_of_ble_eq_true rfl) (Nat.le_of_ble_eq_true rfl) ?_
  refine z_aload_n X dX9_init_4 0 rfl ?_
  refine z_new (mp2 := [0, 1]) (ci := 8) (fs := [.null, .null, .null, .int 0]) X 1 ziX7 tyX7 tyX7_ok zc164 zc165 zc6 rfl (by decide +kernel) rfl (by decide) (Nat.le_of_ble_eq_true rfl) (Nat.le_of_ble_eq_true rfl) dX9_init_5 (fun q0n hqq0n => ?_)
  refine z_at (pc2 := 8) (lv2 := [(0, .ref h0), (1, .ref hp)]) (st2 := [.ref q0n, .ref h0]) (ws2 := [[(h0, .inr (10, [.null, .null, .null, .null, .null, .int 0, .int 0, .int 0, .int 0, .int 0]))], [(q0n, .inr (8, [.null, .null, .null, .int 0]))]]) rfl rfl rfl [0, 1] rfl ?_
  refine z_dup X dX9_init_8 rfl ?_
  refine z_callIN (mp2 := [0, 1, 2]) (st := [.ref q0n, .ref h0]) X hAO (mcX7 (zcl C) (zcD C) (zcT C) q0n) zcmX7_init rfl zc166 dX9_init_9 1 2 rfl rfl [1] rfl rfl (by decide) (by decide) rfl rfl (Nat.le_of_ble_eq_true rfl) rfl rfl ⟨Nat.le_of_ble_eq_true rfl, Nat.le_of_ble_eq_true rfl⟩ ⟨Nat.le_of_ble_eq_true rfl, Nat.le_of_ble_eq_true rfl⟩ (fun u2 hu2 => ?_)
  subst hu2
  refine z_at (pc2 := 12) (lv2 := [(0, .ref h0), (1, .ref hp)]) (st2 := [.ref (u2 0), .ref h0]) (ws2 := [[(h0, .inr (10, [.null, .null, .null, .null, .null, .int 0, .int 0, .int 0, .int 0, .int 0]))], [], wX7 (zcT C) u2  zs0X7]) rfl rfl rfl [0, 1] rfl ?_
  refine z_putF (ws2 := [[(h0, .inr (10, [.null, .ref (u2 0), .null, .null, .null, .int 0, .int 0, .int 0, .int 0, .int 0]))], [], wX7 (zcT C) u2  zs0X7]) (w2 := [(h0, .inr (10, [.null, .ref (u2 0), .null, .null, .null, .int 0, .int 0, .int 0, .int 0, .int 0]))]) X hin 0 0 10 1 ziX9 rfl tyX9 tyX9_ok nmX9 (by decide) zc238 rfl rfl rfl (ty := (.object "Tableaufloor$Sides")) (by decide +kernel) rfl rfl (by show 1 < 10; decide) dX9_init_12 rfl rfl (by decide) rfl rfl ?_
  refine z_aload_n X dX9_init_15 0 rfl ?_
  refine z_new (mp2 := [0, 1, 2, 3]) (ci := 2) (fs := [.null, .null, .null, .int 0, .long 0]) X 3 ziX1 tyX1 tyX1_ok zc186 zc187 zc7 rfl (by decide +kernel) rfl (by decide) (Nat.le_of_ble_eq_true rfl) (Nat.le_of_ble_eq_true rfl) dX9_init_16 (fun q2n hqq2n => ?_)
  refine z_at (pc2 := 19) (lv2 := [(0, .ref h0), (1, .ref hp)]) (st2 := [.ref q2n, .ref h0]) (ws2 := [[(h0, .inr (10, [.null, .ref (u2 0), .null, .null, .null, .int 0, .int 0, .int 0, .int 0, .int 0]))], [], wX7 (zcT C) u2  zs0X7, [(q2n, .inr (2, [.null, .null, .null, .int 0, .long 0]))]]) rfl rfl rfl [0, 1] rfl ?_
  refine z_dup X dX9_init_19 rfl ?_
  refine z_callIN (mp2 := [0, 1, 2, 3, 4]) (st := [.ref q2n, .ref h0]) X hAO (mcX1 (zcl C) (zcD C) (zcT C) q2n) zcmX1_init rfl zc188 dX9_init_20 3 4 rfl rfl [3] rfl rfl (by decide) (by decide) rfl rfl (Nat.le_of_ble_eq_true rfl) rfl rfl ⟨Nat.le_of_ble_eq_true rfl, Nat.le_of_ble_eq_true rfl⟩ ⟨Nat.le_of_ble_eq_true rfl, Nat.le_of_ble_eq_true rfl⟩ (fun u4 hu4 => ?_)
  subst hu4
  refine z_at (pc2 := 23) (lv2 := [(0, .ref h0), (1, .ref hp)]) (st2 := [.ref (u4 0), .ref h0]) (ws2 := [[(h0, .inr (10, [.null, .ref (u2 0), .null, .null, .null, .int 0, .int 0, .int 0, .int 0, .int 0]))], [], wX7 (zcT C) u2  zs0X7, [], wX1 (zcT C) u4  zs0X1]) rfl rfl rfl [0, 1] rfl ?_
  refine z_putF (ws2 := [[(h0, .inr (10, [.null, .ref (u2 0), .ref (u4 0), .null, .null, .int 0, .int 0, .int 0, .int 0, .int 0]))], [], wX7 (zcT C) u2  zs0X7, [], wX1 (zcT C) u4  zs0X1]) (w2 := [(h0, .inr (10, [.null, .ref (u2 0), .ref (u4 0), .null, .null, .int 0, .int 0, .int 0, .int 0, .int 0]))]) X hin 0 0 10 2 ziX9 rfl tyX9 tyX9_ok nmX9 (by decide) zc241 rfl rfl rfl (ty := (.object "Tableaufloor$Dictionary")) (by decide +kernel) rfl rfl (by show 2 < 10; decide) dX9_init_23 rfl rfl (by decide) rfl rfl ?_
  refine z_aload_n X dX9_init_26 0 rfl ?_
  refine z_new (mp2 := [0, 1, 2, 3, 4, 5]) (ci := 5) (fs := [.null, .long 0, .int 0]) X 5 ziX4 tyX4 tyX4_ok zc212 zc213 zc8 rfl (by decide +kernel) rfl (by decide) (Nat.le_of_ble_eq_true rfl) (Nat.le_of_ble_eq_true rfl) dX9_init_27 (fun q4n hqq4n => ?_)
  refine z_at (pc2 := 30) (lv2 := [(0, .ref h0), (1, .ref hp)]) (st2 := [.ref q4n, .ref h0]) (ws2 := [[(h0, .inr (10, [.null, .ref (u2 0), .ref (u4 0), .null, .null, .int 0, .int 0, .int 0, .int 0, .int 0]))], [], wX7 (zcT C) u2  zs0X7, [], wX1 (zcT C) u4  zs0X1, [(q4n, .inr (5, [.null, .long 0, .int 0]))]]) rfl rfl rfl [0, 1] rfl ?_
  refine z_dup X dX9_init_30 rfl ?_
  refine z_callIN (mp2 := [0, 1, 2, 3, 4, 5, 6]) (st := [.ref q4n, .ref h0]) X hAO (mcX4 (zcl C) (zcD C) (zcT C) q4n) zcmX4_init rfl zc214 dX9_init_31 5 6 rfl rfl [5] rfl rfl (by decide) (by decide) rfl rfl (Nat.le_of_ble_eq_true rfl) rfl rfl ⟨Nat.le_of_ble_eq_true rfl, Nat.le_of_ble_eq_true rfl⟩ ⟨Nat.le_of_ble_eq_true rfl, Nat.le_of_ble_eq_true rfl⟩ (fun u6 hu6 => ?_)
  subst hu6
  refine z_at (pc2 := 34) (lv2 := [(0, .ref h0), (1, .ref hp)]) (st2 := [.ref (u6 0), .ref h0]) (ws2 := [[(h0, .inr (10, [.null, .ref (u2 0), .ref (u4 0), .null, .null, .int 0, .int 0, .int 0, .int 0, .int 0]))], [], wX7 (zcT C) u2  zs0X7, [], wX1 (zcT C) u4  zs0X1, [], wX4 (zcT C) u6  zs0X4]) rfl rfl rfl [0, 1] rfl ?_
  refine z_putF (ws2 := [[(h0, .inr (10, [.null, .ref (u2 0), .ref (u4 0), .ref (u6 0), .null, .int 0, .int 0, .int 0, .int 0, .int 0]))], [], wX7 (zcT C) u2  zs0X7, [], wX1 (zcT C) u4  zs0X1, [], wX4 (zcT C) u6  zs0X4]) (w2 := [(h0, .inr (10, [.null, .ref (u2 0), .ref (u4 0), .ref (u6 0), .null, .int 0, .int 0, .int 0, .int 0, .int 0]))]) X hin 0 0 10 3 ziX9 rfl tyX9 tyX9_ok nmX9 (by decide) zc243 rfl rfl rfl (ty := (.object "Tableaufloor$Point")) (by decide +kernel) rfl rfl (by show 3 < 10; decide) dX9_init_34 rfl rfl (by decide) rfl rfl ?_
  refine z_aload_n X dX9_init_37 0 rfl ?_
  refine z_iconst (v := (3 : Int32)) X dX9_init_38 rfl ?_
  refine z_newa (mp2 := [0, 1, 2, 3, 4, 5, 6, 7]) (atype := .boolean) (ty := .boolean) (N' := 3) (a0 := (3, .inl (fun _ => 0))) X 3 7 zc100 rfl rfl (fun _ => rfl) (by decide) (by decide) (by decide) rfl (by decide) (Nat.le_of_ble_eq_true rfl) (Nat.le_of_ble_eq_true rfl) dX9_init_39 (fun q6a hqq6a => ?_)
  refine z_at (pc2 := 41) (lv2 := [(0, .ref h0), (1, .ref hp)]) (st2 := [.ref q6a, .ref h0]) (ws2 := [[(h0, .inr (10, [.null, .ref (u2 0), .ref (u4 0), .ref (u6 0), .null, .int 0, .int 0, .int 0, .int 0, .int 0]))], [], wX7 (zcT C) u2  zs0X7, [], wX1 (zcT C) u4  zs0X1, [], wX4 (zcT C) u6  zs0X4, [(q6a, .inl (zcT C 3, 3, .inl (fun _ => 0)))]]) rfl rfl rfl [0, 1] rfl ?_
  refine z_putF (ws2 := [[(h0, .inr (10, [.null, .ref (u2 0), .ref (u4 0), .ref (u6 0), .ref q6a, .int 0, .int 0, .int 0, .int 0, .int 0]))], [], wX7 (zcT C) u2  zs0X7, [], wX1 (zcT C) u4  zs0X1, [], wX4 (zcT C) u6  zs0X4, [(q6a, .inl (zcT C 3, 3, .inl (fun _ => 0)))]]) (w2 := [(h0, .inr (10, [.null, .ref (u2 0), .ref (u4 0), .ref (u6 0), .ref q6a, .int 0, .int 0, .int 0, .int 0, .int 0]))]) X hin 0 0 10 4 ziX9 rfl tyX9 tyX9_ok nmX9 (by decide) zc246 rfl rfl rfl (ty := (.array .boolean)) (by decide +kernel) rfl rfl (by show 4 < 10; decide) dX9_init_41 rfl rfl (by decide) rfl rfl ?_
  refine z_aload_n X dX9_init_44 0 rfl ?_
  refine z_bipush (v := (111 : Int32)) X dX9_init_45 rfl ?_
  refine z_put (ws2 := [[(h0, .inr (10, [.null, .ref (u2 0), .ref (u4 0), .ref (u6 0), .ref q6a, .int (111 : Int32), .int 0, .int 0, .int 0, .int 0]))], [], wX7 (zcT C) u2  zs0X7, [], wX1 (zcT C) u4  zs0X1, [], wX4 (zcT C) u6  zs0X4, [(q6a, .inl (zcT C 3, 3, .inl (fun _ => 0)))]]) (w2 := [(h0, .inr (10, [.null, .ref (u2 0), .ref (u4 0), .ref (u6 0), .ref q6a, .int (111 : Int32), .int 0, .int 0, .int 0, .int 0]))]) X 0 0 10 5 ziX9 rfl tyX9 tyX9_ok nmX9 (by decide) zc247 rfl rfl (ty := .char) (by decide +kernel) rfl rfl (by show 5 < 10; decide) dX9_init_47 rfl rfl (by decide) rfl rfl ?_
  refine z_aload_n X dX9_init_50 0 rfl ?_
  refine z_iconst (v := (-1 : Int32)) X dX9_init_51 rfl ?_
  refine z_put (ws2 := [[(h0, .inr (10, [.null, .ref (u2 0), .ref (u4 0), .ref (u6 0), .ref q6a, .int (111 : Int32), .int (-1 : Int32), .int 0, .int 0, .int 0]))], [], wX7 (zcT C) u2  zs0X7, [], wX1 (zcT C) u4  zs0X1, [], wX4 (zcT C) u6  zs0X4, [(q6a, .inl (zcT C 3, 3, .inl (fun _ => 0)))]]) (w2 := [(h0, .inr (10, [.null, .ref (u2 0), .ref (u4 0), .ref (u6 0), .ref q6a, .int (111 : Int32), .int (-1 : Int32), .int 0, .int 0, .int 0]))]) X 0 0 10 6 ziX9 rfl tyX9 tyX9_ok nmX9 (by decide) zc250 rfl rfl (ty := .int) (by decide +kernel) rfl rfl (by show 6 < 10; decide) dX9_init_52 rfl rfl (by decide) rfl rfl ?_
  refine z_aload_n X dX9_init_55 0 rfl ?_
  refine z_iconst (v := (-1 : Int32)) X dX9_init_56 rfl ?_
  refine z_put (ws2 := [[(h0, .inr (10, [.null, .ref (u2 0), .ref (u4 0), .ref (u6 0), .ref q6a, .int (111 : Int32), .int (-1 : Int32), .int (-1 : Int32), .int 0, .int 0]))], [], wX7 (zcT C) u2  zs0X7, [], wX1 (zcT C) u4  zs0X1, [], wX4 (zcT C) u6  zs0X4, [(q6a, .inl (zcT C 3, 3, .inl (fun _ => 0)))]]) (w2 := [(h0, .inr (10, [.null, .ref (u2 0), .ref (u4 0), .ref (u6 0), .ref q6a, .int (111 : Int32), .int (-1 : Int32), .int (-1 : Int32), .int 0, .int 0]))]) X 0 0 10 7 ziX9 rfl tyX9 tyX9_ok nmX9 (by decide) zc253 rfl rfl (ty := .int) (by decide +kernel) rfl rfl (by show 7 < 10; decide) dX9_init_57 rfl rfl (by decide) rfl rfl ?_
  refine z_aload_n X dX9_init_60 0 rfl ?_
  refine z_iconst (v := (-1 : Int32)) X dX9_init_61 rfl ?_
  refine z_put (ws2 := [[(h0, .inr (10, [.null, .ref (u2 0), .ref (u4 0), .ref (u6 0), .ref q6a, .int (111 : Int32), .int (-1 : Int32), .int (-1 : Int32), .int (-1 : Int32), .int 0]))], [], wX7 (zcT C) u2  zs0X7, [], wX1 (zcT C) u4  zs0X1, [], wX4 (zcT C) u6  zs0X4, [(q6a, .inl (zcT C 3, 3, .inl (fun _ => 0)))]]) (w2 := [(h0, .inr (10, [.null, .ref (u2 0), .ref (u4 0), .ref (u6 0), .ref q6a, .int (111 : Int32), .int (-1 : Int32), .int (-1 : Int32), .int (-1 : Int32), .int 0]))]) X 0 0 10 8 ziX9 rfl tyX9 tyX9_ok nmX9 (by decide) zc255 rfl rfl (ty := .int) (by decide +kernel) rfl rfl (by show 8 < 10; decide) dX9_init_62 rfl rfl (by decide) rfl rfl ?_
  refine z_aload_n X dX9_init_65 0 rfl ?_
  refine z_aload_n X dX9_init_66 1 rfl ?_
  refine z_putF (ws2 := [[(h0, .inr (10, [.ref hp, .ref (u2 0), .ref (u4 0), .ref (u6 0), .ref q6a, .int (111 : Int32), .int (-1 : Int32), .int (-1 : Int32), .int (-1 : Int32), .int 0]))], [], wX7 (zcT C) u2  zs0X7, [], wX1 (zcT C) u4  zs0X1, [], wX4 (zcT C) u6  zs0X4, [(q6a, .inl (zcT C 3, 3, .inl (fun _ => 0)))]]) (w2 := [(h0, .inr (10, [.ref hp, .ref (u2 0), .ref (u4 0), .ref (u6 0), .ref q6a, .int (111 : Int32), .int (-1 : Int32), .int (-1 : Int32), .int (-1 : Int32), .int 0]))]) X hin 0 0 10 0 ziX9 rfl tyX9 tyX9_ok nmX9 (by decide) zc237 rfl rfl rfl (ty := (.object "Tableaufloor$Program")) (by decide +kernel) rfl rfl (by show 0 < 10; decide) dX9_init_67 rfl rfl (by decide) rfl rfl ?_
  exact z_cret (G := zgX9 (zcT C) hp) X hQ dX9_init_70 (fun k => cond (Nat.blt k 100) ([h0, 0, 0, 0, 0, q6a, 0, 0, 0, 0, 0].getD k 0) (cond (Nat.blt k 200) (u2 (k - 100)) (cond (Nat.blt k 300) (u4 (k - 200)) (u6 (k - 300))))) rfl [[(0, 0), (7, 0)], [(2, 0), (2, 1), (2, 2), (2, 3)], [(4, 0), (4, 1), (4, 2), (4, 3)], [(6, 0), (6, 1)]] rfl (by decide) (by decide) (by decide) (by decide)
/-- what Tableaufloor$Proof() leaves -/
def zs0X6 : zSt := zst0
abbrev zgX6 (T : Nat → ClassId) (hp hw : Nat) (u : Nat → Nat) : List va_W := [wX6 T u hp hw zs0X6]
abbrev rmcX6 : Room := { frames := 1, cells := 1, slots := 3, locals := 12 }
set_option maxRecDepth 20000 in
set_option maxHeartbeats 4000000 in
theorem mcX6 (l : Launch) (D : va_G) (T : Nat → ClassId) (h0 : Nat) (hp hw : Nat) (sz : Nat) : Met l yX6_init (zws yX6_init cX6_init 3 none) rmcX6 (zPcE D T [.ref h0, .ref hp, .ref hw] [[(h0, .inr (7, [.null, .null, .null, .long 0]))]] sz) (zQn D h0 (zgX6 T hp hw) (zA [[(h0, .inr (7, [.null, .null, .null, .long 0]))]] sz)) 1 3 (zA [[(h0, .inr (7, [.null, .null, .null, .long 0]))]] sz) := by
  refine zMetC (l := l) (y := yX6_init) (cc := cX6_init) (maxL := 3) (rm := rmcX6) (mc := 1) (ms := 3) (D := D) (T := T) (av := [.ref h0, .ref hp, .ref hw]) (ws := fun T => [[(h0, .inr (7, [.null, .null, .null, .long 0]))]]) (wm := fun T => [[(h0, .inr (7, [.null, .null, .null, .long 0]))]]) (lv0 := [(0, .ref h0), (1, .ref hp), (2, .ref hw)]) [0] (Qc := fun D T A => zQn D h0 (zgX6 T hp hw) A) (EX := fun U => va_AO RX4 U) (by decide +kernel) rfl rfl (Nat.le_of_ble_eq_true rfl) rfl (fun _ _ _ _ h => h) ?_ sz
  intro C X hin hAO hQ
  refine z_aload_n X dX6_init_0 0 rfl ?_
  refine z_objInit X zc285 zc41 zc42 dX6_init_1 (Nat.le_of_ble_eq_true rfl) (Nat.le_of_ble_eq_true rfl) ?_
  refine z_aload_n X dX6_init_4 0 rfl ?_
  refine z_iconst (v := (3 : Int32)) X dX6_init_5 rfl ?_
  refine z_newa (mp2 := [0, 1]) (atype := .long) (ty := .long) (N' := 3) (a0 := (3, .inr (.inl (fun _ => 0)))) X 2 1 zc211 rfl rfl (fun _ => rfl) (by decide) (by decide) (by decide) rfl (by decide) (Nat.le_of_ble_eq_true rfl) (Nat.le_of_ble_eq_true rfl) dX6_init_6 (fun q0a hqq0a => ?_)
  refine z_at (pc2 := 8) (lv2 := [(0, .ref h0), (1, .ref hp), (2, .ref hw)]) (st2 := [.ref q0a, .ref h0]) (ws2 := [[(h0, .inr (7, [.null, .null, .null, .long 0]))], [(q0a, .inl (zcT C 2, 3, .inr (.inl (fun _ => 0))))]]) rfl rfl rfl [0, 1, 2] rfl ?_
  refine z_putF (ws2 := [[(h0, .inr (7, [.null, .null, .ref q0a, .long 0]))], [(q0a, .inl (zcT C 2, 3, .inr (.inl (fun _ => 0))))]]) (w2 := [(h0, .inr (7, [.null, .null, .ref q0a, .long 0]))]) X hin 0 0 7 2 ziX6 rfl tyX6 tyX6_ok nmX6 (by decide) zc288 rfl rfl rfl (ty := (.array .long)) (by decide +kernel) rfl rfl (by show 2 < 4; decide) dX6_init_8 rfl rfl (by decide) rfl rfl ?_
  refine z_aload_n X dX6_init_11 0 rfl ?_
  refine z_aload_n X dX6_init_12 1 rfl ?_
  refine z_putF (ws2 := [[(h0, .inr (7, [.ref hp, .null, .ref q0a, .long 0]))], [(q0a, .inl (zcT C 2, 3, .inr (.inl (fun _ => 0))))]]) (w2 := [(h0, .inr (7, [.ref hp, .null, .ref q0a, .long 0]))]) X hin 0 0 7 0 ziX6 rfl tyX6 tyX6_ok nmX6 (by decide) zc286 rfl rfl rfl (ty := (.object "Tableaufloor$Program")) (by decide +kernel) rfl rfl (by show 0 < 4; decide) dX6_init_13 rfl rfl (by decide) rfl rfl ?_
  refine z_aload_n X dX6_init_16 0 rfl ?_
  refine z_aload_n X dX6_init_17 2 rfl ?_
  refine z_putF (ws2 := [[(h0, .inr (7, [.ref hp, .ref hw, .ref q0a, .long 0]))], [(q0a, .inl (zcT C 2, 3, .inr (.inl (fun _ => 0))))]]) (w2 := [(h0, .inr (7, [.ref hp, .ref hw, .ref q0a, .long 0]))]) X hin 0 0 7 1 ziX6 rfl tyX6 tyX6_ok nmX6 (by decide) zc287 rfl rfl rfl (ty := (.object "Tableaufloor$Walk")) (by decide +kernel) rfl rfl (by show 1 < 4; decide) dX6_init_18 rfl rfl (by decide) rfl rfl ?_
  exact z_cret (G := zgX6 (zcT C) hp hw) X hQ dX6_init_21 (fun k => [h0, 0, 0, q0a, 0].getD k 0) rfl [[(0, 0), (1, 0)]] rfl (by decide) (by decide) (by decide) (by decide)
/-- what Tableaufloor$Corners() leaves -/
def zs0X0 : zSt := zst0
abbrev zgX0 (T : Nat → ClassId) (hp hs : Nat) (u : Nat → Nat) : List va_W := [wX0 T u hp hs (u 100) (u 200) zs0X0, wX4 T (fun k => u (100 + k)) zs0X4, wX4 T (fun k => u (200 + k)) zs0X4]
abbrev rmcX0 : Room := { frames := 2, cells := 4, slots := 12, locals := 32 }
set_option maxRecDepth 20000 in
set_option maxHeartbeats 4000000 in
theorem mcX0 (l : Launch) (D : va_G) (T : Nat → ClassId) (h0 : Nat) (hp : Nat) (aW : Nat → Nat) (hq hs hd hq2 : Nat) (sW : zSt) (sz : Nat) : Met l yX0_init (zws yX0_init cX0_init 3 none) rmcX0 (zPcE D T [.ref h0, .ref hp, .ref (aW 0)] [[(h0, .inr (1, [.null, .null, .null, .null, .int 0, .int 0]))], wX9 T aW hq hs hd hq2 sW] sz) (zQn D h0 (zgX0 T hp hs) (zA [[(h0, .inr (1, [.null, .null, .null, .null, .int 0, .int 0]))]] sz)) 4 12 (zA [[(h0, .inr (1, [.null, .null, .null, .null, .int 0, .int 0]))]] sz) := by
  refine zMetC (l := l) (y := yX0_init) (cc := cX0_init) (maxL := 3) (rm := rmcX0) (mc := 4) (ms := 12) (D := D) (T := T) (av := [.ref h0, .ref hp, .ref (aW 0)]) (ws := fun T => [[(h0, .inr (1, [.null, .null, .null, .null, .int 0, .int 0]))], wX9 T aW hq hs hd hq2 sW]) (wm := fun T => [[(h0, .inr (1, [.null, .null, .null, .null, .int 0, .int 0]))]]) (lv0 := [(0, .ref h0), (1, .ref hp), (2, .ref (aW 0))]) [0] (Qc := fun D T A => zQn D h0 (zgX0 T hp hs) A) (EX := fun U => va_AO RX4 U) (by decide +kernel) rfl rfl (Nat.le_of_ble_eq_true rfl) rfl (fun _ _ _ _ h => h) ?_ sz
  intro C X hin hAO hQ
  refine z_aload_n X dX0_init_0 0 rfl ?_
  refine z_objInit X zc304 zc41 zc42 dX0_init_1 (Nat.le_of_ble_eq_true rfl) (Nat.le_of_ble_eq_true rfl) ?_
  refine z_aload_n X dX0_init_4 0 rfl ?_
  refine z_new (mp2 := [0, 2]) (ci := 5) (fs := [.null, .long 0, .int 0]) X 2 ziX4 tyX4 tyX4_ok zc305 zc213 zc8 rfl (by decide +kernel) rfl (by decide) (Nat.le_of_ble_eq_true rfl) (Nat.le_of_ble_eq_true rfl) dX0_init_5 (fun q0n hqq0n => ?_)
  refine z_at (pc2 := 8) (lv2 := [(0, .ref h0), (1, .ref hp), (2, .ref (aW 0))]) (st2 := [.ref q0n, .ref h0]) (ws2 := [[(h0, .inr (1, [.null, .null, .null, .null, .int 0, .int 0]))], wX9 (zcT C) aW hq hs hd hq2 sW, [(q0n, .inr (5, [.null, .long 0, .int 0]))]]) rfl rfl rfl [0, 1, 2] rfl ?_
  refine z_dup X dX0_init_8 rfl ?_
  refine z_callIN (mp2 := [0, 2, 3]) (st := [.ref q0n, .ref h0]) X hAO (mcX4 (zcl C) (zcD C) (zcT C) q0n) zcmX4_init rfl zc306 dX0_init_9 2 3 rfl rfl [2] rfl rfl (by decide) (by decide) rfl rfl (Nat.le_of_ble_eq_true rfl) rfl rfl ⟨Nat.le_of_ble_eq_true rfl, Nat.le_of_ble_eq_true rfl⟩ ⟨Nat.le_of_ble_eq_true rfl, Nat.le_of_ble_eq_true rfl⟩ (fun u2 hu2 => ?_)
  subst hu2
  refine z_at (pc2 := 12) (lv2 := [(0, .ref h0), (1, .ref hp), (2, .ref (aW 0))]) (st2 := [.ref (u2 0), .ref h0]) (ws2 := [[(h0, .inr (1, [.null, .null, .null, .null, .int 0, .int 0]))], wX9 (zcT C) aW hq hs hd hq2 sW, [], wX4 (zcT C) u2  zs0X4]) rfl rfl rfl [0, 1, 2] rfl ?_
  refine z_putF (ws2 := [[(h0, .inr (1, [.null, .null, .ref (u2 0), .null, .int 0, .int 0]))], wX9 (zcT C) aW hq hs hd hq2 sW, [], wX4 (zcT C) u2  zs0X4]) (w2 := [(h0, .inr (1, [.null, .null, .ref (u2 0), .null, .int 0, .int 0]))]) X hin 0 0 1 2 ziX0 rfl tyX0 tyX0_ok nmX0 (by decide) zc309 rfl rfl rfl (ty := (.object "Tableaufloor$Point")) (by decide +kernel) rfl rfl (by show 2 < 6; decide) dX0_init_12 rfl rfl (by decide) rfl rfl ?_
  refine z_aload_n X dX0_init_15 0 rfl ?_
  refine z_new (mp2 := [0, 2, 3, 4]) (ci := 5) (fs := [.null, .long 0, .int 0]) X 4 ziX4 tyX4 tyX4_ok zc305 zc213 zc8 rfl (by decide +kernel) rfl (by decide) (Nat.le_of_ble_eq_true rfl) (Nat.le_of_ble_eq_true rfl) dX0_init_16 (fun q2n hqq2n => ?_)
  refine z_at (pc2 := 19) (lv2 := [(0, .ref h0), (1, .ref hp), (2, .ref (aW 0))]) (st2 := [.ref q2n, .ref h0]) (ws2 := [[(h0, .inr (1, [.null, .null, .ref (u2 0), .null, .int 0, .int 0]))], wX9 (zcT C) aW hq hs hd hq2 sW, [], wX4 (zcT C) u2  zs0X4, [(q2n, .inr (5, [.null, .long 0, .int 0]))]]) rfl rfl rfl [0, 1, 2] rfl ?_
  refine z_dup X dX0_init_19 rfl ?_
  refine z_callIN (mp2 := [0, 2, 3, 4, 5]) (st := [.ref q2n, .ref h0]) X hAO (mcX4 (zcl C) (zcD C) (zcT C) q2n) zcmX4_init rfl zc306 dX0_init_20 4 5 rfl rfl [4] rfl rfl (by decide) (by decide) rfl rfl (Nat.le_of_ble_eq_true rfl) rfl rfl ⟨Nat.le_of_ble_eq_true rfl, Nat.le_of_ble_eq_true rfl⟩ ⟨Nat.le_of_ble_eq_true rfl, Nat.le_of_ble_eq_true rfl⟩ (fun u4 hu4 => ?_)
  subst hu4
  refine z_at (pc2 := 23) (lv2 := [(0, .ref h0), (1, .ref hp), (2, .ref (aW 0))]) (st2 := [.ref (u4 0), .ref h0]) (ws2 := [[(h0, .inr (1, [.null, .null, .ref (u2 0), .null, .int 0, .int 0]))], wX9 (zcT C) aW hq hs hd hq2 sW, [], wX4 (zcT C) u2  zs0X4, [], wX4 (zcT C) u4  zs0X4]) rfl rfl rfl [0, 1, 2] rfl ?_
  refine z_putF (ws2 := [[(h0, .inr (1, [.null, .null, .ref (u2 0), .ref (u4 0), .int 0, .int 0]))], wX9 (zcT C) aW hq hs hd hq2 sW, [], wX4 (zcT C) u2  zs0X4, [], wX4 (zcT C) u4  zs0X4]) (w2 := [(h0, .inr (1, [.null, .null, .ref (u2 0), .ref (u4 0), .int 0, .int 0]))]) X hin 0 0 1 3 ziX0 rfl tyX0 tyX0_ok nmX0 (by decide) zc311 rfl rfl rfl (ty := (.object "Tableaufloor$Point")) (by decide +kernel) rfl rfl (by show 3 < 6; decide) dX0_init_23 rfl rfl (by decide) rfl rfl ?_
  refine z_aload_n X dX0_init_26 0 rfl ?_
  refine z_aload_n X dX0_init_27 1 rfl ?_
  refine z_putF (ws2 := [[(h0, .inr (1, [.ref hp, .null, .ref (u2 0), .ref (u4 0), .int 0, .int 0]))], wX9 (zcT C) aW hq hs hd hq2 sW, [], wX4 (zcT C) u2  zs0X4, [], wX4 (zcT C) u4  zs0X4]) (w2 := [(h0, .inr (1, [.ref hp, .null, .ref (u2 0), .ref (u4 0), .int 0, .int 0]))]) X hin 0 0 1 0 ziX0 rfl tyX0 tyX0_ok nmX0 (by decide) zc307 rfl rfl rfl (ty := (.object "Tableaufloor$Program")) (by decide +kernel) rfl rfl (by show 0 < 6; decide) dX0_init_28 rfl rfl (by decide) rfl rfl ?_
  refine z_aload_n X dX0_init_31 0 rfl ?_
  refine z_aload_n X dX0_init_32 2 rfl ?_
  refine z_getN (v := .ref hs) X 1 0 10 1 ziX9 rfl (by decide) zc239 rfl dX0_init_33 rfl rfl rfl ?_
  refine z_putF (ws2 := [[(h0, .inr (1, [.ref hp, .ref hs, .ref (u2 0), .ref (u4 0), .int 0, .int 0]))], wX9 (zcT C) aW hq hs hd hq2 sW, [], wX4 (zcT C) u2  zs0X4, [], wX4 (zcT C) u4  zs0X4]) (w2 := [(h0, .inr (1, [.ref hp, .ref hs, .ref (u2 0), .ref (u4 0), .int 0, .int 0]))]) X hin 0 0 1 1 ziX0 rfl tyX0 tyX0_ok nmX0 (by decide) zc308 rfl rfl rfl (ty := (.object "Tableaufloor$Sides")) (by decide +kernel) rfl rfl (by show 1 < 6; decide) dX0_init_36 rfl rfl (by decide) rfl rfl ?_
  exact z_cret (G := zgX0 (zcT C) hp hs) X hQ dX0_init_39 (fun k => cond (Nat.blt k 100) ([h0, 0, 0, 0, 0, 0, 0].getD k 0) (cond (Nat.blt k 200) (u2 (k - 100)) (u4 (k - 200)))) rfl [[(0, 0)], [(3, 0), (3, 1)], [(5, 0), (5, 1)]] rfl (by decide) (by decide) (by decide) (by decide)
/-- what Tableaufloor$WholePoints() leaves -/
def zs0X10 : zSt := zst0
abbrev zgX10 (T : Nat → ClassId) (hp : Nat) (u : Nat → Nat) : List va_W := [wX10 T u hp (u 100) (u 200) zs0X10, wX4 T (fun k => u (100 + k)) zs0X4, wX4 T (fun k => u (200 + k)) zs0X4]
abbrev rmcX10 : Room := { frames := 2, cells := 4, slots := 12, locals := 32 }
set_option maxRecDepth 20000 in
set_option maxHeartbeats 4000000 in
theorem mcX10 (l : Launch) (D : va_G) (T : Nat → ClassId) (h0 : Nat) (hp : Nat) (sz : Nat) : Met l yX10_init (zws yX10_init cX10_init 2 none) rmcX10 (zPcE D T [.ref h0, .ref hp] [[(h0, .inr (11, [.null, .null, .null, .int 0, .int 0]))]] sz) (zQn D h0 (zgX10 T hp) (zA [[(h0, .inr (11, [.null, .null, .null, .int 0, .int 0]))]] sz)) 4 12 (zA [[(h0, .inr (11, [.null, .null, .null, .int 0, .int 0]))]] sz) := by
  refine zMetC (l := l) (y := yX10_init) (cc := cX10_init) (maxL := 2) (rm := rmcX10) (mc := 4) (ms := 12) (D := D) (T := T) (av := [.ref h0, .ref hp]) (ws := fun T => [[(h0, .inr (11, [.null, .null, .null, .int 0, .int 0]))]]) (wm := fun T => [[(h0, .inr (11, [.null, .null, .null, .int 0, .int 0]))]]) (lv0 := [(0, .ref h0), (1, .ref hp)]) [0] (Qc := fun D T A => zQn D h0 (zgX10 T hp) A) (EX := fun U => va_AO RX4 U) (by decide +kernel) rfl rfl (Nat.le_of_ble_eq_true rfl) rfl (fun _ _ _ _ h => h) ?_ sz
  intro C X hin hAO hQ
  refine z_aload_n X dX10_init_0 0 rfl ?_
  refine z_objInit X zc333 zc41 zc42 dX10_init_1 (Nat.le_of_ble_eq_true rfl) (Nat.le_of_ble_eq_true rfl) ?_
  refine z_aload_n X dX10_init_4 0 rfl ?_
  refine z_new (mp2 := [0, 1]) (ci := 5) (fs := [.null, .long 0, .int 0]) X 1 ziX4 tyX4 tyX4_ok zc334 zc213 zc8 rfl (by decide +kernel) rfl (by decide) (Nat.le_of_ble_eq_true rfl) (Nat.le_of_ble_eq_true rfl) dX10_init_5 (fun q0n hqq0n => ?_)
  refine z_at (pc2 := 8) (lv2 := [(0, .ref h0), (1, .ref hp)]) (st2 := [.ref q0n, .ref h0]) (ws2 := [[(h0, .inr (11, [.null, .null, .null, .int 0, .int 0]))], [(q0n, .inr (5, [.null, .long 0, .int 0]))]]) rfl rfl rfl [0, 1] rfl ?_
  refine z_dup X dX10_init_8 rfl ?_
  refine z_callIN (mp2 := [0, 1, 2]) (st := [.ref q0n, .ref h0]) X hAO (mcX4 (zcl C) (zcD C) (zcT C) q0n) zcmX4_init rfl zc335 dX10_init_9 1 2 rfl rfl [1] rfl rfl (by decide) (by decide) rfl rfl (Nat.le_of_ble_eq_true rfl) rfl rfl ⟨Nat.le_of_ble_eq_true rfl, Nat.le_of_ble_eq_true rfl⟩ ⟨Nat.le_of_ble_eq_true rfl, Nat.le_of_ble_eq_true rfl⟩ (fun u2 hu2 => ?_)
  subst hu2
  refine z_at (pc2 := 12) (lv2 := [(0, .ref h0), (1, .ref hp)]) (st2 := [.ref (u2 0), .ref h0]) (ws2 := [[(h0, .inr (11, [.null, .null, .null, .int 0, .int 0]))], [], wX4 (zcT C) u2  zs0X4]) rfl rfl rfl [0, 1] rfl ?_
  refine z_putF (ws2 := [[(h0, .inr (11, [.null, .ref (u2 0), .null, .int 0, .int 0]))], [], wX4 (zcT C) u2  zs0X4]) (w2 := [(h0, .inr (11, [.null, .ref (u2 0), .null, .int 0, .int 0]))]) X hin 0 0 11 1 ziX10 rfl tyX10 tyX10_ok nmX10 (by decide) zc337 rfl rfl rfl (ty := (.object "Tableaufloor$Point")) (by decide +kernel) rfl rfl (by show 1 < 5; decide) dX10_init_12 rfl rfl (by decide) rfl rfl ?_
  refine z_aload_n X dX10_init_15 0 rfl ?_
  refine z_new (mp2 := [0, 1, 2, 3]) (ci := 5) (fs := [.null, .long 0, .int 0]) X 3 ziX4 tyX4 tyX4_ok zc334 zc213 zc8 rfl (by decide +kernel) rfl (by decide) (Nat.le_of_ble_eq_true rfl) (Nat.le_of_ble_eq_true rfl) dX10_init_16 (fun q2n hqq2n => ?_)
  refine z_at (pc2 := 19) (lv2 := [(0, .ref h0), (1, .ref hp)]) (st2 := [.ref q2n, .ref h0]) (ws2 := [[(h0, .inr (11, [.null, .ref (u2 0), .null, .int 0, .int 0]))], [], wX4 (zcT C) u2  zs0X4, [(q2n, .inr (5, [.null, .long 0, .int 0]))]]) rfl rfl rfl [0, 1] rfl ?_
  refine z_dup X dX10_init_19 rfl ?_
  refine z_callIN (mp2 := [0, 1, 2, 3, 4]) (st := [.ref q2n, .ref h0]) X hAO (mcX4 (zcl C) (zcD C) (zcT C) q2n) zcmX4_init rfl zc335 dX10_init_20 3 4 rfl rfl [3] rfl rfl (by decide) (by decide) rfl rfl (Nat.le_of_ble_eq_true rfl) rfl rfl ⟨Nat.le_of_ble_eq_true rfl, Nat.le_of_ble_eq_true rfl⟩ ⟨Nat.le_of_ble_eq_true rfl, Nat.le_of_ble_eq_true rfl⟩ (fun u4 hu4 => ?_)
  subst hu4
  refine z_at (pc2 := 23) (lv2 := [(0, .ref h0), (1, .ref hp)]) (st2 := [.ref (u4 0), .ref h0]) (ws2 := [[(h0, .inr (11, [.null, .ref (u2 0), .null, .int 0, .int 0]))], [], wX4 (zcT C) u2  zs0X4, [], wX4 (zcT C) u4  zs0X4]) rfl rfl rfl [0, 1] rfl ?_
  refine z_putF (ws2 := [[(h0, .inr (11, [.null, .ref (u2 0), .ref (u4 0), .int 0, .int 0]))], [], wX4 (zcT C) u2  zs0X4, [], wX4 (zcT C) u4  zs0X4]) (w2 := [(h0, .inr (11, [.null, .ref (u2 0), .ref (u4 0), .int 0, .int 0]))]) X hin 0 0 11 2 ziX10 rfl tyX10 tyX10_ok nmX10 (by decide) zc339 rfl rfl rfl (ty := (.object "Tableaufloor$Point")) (by decide +kernel) rfl rfl (by show 2 < 5; decide) dX10_init_23 rfl rfl (by decide) rfl rfl ?_
  refine z_aload_n X dX10_init_26 0 rfl ?_
  refine z_aload_n X dX10_init_27 1 rfl ?_
  refine z_putF (ws2 := [[(h0, .inr (11, [.ref hp, .ref (u2 0), .ref (u4 0), .int 0, .int 0]))], [], wX4 (zcT C) u2  zs0X4, [], wX4 (zcT C) u4  zs0X4]) (w2 := [(h0, .inr (11, [.ref hp, .ref (u2 0), .ref (u4 0), .int 0, .int 0]))]) X hin 0 0 11 0 ziX10 rfl tyX10 tyX10_ok nmX10 (by decide) zc336 rfl rfl rfl (ty := (.object "Tableaufloor$Program")) (by decide +kernel) rfl rfl (by show 0 < 5; decide) dX10_init_28 rfl rfl (by decide) rfl rfl ?_
  exact z_cret (G := zgX10 (zcT C) hp) X hQ dX10_init_31 (fun k => cond (Nat.blt k 100) ([h0, 0, 0, 0, 0, 0].getD k 0) (cond (Nat.blt k 200) (u2 (k - 100)) (u4 (k - 200)))) rfl [[(0, 0)], [(2, 0), (2, 1)], [(4, 0), (4, 1)]] rfl (by decide) (by decide) (by decide) (by decide)
