/-! The snapshots: rows of references, demandSnapshot by its argument. Written by wip/gen/mksnap.py. -/
section ZSN
variable {C : zCtx} {cc : ByteArray} {nL : Nat} {own : String} {rm : Room} {ret : Option FieldType} {mp : List Nat} {cells slots : Nat} {ws ws2 : List va_W} {pc : Nat} {lv : List (Nat × Value)} {st st0 : List Value}
variable {y : MethodName} {bytes : ByteArray} {maxL n index mc ms : Nat} {retc : Option FieldType} {rmc : Room} {wc wm wm1 : List va_W} {As : List Value} {b : Nat}
theorem z_aaldq (X : zFx C cc nL own rm ret) (g j t0 : Nat) {w : va_W} {a N : Nat} {f : Nat → Option Nat} {i : Int32} {v : Value} {cA : ClassId} {CC : String} (hi : zin i N = true) (hd : decode cc pc = .ok (.aaload, 1)) (hg : ws[g]? = some w) (he : w[j]? = some (a, .inl (cA, N, .inr (.inr (.inr (.inr f)))))) (ht : (zTY (zcT C))[t0]? = some (cA, .object CC)) (hv : va_rf (f i.toNatClampNeg) = v) (kk : zG C nL mp cells slots ws (pc + 1) lv (v :: st)) : zG C nL mp cells slots ws pc lv (.int i :: .ref a :: st) := by
  subst hv
  exact fun H locs ls h1 h2 h3 h4 hl => va_aldq X.1 X.2.1 X.2.2.2.2.2.1 (h1 g _ hg) j t0 he ht (zin_of hi) hd (kk H locs ls h1 h2 h3 h4 hl)
abbrev zQr (D : va_G) (r0 : Nat) (wm1 : List va_W) (A : Nat → Prop) : Array Value → State → Outcome → State → Prop := va_Qr (fun (_ : Unit) => True) (fun _ a t => a = r0 ∧ zGP D wm1 t.heap) A
theorem z_aret {n9 : String} (X : zFx C cc nL own rm (some (.object n9))) {v r0 : Nat} {wm1 : List va_W} {mc ms : Nat} (hQ : zcQ C = MQ (zcb C) (zQr (zcD C) r0 wm1 (zcA C)) (zca C) (zcs C) mc ms (zcA C)) (hd : decode cc pc = .ok (.areturn, 1)) (hr : v = r0) (isM : List Nat) (hm : isM.map (fun i => ws[i]?) = wm1.map some) (hmc : cells ≤ mc) (hms : slots ≤ ms) : zG C nL mp cells slots ws pc lv [.ref v] := by
  intro H locs ls hP hD hM hS hl
  subst hr
  unfold zWW
  rw [hQ]
  have hlocks := X.2.2.2.2.2.2.2.1
  refine W.widen hmc hms ?_
  exact W.aret X.1 X.2.1 X.2.2.2.2.2.2.2.2.2.1 (Or.inl ⟨_, rfl⟩) (Or.inr ⟨_, rfl⟩) (fun t ht hW => ⟨⟨(), v, rfl, trivial, rfl, (by show zGP (zcD C) wm1 t.heap; rw [ht]; exact zsubP hP isM hm)⟩, hS.F ht⟩) hS.2.2 hd
theorem z_astore_nN (X : zFx C cc nL own rm ret) {k : Fin 4} {i : Nat} {lv2 : List (Nat × Value)} (hd : decode cc pc = .ok (.astore_n k, 1)) (hi : (k : Nat) = i) (hn : i < nL) (hl2 : (i, Value.null) :: lv.filter (fun q => !(q.1 == i) && !(q.1 + 1 == i && q.2.category == 2)) = lv2) (kk : zG C nL mp cells slots ws (pc + 1) lv2 st) : zG C nL mp cells slots ws pc lv (.null :: st) := fun H locs ls h1 h2 h3 h4 hl => lv_astore_nN X.1 X.2.1 hd hi hl hn hl2 (fun ls hl => kk H locs ls h1 h2 h3 h4 hl)
theorem z_aload_nN (X : zFx C cc nL own rm ret) {k : Fin 4} (hd : decode cc pc = .ok (.aload_n k, 1)) (j : Nat) (hj : lv[j]? = some ((k : Nat), .null)) (kk : zG C nL mp cells slots ws (pc + 1) lv (.null :: st)) : zG C nL mp cells slots ws pc lv st := fun H locs ls h1 h2 h3 h4 hl => lv_aload_nN X.1 X.2.1 hd rfl (lv_at hl j hj) (kk H locs ls h1 h2 h3 h4 hl)
theorem z_ifnonnullN (X : zFx C cc nL own rm ret) {off : Int} (hd : decode cc pc = .ok (.ifnonnull off, 3)) (kk : zG C nL mp cells slots ws (pc + 3) lv st) : zG C nL mp cells slots ws pc lv (.null :: st) := fun H locs ls h1 h2 h3 h4 hl => lv_ifnonnullN X.1 X.2.1 hd (kk H locs ls h1 h2 h3 h4 hl)
theorem z_callVr (X : zFx C cc nL own rm ret) {r0 : Nat} (hM : ∀ sz, Met (zcl C) y (zws y bytes maxL retc) rmc (zPc (zcD C) (zcT C) (.ref b :: As) wc sz) (zQr (zcD C) r0 wm1 (zA wm sz)) mc ms (zA wm sz)) (M : zMV y bytes maxL retc n) (hlk : Cond.methodLink own index y ∈ zW) (hd : decode cc pc = .ok (.invokevirtual index, 3)) (g j ci : Nat) {w : va_W} {fs : List Value} {qcl : vw_C} (hg : ws[g]? = some w) (hrv : w[j]? = some (b, .inr (ci, fs))) (hcl : vwCl[ci]? = some qcl) (hyc : qcl.1 = y.cls) (isC : List Nat) (hC : isC.map (fun i => ws[i]?) = wc.map some) (hCn : va_nd isC = true) (isM : List Nat) (hMo : isM.map (fun i => ws[i]?) = wm.map some) (hmp : ∀ i ∈ isM, i ∈ mp) (ha : zSA wm1 wm) (hw2 : zput ws isM wm1 = ws2) (hst : st0 = As.reverse ++ .ref b :: st) (hn : As.length = n) (hcat : (st.map fun v => v.category).sum ≤ 8)
    (hrc : rmc.cells = mc) (hrs : rmc.slots = ms) (hroom : rmc.frames + 1 ≤ rm.frames ∧ 8 + (maxL + 11) + rmc.locals ≤ rm.locals) (hf : cells + mc ≤ rm.cells ∧ slots + ms ≤ rm.slots)
    (kk : zG C nL mp (cells + mc) (slots + ms) ws2 (pc + 3) lv (.ref r0 :: st)) : zG C nL mp cells slots ws pc lv st0 := by
  intro H locs ls hP hD hmpA hS hl
  have hwA : ∀ q : Nat, zA wm H.size q → zcA C q := by
    intro q hq
    rcases hq with ⟨w, hw, hx⟩ | hq
    · obtain ⟨k, hk⟩ := List.getElem?_of_mem hw
      obtain ⟨j, h1, h2⟩ := zpl hMo hk
      exact hmpA j (hmp j (List.mem_of_getElem? h1)) _ h2 q hx
    · exact X.2.2.2.2.2.2.1 q (Nat.le_trans hS.1 hq)
  have hpre : ∀ U : State, U.heap = H → (zcs C).WarmedH U.vm → zPc (zcD C) (zcT C) (.ref b :: As) wc H.size (.ref b :: As).toArray U := fun U hU hW => ⟨rfl, by rw [hU], by rw [hU]; exact zsubP hP isC hC, va_K.moved hW.alike X.2.2.2.2.2.1, zsubD hD isC hCn hC, X.2.2.2.2.2.2.2.2.2.2.warm hW⟩
  subst hst
  refine va_callr (va_runV (As := As) (rest := st) ⟨X.1, X.2.1, X.2.2.1, X.2.2.2.1, X.2.2.2.2.1⟩ (hM H.size) ⟨zcallB X.2.2.2.2.1 M.1 M.2.1 hlk M.2.2.2.2 hrc hrs (X.2.2.2.2.2.2.2.2.1 ▸ hroom), X.2.2.2.2.1 _ M.2.2.1, X.2.2.2.2.1 _ M.2.2.2.1⟩ ⟨zPc_blind, hyc ▸ va_recv X.2.2.2.2.2.1 (hP g _ hg) hcl hrv, hpre⟩ rfl hn hl.1 rfl (lv_room hcat) hd (X.2.2.2.2.2.2.2.2.1 ▸ hf)) hS (fun q _ h => hwA q h) hwA (fun u r t H1 locs1 ht hvm hw hB hz1 hk1 hS => ?_)
  obtain ⟨rfl, hB⟩ := hB
  rw [ht] at hB
  obtain ⟨hP2, hD2⟩ := zback hP hD hMo ha hw2 hk1 hB
  refine kk H1 locs1 ls hP2 hD2 (fun k hk q hq x hx => ?_) hS hl
  obtain ⟨v, he, hv⟩ := zaddr hMo ha hw2 hq
  exact hmpA k hk v he x (by rw [← hv]; exact hx)

end ZSN
theorem zsn_f : Cond.fieldLink RX11 74 RX11 (TX11 9).2.1 (TX11 9).2.2.1 ∈ zW := zW_tab (List.mem_of_getElem? (i := 382) (by decide +kernel)) (by decide +kernel)
abbrev rmX11_demandSnapshot_0 : Room := { frames := 0, cells := 0, slots := 0, locals := 0 }
theorem metX11_demandSnapshot_0 (l : Launch) (D : va_G) (T : Nat → ClassId) (aO : Nat → Nat) (aP : Nat → Nat) (aX : Nat → Nat) (aL : Nat → Nat) (aW : Nat → Nat) (aV : Nat → Nat) (aF : Nat → Nat) (aK : Nat → Nat) (aZ : Nat → Nat) (aR : Nat → Nat) (aN : Nat → Nat) {sO : zSt} (sz : Nat) : Met l yX11_demandSnapshot (zws yX11_demandSnapshot cX11_demandSnapshot 3 (some (.object "Tableaufloor$Point"))) rmX11_demandSnapshot_0 (zPc D T [.ref (aO 0), .int (0 : Int32)] [wX11 T aO (aP 0) (aX 0) (aL 0) (aW 0) (aV 0) (aF 0) (aK 0) (aZ 0) (aR 0) aN sO] sz) (zQr D (aN 0) [] (zA [] sz)) 0 0 (zA [] sz) := by
  refine zMet (D := D) (T := T) (av := [.ref (aO 0), .int (0 : Int32)]) (ws := fun T => [wX11 T aO (aP 0) (aX 0) (aL 0) (aW 0) (aV 0) (aF 0) (aK 0) (aZ 0) (aR 0) aN sO]) (wm := fun T => []) (lv0 := [(0, .ref (aO 0)), (1, .int (0 : Int32))]) [] (Qc := fun D T A => zQr D (aN 0) [] A) (by decide +kernel) rfl (Nat.le_of_ble_eq_true rfl) rfl (fun C X hQ => ?_) sz
  refine z_iload_n X dX11_demandSnapshot_0 1 rfl ?_
  refine z_if_lt (tgt := 22) X dX11_demandSnapshot_1 (by decide) (fun c => absurd c (by decide)) (fun _ => ?_)
  refine z_iload_n X dX11_demandSnapshot_4 1 rfl ?_
  refine z_aload_n X dX11_demandSnapshot_5 0 rfl ?_
  refine z_get (v := .ref (aO 10)) X 0 0 12 9 ziX11 rfl (by decide) zsn_f rfl dX11_demandSnapshot_6 rfl rfl rfl ?_
  refine z_alen (v := (4 : Int32)) X 0 1 4 rfl rfl dX11_demandSnapshot_9 rfl rfl ?_
  refine z_icmp_ge (tgt := 22) X dX11_demandSnapshot_10 (by decide) (fun c => absurd c (by decide)) (fun _ => ?_)
  refine z_aload_n X dX11_demandSnapshot_13 0 rfl ?_
  refine z_get (v := .ref (aO 10)) X 0 0 12 9 ziX11 rfl (by decide) zsn_f rfl dX11_demandSnapshot_14 rfl rfl rfl ?_
  refine z_iload_n X dX11_demandSnapshot_17 1 rfl ?_
  refine z_aaldq (v := .ref (aN 0)) X 0 1 4 (by decide) dX11_demandSnapshot_18 rfl rfl rfl rfl ?_
  refine z_goto (tgt := 23) X dX11_demandSnapshot_19 (by decide) ?_
  refine z_astore_n (lv2 := [(2, .ref (aN 0)), (0, .ref (aO 0)), (1, .int (0 : Int32))]) X dX11_demandSnapshot_23 rfl (by decide) rfl ?_
  refine z_aload_n X dX11_demandSnapshot_24 0 rfl ?_
  refine z_ifnonnull (tgt := 39) X dX11_demandSnapshot_25 (by decide) ?_
  refine z_aload_n X dX11_demandSnapshot_39 0 rfl ?_
  exact z_aret X hQ dX11_demandSnapshot_40 rfl [] rfl (by decide) (by decide)
abbrev rmX11_demandSnapshot_1 : Room := { frames := 0, cells := 0, slots := 0, locals := 0 }
theorem metX11_demandSnapshot_1 (l : Launch) (D : va_G) (T : Nat → ClassId) (aO : Nat → Nat) (aP : Nat → Nat) (aX : Nat → Nat) (aL : Nat → Nat) (aW : Nat → Nat) (aV : Nat → Nat) (aF : Nat → Nat) (aK : Nat → Nat) (aZ : Nat → Nat) (aR : Nat → Nat) (aN : Nat → Nat) {sO : zSt} (sz : Nat) : Met l yX11_demandSnapshot (zws yX11_demandSnapshot cX11_demandSnapshot 3 (some (.object "Tableaufloor$Point"))) rmX11_demandSnapshot_1 (zPc D T [.ref (aO 0), .int (1 : Int32)] [wX11 T aO (aP 0) (aX 0) (aL 0) (aW 0) (aV 0) (aF 0) (aK 0) (aZ 0) (aR 0) aN sO] sz) (zQr D (aN 1) [] (zA [] sz)) 0 0 (zA [] sz) := by
  refine zMet (D := D) (T := T) (av := [.ref (aO 0), .int (1 : Int32)]) (ws := fun T => [wX11 T aO (aP 0) (aX 0) (aL 0) (aW 0) (aV 0) (aF 0) (aK 0) (aZ 0) (aR 0) aN sO]) (wm := fun T => []) (lv0 := [(0, .ref (aO 0)), (1, .int (1 : Int32))]) [] (Qc := fun D T A => zQr D (aN 1) [] A) (by decide +kernel) rfl (Nat.le_of_ble_eq_true rfl) rfl (fun C X hQ => ?_) sz
  refine z_iload_n X dX11_demandSnapshot_0 1 rfl ?_
  refine z_if_lt (tgt := 22) X dX11_demandSnapshot_1 (by decide) (fun c => absurd c (by decide)) (fun _ => ?_)
  refine z_iload_n X dX11_demandSnapshot_4 1 rfl ?_
  refine z_aload_n X dX11_demandSnapshot_5 0 rfl ?_
  refine z_get (v := .ref (aO 10)) X 0 0 12 9 ziX11 rfl (by decide) zsn_f rfl dX11_demandSnapshot_6 rfl rfl rfl ?_
  refine z_alen (v := (4 : Int32)) X 0 1 4 rfl rfl dX11_demandSnapshot_9 rfl rfl ?_
  refine z_icmp_ge (tgt := 22) X dX11_demandSnapshot_10 (by decide) (fun c => absurd c (by decide)) (fun _ => ?_)
  refine z_aload_n X dX11_demandSnapshot_13 0 rfl ?_
  refine z_get (v := .ref (aO 10)) X 0 0 12 9 ziX11 rfl (by decide) zsn_f rfl dX11_demandSnapshot_14 rfl rfl rfl ?_
  refine z_iload_n X dX11_demandSnapshot_17 1 rfl ?_
  refine z_aaldq (v := .ref (aN 1)) X 0 1 4 (by decide) dX11_demandSnapshot_18 rfl rfl rfl rfl ?_
  refine z_goto (tgt := 23) X dX11_demandSnapshot_19 (by decide) ?_
  refine z_astore_n (lv2 := [(2, .ref (aN 1)), (0, .ref (aO 0)), (1, .int (1 : Int32))]) X dX11_demandSnapshot_23 rfl (by decide) rfl ?_
  refine z_aload_n X dX11_demandSnapshot_24 0 rfl ?_
  refine z_ifnonnull (tgt := 39) X dX11_demandSnapshot_25 (by decide) ?_
  refine z_aload_n X dX11_demandSnapshot_39 0 rfl ?_
  exact z_aret X hQ dX11_demandSnapshot_40 rfl [] rfl (by decide) (by decide)
abbrev rmX11_demandSnapshot_2 : Room := { frames := 0, cells := 0, slots := 0, locals := 0 }
theorem metX11_demandSnapshot_2 (l : Launch) (D : va_G) (T : Nat → ClassId) (aO : Nat → Nat) (aP : Nat → Nat) (aX : Nat → Nat) (aL : Nat → Nat) (aW : Nat → Nat) (aV : Nat → Nat) (aF : Nat → Nat) (aK : Nat → Nat) (aZ : Nat → Nat) (aR : Nat → Nat) (aN : Nat → Nat) {sO : zSt} (sz : Nat) : Met l yX11_demandSnapshot (zws yX11_demandSnapshot cX11_demandSnapshot 3 (some (.object "Tableaufloor$Point"))) rmX11_demandSnapshot_2 (zPc D T [.ref (aO 0), .int (2 : Int32)] [wX11 T aO (aP 0) (aX 0) (aL 0) (aW 0) (aV 0) (aF 0) (aK 0) (aZ 0) (aR 0) aN sO] sz) (zQr D (aN 2) [] (zA [] sz)) 0 0 (zA [] sz) := by
  refine zMet (D := D) (T := T) (av := [.ref (aO 0), .int (2 : Int32)]) (ws := fun T => [wX11 T aO (aP 0) (aX 0) (aL 0) (aW 0) (aV 0) (aF 0) (aK 0) (aZ 0) (aR 0) aN sO]) (wm := fun T => []) (lv0 := [(0, .ref (aO 0)), (1, .int (2 : Int32))]) [] (Qc := fun D T A => zQr D (aN 2) [] A) (by decide +kernel) rfl (Nat.le_of_ble_eq_true rfl) rfl (fun C X hQ => ?_) sz
  refine z_iload_n X dX11_demandSnapshot_0 1 rfl ?_
  refine z_if_lt (tgt := 22) X dX11_demandSnapshot_1 (by decide) (fun c => absurd c (by decide)) (fun _ => ?_)
  refine z_iload_n X dX11_demandSnapshot_4 1 rfl ?_
  refine z_aload_n X dX11_demandSnapshot_5 0 rfl ?_
  refine z_get (v := .ref (aO 10)) X 0 0 12 9 ziX11 rfl (by decide) zsn_f rfl dX11_demandSnapshot_6 rfl rfl rfl ?_
  refine z_alen (v := (4 : Int32)) X 0 1 4 rfl rfl dX11_demandSnapshot_9 rfl rfl ?_
  refine z_icmp_ge (tgt := 22) X dX11_demandSnapshot_10 (by decide) (fun c => absurd c (by decide)) (fun _ => ?_)
  refine z_aload_n X dX11_demandSnapshot_13 0 rfl ?_
  refine z_get (v := .ref (aO 10)) X 0 0 12 9 ziX11 rfl (by decide) zsn_f rfl dX11_demandSnapshot_14 rfl rfl rfl ?_
  refine z_iload_n X dX11_demandSnapshot_17 1 rfl ?_
  refine z_aaldq (v := .ref (aN 2)) X 0 1 4 (by decide) dX11_demandSnapshot_18 rfl rfl rfl rfl ?_
  refine z_goto (tgt := 23) X dX11_demandSnapshot_19 (by decide) ?_
  refine z_astore_n (lv2 := [(2, .ref (aN 2)), (0, .ref (aO 0)), (1, .int (2 : Int32))]) X dX11_demandSnapshot_23 rfl (by decide) rfl ?_
  refine z_aload_n X dX11_demandSnapshot_24 0 rfl ?_
  refine z_ifnonnull (tgt := 39) X dX11_demandSnapshot_25 (by decide) ?_
  refine z_aload_n X dX11_demandSnapshot_39 0 rfl ?_
  exact z_aret X hQ dX11_demandSnapshot_40 rfl [] rfl (by decide) (by decide)
abbrev rmX11_demandSnapshot_3 : Room := { frames := 0, cells := 0, slots := 0, locals := 0 }
theorem metX11_demandSnapshot_3 (l : Launch) (D : va_G) (T : Nat → ClassId) (aO : Nat → Nat) (aP : Nat → Nat) (aX : Nat → Nat) (aL : Nat → Nat) (aW : Nat → Nat) (aV : Nat → Nat) (aF : Nat → Nat) (aK : Nat → Nat) (aZ : Nat → Nat) (aR : Nat → Nat) (aN : Nat → Nat) {sO : zSt} (sz : Nat) : Met l yX11_demandSnapshot (zws yX11_demandSnapshot cX11_demandSnapshot 3 (some (.object "Tableaufloor$Point"))) rmX11_demandSnapshot_3 (zPc D T [.ref (aO 0), .int (3 : Int32)] [wX11 T aO (aP 0) (aX 0) (aL 0) (aW 0) (aV 0) (aF 0) (aK 0) (aZ 0) (aR 0) aN sO] sz) (zQr D (aN 3) [] (zA [] sz)) 0 0 (zA [] sz) := by
  refine zMet (D := D) (T := T) (av := [.ref (aO 0), .int (3 : Int32)]) (ws := fun T => [wX11 T aO (aP 0) (aX 0) (aL 0) (aW 0) (aV 0) (aF 0) (aK 0) (aZ 0) (aR 0) aN sO]) (wm := fun T => []) (lv0 := [(0, .ref (aO 0)), (1, .int (3 : Int32))]) [] (Qc := fun D T A => zQr D (aN 3) [] A) (by decide +kernel) rfl (Nat.le_of_ble_eq_true rfl) rfl (fun C X hQ => ?_) sz
  refine z_iload_n X dX11_demandSnapshot_0 1 rfl ?_
  refine z_if_lt (tgt := 22) X dX11_demandSnapshot_1 (by decide) (fun c => absurd c (by decide)) (fun _ => ?_)
  refine z_iload_n X dX11_demandSnapshot_4 1 rfl ?_
  refine z_aload_n X dX11_demandSnapshot_5 0 rfl ?_
  refine z_get (v := .ref (aO 10)) X 0 0 12 9 ziX11 rfl (by decide) zsn_f rfl dX11_demandSnapshot_6 rfl rfl rfl ?_
  refine z_alen (v := (4 : Int32)) X 0 1 4 rfl rfl dX11_demandSnapshot_9 rfl rfl ?_
  refine z_icmp_ge (tgt := 22) X dX11_demandSnapshot_10 (by decide) (fun c => absurd c (by decide)) (fun _ => ?_)
  refine z_aload_n X dX11_demandSnapshot_13 0 rfl ?_
  refine z_get (v := .ref (aO 10)) X 0 0 12 9 ziX11 rfl (by decide) zsn_f rfl dX11_demandSnapshot_14 rfl rfl rfl ?_
  refine z_iload_n X dX11_demandSnapshot_17 1 rfl ?_
  refine z_aaldq (v := .ref (aN 3)) X 0 1 4 (by decide) dX11_demandSnapshot_18 rfl rfl rfl rfl ?_
  refine z_goto (tgt := 23) X dX11_demandSnapshot_19 (by decide) ?_
  refine z_astore_n (lv2 := [(2, .ref (aN 3)), (0, .ref (aO 0)), (1, .int (3 : Int32))]) X dX11_demandSnapshot_23 rfl (by decide) rfl ?_
  refine z_aload_n X dX11_demandSnapshot_24 0 rfl ?_
  refine z_ifnonnull (tgt := 39) X dX11_demandSnapshot_25 (by decide) ?_
  refine z_aload_n X dX11_demandSnapshot_39 0 rfl ?_
  exact z_aret X hQ dX11_demandSnapshot_40 rfl [] rfl (by decide) (by decide)
theorem zsn_s : Cond.stringRef RX11 358 "no such snapshot" ∈ tables_1 := List.mem_of_getElem? (i := 1295) (by decide +kernel)
abbrev rmX11_demandSnapshot : Room := { frames := 6, cells := 1, slots := 6, locals := 82 }
abbrev zQxr (D : va_G) (A : Nat → Prop) : Array Value → State → Outcome → State → Prop := fun _ _ _ _ => False
theorem metX11_demandSnapshot (l : Launch) (hst : l.stackTraces = false) (D : va_G) (T : Nat → ClassId) (aO : Nat → Nat) (aP : Nat → Nat) (aX : Nat → Nat) (aL : Nat → Nat) (aW : Nat → Nat) (aV : Nat → Nat) (aF : Nat → Nat) (aK : Nat → Nat) (aZ : Nat → Nat) (aR : Nat → Nat) (aN : Nat → Nat) {sO : zSt} {x1 : Int32} (hx : x1 < 0 ∨ 4 ≤ x1) (base sz : Nat) : vx_Met l yX11_demandSnapshot (zws yX11_demandSnapshot cX11_demandSnapshot 3 (some (.object "Tableaufloor$Point"))) rmX11_demandSnapshot (zPx D T [.ref (aO 0), .int x1] [wX11 T aO (aP 0) (aX 0) (aL 0) (aW 0) (aV 0) (aF 0) (aK 0) (aZ 0) (aR 0) aN sO] [] base sz) (zQxi D (.inl "java/lang/IllegalArgumentException") [] (zA [] sz)) (zXxi D (.inl "java/lang/IllegalArgumentException") [] (zA [] sz)) 1 6 (zA [] sz) := by
  refine zMetXi hst (D := D) (T := T) (av := [.ref (aO 0), .int x1]) (ws := fun T => [wX11 T aO (aP 0) (aX 0) (aL 0) (aW 0) (aV 0) (aF 0) (aK 0) (aZ 0) (aR 0) aN sO]) (wm := fun T => []) (gm1 := fun T => []) (o := .inl "java/lang/IllegalArgumentException") (lv0 := [(0, .ref (aO 0)), (1, .int x1)]) [] (by decide +kernel) rfl (Nat.le_of_ble_eq_true rfl) rfl (fun C base X Y hQ => ?_) base sz
  have hend : zG C 3 [] 0 0 [wX11 (zcT C) aO (aP 0) (aX 0) (aL 0) (aW 0) (aV 0) (aF 0) (aK 0) (aZ 0) (aR 0) aN sO] 22 [(0, .ref (aO 0)), (1, .int x1)] [] := by
    refine z_null X dX11_demandSnapshot_22 ?_
    refine z_astore_nN (lv2 := [(2, .null), (0, .ref (aO 0)), (1, .int x1)]) X dX11_demandSnapshot_23 rfl (by decide) rfl ?_
    refine z_aload_nN X dX11_demandSnapshot_24 0 rfl ?_
    refine z_ifnonnullN X dX11_demandSnapshot_25 ?_
    exact z_throwWi X Y hQ rfl zt_RX11_87 zsn_s dX11_demandSnapshot_28 dX11_demandSnapshot_31 dX11_demandSnapshot_32 dX11_demandSnapshot_35 dX11_demandSnapshot_38 [] rfl (by decide) (by decide) (by decide) (by decide) (by decide) (by decide)
  refine z_iload_n X dX11_demandSnapshot_0 1 rfl ?_
  refine z_if_lt (tgt := 22) X dX11_demandSnapshot_1 (by decide) (fun c => hend) (fun c0 => ?_)
  refine z_iload_n X dX11_demandSnapshot_4 1 rfl ?_
  refine z_aload_n X dX11_demandSnapshot_5 0 rfl ?_
  refine z_get (v := .ref (aO 10)) X 0 0 12 9 ziX11 rfl (by decide) zsn_f rfl dX11_demandSnapshot_6 rfl rfl rfl ?_
  refine z_alen (v := (4 : Int32)) X 0 1 4 rfl rfl dX11_demandSnapshot_9 rfl rfl ?_
  exact z_icmp_ge (tgt := 22) X dX11_demandSnapshot_10 (by decide) (fun _ => hend) (fun c => absurd (hx.resolve_left c0) c)
abbrev rmX11_keep : Room := { frames := 7, cells := 1, slots := 6, locals := 104 }
theorem zsn_keep : Cond.methodLink RX11 309 yX11_demandSnapshot ∈ zW := zW_tab (List.mem_of_getElem? (i := 1291) (by decide +kernel)) (by decide +kernel)
theorem metX11_keep (l : Launch) (hst : l.stackTraces = false) (D : va_G) (T : Nat → ClassId) (aO : Nat → Nat) (aP : Nat → Nat) (aX : Nat → Nat) (aL : Nat → Nat) (aW : Nat → Nat) (aV : Nat → Nat) (aF : Nat → Nat) (aK : Nat → Nat) (aZ : Nat → Nat) (aR : Nat → Nat) (aN : Nat → Nat) {sO : zSt} {x1 : Int32} (hx : x1 < 0 ∨ 4 ≤ x1) (base sz : Nat) : vx_Met l yX11_keep (zws yX11_keep cX11_keep 4 (some .char)) rmX11_keep (zPx D T [.ref (aO 0), .int x1] [wX11 T aO (aP 0) (aX 0) (aL 0) (aW 0) (aV 0) (aF 0) (aK 0) (aZ 0) (aR 0) aN sO] [] base sz) (zQxi D (.inl "java/lang/IllegalArgumentException") [] (zA [] sz)) (zXxi D (.inl "java/lang/IllegalArgumentException") [] (zA [] sz)) 1 6 (zA [] sz) := by
  refine zMetXi hst (D := D) (T := T) (av := [.ref (aO 0), .int x1]) (ws := fun T => [wX11 T aO (aP 0) (aX 0) (aL 0) (aW 0) (aV 0) (aF 0) (aK 0) (aZ 0) (aR 0) aN sO]) (wm := fun T => []) (gm1 := fun T => []) (o := .inl "java/lang/IllegalArgumentException") (lv0 := [(0, .ref (aO 0)), (1, .int x1)]) [] (by decide +kernel) rfl (Nat.le_of_ble_eq_true rfl) rfl (fun C base X Y hQ => ?_) base sz
  refine z_aload_n X dX11_keep_0 0 rfl ?_
  refine z_iload_n X dX11_keep_1 1 rfl ?_
  refine z_xcallVi (st := []) (ws2 := [wX11 (zcT C) aO (aP 0) (aX 0) (aL 0) (aW 0) (aV 0) (aF 0) (aK 0) (aZ 0) (aR 0) aN sO]) X Y (metX11_demandSnapshot (zcl C) Y.2.2.2.2.1 (zcD C) (zcT C) aO aP aX aL aW aV aF aK aZ aR aN (sO := sO) hx) zmX11_demandSnapshot zsn_keep dX11_keep_2 0 0 12 rfl rfl rfl rfl [0] rfl rfl [] rfl (by decide) trivial rfl rfl rfl (Nat.le_of_ble_eq_true rfl) rfl rfl ⟨Nat.le_of_ble_eq_true rfl, Nat.le_of_ble_eq_true rfl⟩ ⟨Nat.le_of_ble_eq_true rfl, Nat.le_of_ble_eq_true rfl⟩ (fun E hE => ?_) (fun r hr => by cases hr)
  exact z_xouti X Y hQ hE [] rfl (by decide) (by decide)
abbrev rmX11_kept : Room := { frames := 7, cells := 1, slots := 6, locals := 104 }
theorem zsn_kept : Cond.methodLink RX11 309 yX11_demandSnapshot ∈ zW := zW_tab (List.mem_of_getElem? (i := 1291) (by decide +kernel)) (by decide +kernel)
theorem metX11_kept (l : Launch) (hst : l.stackTraces = false) (D : va_G) (T : Nat → ClassId) (aO : Nat → Nat) (aP : Nat → Nat) (aX : Nat → Nat) (aL : Nat → Nat) (aW : Nat → Nat) (aV : Nat → Nat) (aF : Nat → Nat) (aK : Nat → Nat) (aZ : Nat → Nat) (aR : Nat → Nat) (aN : Nat → Nat) {sO : zSt} {x1 : Int32} (hx : x1 < 0 ∨ 4 ≤ x1) (base sz : Nat) : vx_Met l yX11_kept (zws yX11_kept cX11_kept 2 (some .char)) rmX11_kept (zPx D T [.ref (aO 0), .int x1] [wX11 T aO (aP 0) (aX 0) (aL 0) (aW 0) (aV 0) (aF 0) (aK 0) (aZ 0) (aR 0) aN sO] [] base sz) (zQxi D (.inl "java/lang/IllegalArgumentException") [] (zA [] sz)) (zXxi D (.inl "java/lang/IllegalArgumentException") [] (zA [] sz)) 1 6 (zA [] sz) := by
  refine zMetXi hst (D := D) (T := T) (av := [.ref (aO 0), .int x1]) (ws := fun T => [wX11 T aO (aP 0) (aX 0) (aL 0) (aW 0) (aV 0) (aF 0) (aK 0) (aZ 0) (aR 0) aN sO]) (wm := fun T => []) (gm1 := fun T => []) (o := .inl "java/lang/IllegalArgumentException") (lv0 := [(0, .ref (aO 0)), (1, .int x1)]) [] (by decide +kernel) rfl (Nat.le_of_ble_eq_true rfl) rfl (fun C base X Y hQ => ?_) base sz
  refine z_aload_n X dX11_kept_0 0 rfl ?_
  refine z_aload_n X dX11_kept_1 0 rfl ?_
  refine z_iload_n X dX11_kept_2 1 rfl ?_
  refine z_xcallVi (st := [.ref (aO 0)]) (ws2 := [wX11 (zcT C) aO (aP 0) (aX 0) (aL 0) (aW 0) (aV 0) (aF 0) (aK 0) (aZ 0) (aR 0) aN sO]) X Y (metX11_demandSnapshot (zcl C) Y.2.2.2.2.1 (zcD C) (zcT C) aO aP aX aL aW aV aF aK aZ aR aN (sO := sO) hx) zmX11_demandSnapshot zsn_kept dX11_kept_3 0 0 12 rfl rfl rfl rfl [0] rfl rfl [] rfl (by decide) trivial rfl rfl rfl (Nat.le_of_ble_eq_true rfl) rfl rfl ⟨Nat.le_of_ble_eq_true rfl, Nat.le_of_ble_eq_true rfl⟩ ⟨Nat.le_of_ble_eq_true rfl, Nat.le_of_ble_eq_true rfl⟩ (fun E hE => ?_) (fun r hr => by cases hr)
  exact z_xouti X Y hQ hE [] rfl (by decide) (by decide)
abbrev rmX11_brokenBy : Room := { frames := 7, cells := 1, slots := 6, locals := 104 }
theorem zsn_brokenBy : Cond.methodLink RX11 309 yX11_demandSnapshot ∈ zW := zW_tab (List.mem_of_getElem? (i := 1291) (by decide +kernel)) (by decide +kernel)
theorem metX11_brokenBy (l : Launch) (hst : l.stackTraces = false) (D : va_G) (T : Nat → ClassId) (aO : Nat → Nat) (aP : Nat → Nat) (aX : Nat → Nat) (aL : Nat → Nat) (aW : Nat → Nat) (aV : Nat → Nat) (aF : Nat → Nat) (aK : Nat → Nat) (aZ : Nat → Nat) (aR : Nat → Nat) (aN : Nat → Nat) {sO : zSt} {x1 : Int32} (hx : x1 < 0 ∨ 4 ≤ x1) (base sz : Nat) : vx_Met l yX11_brokenBy (zws yX11_brokenBy cX11_brokenBy 3 (some .int)) rmX11_brokenBy (zPx D T [.ref (aO 0), .int x1] [wX11 T aO (aP 0) (aX 0) (aL 0) (aW 0) (aV 0) (aF 0) (aK 0) (aZ 0) (aR 0) aN sO] [] base sz) (zQxi D (.inl "java/lang/IllegalArgumentException") [] (zA [] sz)) (zXxi D (.inl "java/lang/IllegalArgumentException") [] (zA [] sz)) 1 6 (zA [] sz) := by
  refine zMetXi hst (D := D) (T := T) (av := [.ref (aO 0), .int x1]) (ws := fun T => [wX11 T aO (aP 0) (aX 0) (aL 0) (aW 0) (aV 0) (aF 0) (aK 0) (aZ 0) (aR 0) aN sO]) (wm := fun T => []) (gm1 := fun T => []) (o := .inl "java/lang/IllegalArgumentException") (lv0 := [(0, .ref (aO 0)), (1, .int x1)]) [] (by decide +kernel) rfl (Nat.le_of_ble_eq_true rfl) rfl (fun C base X Y hQ => ?_) base sz
  refine z_aload_n X dX11_brokenBy_0 0 rfl ?_
  refine z_iload_n X dX11_brokenBy_1 1 rfl ?_
  refine z_xcallVi (st := []) (ws2 := [wX11 (zcT C) aO (aP 0) (aX 0) (aL 0) (aW 0) (aV 0) (aF 0) (aK 0) (aZ 0) (aR 0) aN sO]) X Y (metX11_demandSnapshot (zcl C) Y.2.2.2.2.1 (zcD C) (zcT C) aO aP aX aL aW aV aF aK aZ aR aN (sO := sO) hx) zmX11_demandSnapshot zsn_brokenBy dX11_brokenBy_2 0 0 12 rfl rfl rfl rfl [0] rfl rfl [] rfl (by decide) trivial rfl rfl rfl (Nat.le_of_ble_eq_true rfl) rfl rfl ⟨Nat.le_of_ble_eq_true rfl, Nat.le_of_ble_eq_true rfl⟩ ⟨Nat.le_of_ble_eq_true rfl, Nat.le_of_ble_eq_true rfl⟩ (fun E hE => ?_) (fun r hr => by cases hr)
  exact z_xouti X Y hQ hE [] rfl (by decide) (by decide)
