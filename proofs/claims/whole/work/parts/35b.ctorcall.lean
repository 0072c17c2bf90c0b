/-! Calls of constructors. Written by wip/gen/mkctor.py, as are the constructors behind them. -/
section ZCI
variable {C : zCtx} {cc : ByteArray} {nL : Nat} {own : String} {rm : Room} {ret : Option FieldType} {mp mp2 : List Nat} {cells slots : Nat} {ws : List va_W} {pc : Nat} {lv : List (Nat × Value)} {st st0 : List Value}
variable {y : MethodName} {bytes : ByteArray} {maxL n index mc ms : Nat} {rmc : Room} {wc : List va_W} {As : List Value} {b : Nat} {e : va_E} {G : (Nat → Nat) → List va_W}
def zPcE (D : va_G) (T : Nat → ClassId) (av : List Value) (ws : List va_W) (sz : Nat) : Array Value → State → Prop := fun a U => zPc D T av ws sz a U ∧ va_AO RX4 U
theorem zPcE_blind {D : va_G} {T : Nat → ClassId} {av : List Value} {ws : List va_W} {sz : Nat} : FrameBlind (zPcE D T av ws sz) := fun a U g mk q => ⟨zPc_blind a U g mk q.1, va_AO.moved (u := U) (U := U.calling g mk a) (Vm.Alike.refl U.vm) q.2⟩
theorem zapp_at {gs ns : List va_W} {L i : Nat} {v : va_W} (hL : gs.length = L) (h : (gs ++ ns)[i]? = some v) : (i < L ∧ gs[i]? = some v) ∨ (L ≤ i ∧ ns[i - L]? = some v) := by
  subst hL
  by_cases hl : i < gs.length
  · rw [List.getElem?_append_left hl] at h
    exact Or.inl ⟨hl, h⟩
  · rw [List.getElem?_append_right (by omega)] at h
    exact Or.inr ⟨by omega, h⟩
theorem znewback {D : va_G} {gs ns : List va_W} {g : Nat} {H H1 : Heap} (hP : zGP D gs H) (hD : zGD gs) (hg : gs[g]? = some [(b, e)]) (hk : ∀ q : Nat, q < H.size → ¬ zA [[(b, e)]] H.size q → H1[q]? = H[q]?) (hP1 : zGP D ns H1) (hD1 : zGD ns) (hA1 : ∀ w ∈ ns, ∀ x ∈ zad w, zA [[(b, e)]] H.size x) : zGP D (gs.set g [] ++ ns) H1 ∧ zGD (gs.set g [] ++ ns) := by
  have hlen : (gs.set g []).length = gs.length := by simp
  have old : ∀ {i : Nat} {v : va_W}, (gs.set g [])[i]? = some v → v = [] ∨ (i ≠ g ∧ gs[i]? = some v) := by
    intro i v hv
    rcases zset_at hg hv with ⟨-, h⟩ | h
    · exact Or.inl h
    · exact Or.inr h
  have far : ∀ {i : Nat} {v : va_W}, i ≠ g → gs[i]? = some v → ∀ x ∈ zad v, x < H.size ∧ ¬ zA [[(b, e)]] H.size x := by
    intro i v hi hv x hx
    obtain ⟨z, hz, rfl⟩ := List.mem_map.mp hx
    obtain ⟨n, hn⟩ := List.getElem?_of_mem hz
    have hlt := (hP i v hv n z hn).lt
    refine ⟨hlt, fun h => ?_⟩
    rcases h with ⟨w, hw, hxw⟩ | h
    · have hw1 : w = [(b, e)] := by simpa using hw
      subst hw1
      exact hD.2 i g v _ hi hv hg z.1 hx hxw
    · omega
  refine ⟨fun i v hv => ?_, fun i v hv => ?_, fun i j v u hij hv hu x hx hxu => ?_⟩
  · rcases zapp_at hlen hv with ⟨-, h⟩ | ⟨-, h⟩
    · rcases old h with rfl | ⟨hi, h2⟩
      · exact fun k q hq => by simp at hq
      · intro n z hz
        obtain ⟨h3, h4⟩ := far hi h2 z.1 (List.mem_map.mpr ⟨z, List.mem_of_getElem? hz, rfl⟩)
        exact (hP i v h2 n z hz).kept (hk z.1 h3 h4)
    · exact hP1 _ v h
  · rcases zapp_at hlen hv with ⟨-, h⟩ | ⟨-, h⟩
    · rcases old h with rfl | ⟨hi, h2⟩
      · exact ⟨fun i j p q h => by simp at h, fun k q h => by simp at h⟩
      · exact hD.1 i v h2
    · exact hD1.1 _ v h
  · rcases zapp_at hlen hv with ⟨l1, h⟩ | ⟨l1, h⟩ <;> rcases zapp_at hlen hu with ⟨l2, h'⟩ | ⟨l2, h'⟩
    · rcases old h with rfl | ⟨hi, h2⟩
      · simp [zad] at hx
      · rcases old h' with rfl | ⟨hi', h2'⟩
        · simp [zad] at hxu
        · exact hD.2 i j v u hij h2 h2' x hx hxu
    · rcases old h with rfl | ⟨hi, h2⟩
      · simp [zad] at hx
      · exact (far hi h2 x hx).2 (hA1 u (List.mem_of_getElem? h') x hxu)
    · rcases old h' with rfl | ⟨hi', h2'⟩
      · simp [zad] at hxu
      · exact (far hi' h2' x hxu).2 (hA1 v (List.mem_of_getElem? h) x hx)
    · exact hD1.2 _ _ v u (by omega) h h' x hx hxu
theorem z_callI (X : zFx C cc nL own rm ret) (hAO : va_AO RX4 (zcs C)) (hM : ∀ sz, Met (zcl C) y (zws y bytes maxL none) rmc (zPcE (zcD C) (zcT C) (.ref b :: As) wc sz) (zQn (zcD C) b G (zA [[(b, e)]] sz)) mc ms (zA [[(b, e)]] sz)) (M : Cond.code y bytes maxL none ∈ zW ∧ Cond.initialized y.cls ∈ zW ∧ Cond.instanceMethod y ∈ zW ∧ (y.cls ≠ "java/lang/invoke/MethodHandle" ∧ y.cls ≠ "java/lang/invoke/VarHandle" ∧ (parseMethodDescriptor y.desc).map (fun d => d.parameters.length) = some n)) (hyn : y.name = "<init>") (hlk : Cond.methodLink own index y ∈ zW) (hd : decode cc pc = .ok (.invokespecial index, 3)) (g L : Nat) (hL : ws.length = L) (hg : ws[g]? = some [(b, e)]) (isC : List Nat) (hC : isC.map (fun i => ws[i]?) = wc.map some) (hCn : va_nd isC = true) (hgm : g ∈ mp) (hmp : ∀ k ∈ mp2, k ∈ mp ∨ L ≤ k) (hst : st0 = As.reverse ++ .ref b :: st) (hn : As.length = n) (hcat : (st.map fun v => v.category).sum ≤ 8)
    (hrc : rmc.cells = mc) (hrs : rmc.slots = ms) (hroom : rmc.frames + 1 ≤ rm.frames ∧ 8 + (maxL + 11) + rmc.locals ≤ rm.locals) (hf : cells + mc ≤ rm.cells ∧ slots + ms ≤ rm.slots)
    (kk : ∀ u : Nat → Nat, u 0 = b → zG C nL mp2 (cells + mc) (slots + ms) (ws.set g [] ++ G u) (pc + 3) lv st) : zG C nL mp cells slots ws pc lv st0 := by
  intro H locs ls hP hD hmpA hS hl
  have hwA : ∀ q : Nat, zA [[(b, e)]] H.size q → zcA C q := by
    intro q hq
    rcases hq with ⟨w, hw, hx⟩ | hq
    · have hw1 : w = [(b, e)] := by simpa using hw
      subst hw1
      exact hmpA g hgm _ hg q hx
    · exact X.2.2.2.2.2.2.1 q (Nat.le_trans hS.1 hq)
  have hpre : ∀ U : State, U.heap = H → (zcs C).WarmedH U.vm → zPcE (zcD C) (zcT C) (.ref b :: As) wc H.size (.ref b :: As).toArray U := fun U hU hW => ⟨⟨rfl, by rw [hU], by rw [hU]; exact zsubP hP isC hC, va_K.moved hW.alike X.2.2.2.2.2.1, zsubD hD isC hCn hC, X.2.2.2.2.2.2.2.2.2.2.warm hW⟩, va_AO.moved hW.alike hAO⟩
  subst hst
  refine va_callv (va_runI (As := As) (rest := st) ⟨X.1, X.2.1, X.2.2.1, X.2.2.2.1, X.2.2.2.2.1⟩ (hM H.size) ⟨zcallB X.2.2.2.2.1 M.1 M.2.1 hlk M.2.2.2 hrc hrs (X.2.2.2.2.2.2.2.2.1 ▸ hroom), hyn, X.2.2.2.2.1 _ M.2.2.1⟩ ⟨zPcE_blind, hpre⟩ rfl hn hl.1 rfl (lv_room hcat) hd (X.2.2.2.2.2.2.2.2.1 ▸ hf)) hS (fun q _ h => hwA q h) hwA (fun u t H1 locs1 ht hvm hw hB hz1 hk1 hS1 => ?_)
  rw [ht] at hB
  obtain ⟨hu0, hua⟩ := hw
  obtain ⟨hP2, hD2⟩ := znewback hP hD hg hk1 hB.1 hB.2 hua
  refine kk u hu0 H1 locs1 ls hP2 hD2 (fun k hk w hw x hx => ?_) hS1 hl
  rcases zapp_at (L := L) (by simp [hL]) hw with ⟨h1, h2⟩ | ⟨-, h2⟩
  · rcases zset_at hg h2 with ⟨-, rfl⟩ | ⟨-, h3⟩
    · simp [zad] at hx
    · rcases hmp k hk with h | h
      · exact hmpA k h w h3 x hx
      · omega
  · exact hwA x (hua w (List.mem_of_getElem? h2) x hx)
theorem z_callIN (X : zFx C cc nL own rm ret) (hAO : va_AO RX4 (zcs C)) (hM : ∀ sz, Met (zcl C) y (zws y bytes maxL none) rmc (zPcE (zcD C) (zcT C) (.ref b :: As) wc sz) (zQn (zcD C) b G (zA [[(b, e)]] sz)) mc ms (zA [[(b, e)]] sz)) (M : Cond.code y bytes maxL none ∈ zW ∧ Cond.initialized y.cls ∈ zW ∧ Cond.instanceMethod y ∈ zW ∧ (y.cls ≠ "java/lang/invoke/MethodHandle" ∧ y.cls ≠ "java/lang/invoke/VarHandle" ∧ (parseMethodDescriptor y.desc).map (fun d => d.parameters.length) = some n)) (hyn : y.name = "<init>") {host : String} (hlk : Cond.methodLinkNest own index y host ∈ zNl) (hd : decode cc pc = .ok (.invokespecial index, 3)) (g L : Nat) (hL : ws.length = L) (hg : ws[g]? = some [(b, e)]) (isC : List Nat) (hC : isC.map (fun i => ws[i]?) = wc.map some) (hCn : va_nd isC = true) (hgm : g ∈ mp) (hmp : ∀ k ∈ mp2, k ∈ mp ∨ L ≤ k) (hst : st0 = As.reverse ++ .ref b :: st) (hn : As.length = n) (hcat : (st.map fun v => v.category).sum ≤ 8)
    (hrc : rmc.cells = mc) (hrs : rmc.slots = ms) (hroom : rmc.frames + 1 ≤ rm.frames ∧ 8 + (maxL + 11) + rmc.locals ≤ rm.locals) (hf : cells + mc ≤ rm.cells ∧ slots + ms ≤ rm.slots)
    (kk : ∀ u : Nat → Nat, u 0 = b → zG C nL mp2 (cells + mc) (slots + ms) (ws.set g [] ++ G u) (pc + 3) lv st) : zG C nL mp cells slots ws pc lv st0 := by
  intro H locs ls hP hD hmpA hS hl
  have hwA : ∀ q : Nat, zA [[(b, e)]] H.size q → zcA C q := by
    intro q hq
    rcases hq with ⟨w, hw, hx⟩ | hq
    · have hw1 : w = [(b, e)] := by simpa using hw
      subst hw1
      exact hmpA g hgm _ hg q hx
    · exact X.2.2.2.2.2.2.1 q (Nat.le_trans hS.1 hq)
  have hpre : ∀ U : State, U.heap = H → (zcs C).WarmedH U.vm → zPcE (zcD C) (zcT C) (.ref b :: As) wc H.size (.ref b :: As).toArray U := fun U hU hW => ⟨⟨rfl, by rw [hU], by rw [hU]; exact zsubP hP isC hC, va_K.moved hW.alike X.2.2.2.2.2.1, zsubD hD isC hCn hC, X.2.2.2.2.2.2.2.2.2.2.warm hW⟩, va_AO.moved hW.alike hAO⟩
  subst hst
  refine va_callv (va_runIN (As := As) (rest := st) ⟨X.1, X.2.1, X.2.2.1, X.2.2.2.1, X.2.2.2.2.1⟩ (hM H.size) ⟨va_cnB n X.2.2.2.2.1 (zgood M.1) rfl hrc hrs (X.2.2.2.2.2.2.2.2.2.2 _ hlk) (X.2.2.2.2.1 _ M.2.1) M.2.2.2 (X.2.2.2.2.2.2.2.2.1 ▸ hroom), hyn, X.2.2.2.2.1 _ M.2.2.1⟩ ⟨zPcE_blind, hpre⟩ rfl hn hl.1 rfl (lv_room hcat) hd (X.2.2.2.2.2.2.2.2.1 ▸ hf)) hS (fun q _ h => hwA q h) hwA (fun u t H1 locs1 ht hvm hw hB hz1 hk1 hS1 => ?_)
  rw [ht] at hB
  obtain ⟨hu0, hua⟩ := hw
  obtain ⟨hP2, hD2⟩ := znewback hP hD hg hk1 hB.1 hB.2 hua
  refine kk u hu0 H1 locs1 ls hP2 hD2 (fun k hk w hw x hx => ?_) hS1 hl
  rcases zapp_at (L := L) (by simp [hL]) hw with ⟨h1, h2⟩ | ⟨-, h2⟩
  · rcases zset_at hg h2 with ⟨-, rfl⟩ | ⟨-, h3⟩
    · simp [zad] at hx
    · rcases hmp k hk with h | h
      · exact hmpA k h w h3 x hx
      · omega
  · exact hwA x (hua w (List.mem_of_getElem? h2) x hx)
end ZCI
def zst0 : zSt := (fun _ => 0, fun _ => 0, fun _ _ => 0, fun _ _ => 0)
